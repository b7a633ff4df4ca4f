/-! expressions: the whole interpreter, in both -/
section OPS
variable {t x8 : Cm} {E : Int32 → Int32 → Prop} {L : Int} {w : Int32} {VA : Wm → Int32 → Int32 → Int32 × Wm} {M0 M : Wm} {m0 m1 : Cm} {d s P first : Int32}
def H99 (t x8 : Cm) (E : Int32 → Int32 → Prop) : Prop := ∀ (m : Cm) (s n : Int32), Ok12 m → TextR t x8 m E → vp_in s 8 → f12_faultOf m s = -1 → ExE (E s) n → CN12 m s n ≤ 99
theorem tk_no {m : Cm} (h : m 0 0 58 = m 16 0 (m 0 0 56)) : f12_takesFuel m = (false, m) := by
  unfold f12_takesFuel; rw [if_pos h]
def entE (r1 : Int32) (q : Bool × Cm) : Cm := if q.1 = true then if (q.2 0 0 45) < 30 then if r1 = 40 then f12_open q.2 else if f12_isLetter r1 = true then f12_valueName q.2 (f12_nameAt q.2 (q.2 0 0 60) (q.2 0 0 61)) else u3 q.2 0 0 62 (f12_numberAt q.2 (q.2 0 0 60) (q.2 0 0 61)) else u3 q.2 0 0 63 2 else u3 q.2 0 0 63 7
theorem enter_e (m : Cm) : f12_enter m = entE (f12_signAt m (m 0 0 60) (m 0 0 61)) (f12_takesFuel (u3 m 0 0 59 0)) := by
  unfold f12_enter entE
  simp only [bnd_e]
def valE (VA : Wm → Int32 → Int32 → Int32 × Wm) (M : Wm) (p1 p2 : Int32) (q : Bool × Cm) : Int32 × Wm := if q.1 = true then if p2 < 30 then (if f9_kindOf (M 9) p1 = 1 then (f9_contentOf (M 9) p1, uW (uW M 5 q.2) 7 (u3 (M 7) 0 0 9 (M 7 0 0 9 + 1))) else if f9_kindOf (M 9) p1 = 2 then f7_valueOfName (uW (uW M 5 q.2) 7 (u3 (M 7) 0 0 9 (M 7 0 0 9 + 1))) (f9_contentOf (M 9) p1) else f7_valueOfList VA (uW (uW M 5 q.2) 7 (u3 (M 7) 0 0 9 (M 7 0 0 9 + 1))) p1 p2) else (0, uW (uW (uW M 5 q.2) 7 (u3 (M 7) 0 0 9 (M 7 0 0 9 + 1))) 7 (u3 (u3 (M 7) 0 0 9 (M 7 0 0 9 + 1)) 0 0 10 2)) else (0, uW (uW M 5 q.2) 7 (u3 (M 7) 0 0 10 7))
theorem value_e {p1 p2 : Int32} (h : M 7 0 0 10 = 0) : f7_valueAt VA M p1 p2 = if M 7 0 0 8 ≤ M 7 0 0 9 then (0, uW M 7 (u3 (M 7) 0 0 10 7)) else valE VA M p1 p2 (f5_takesOne (M 5) (M 7 0 0 7)) := by
  unfold f7_valueAt valE
  simp only [bnd_e]
  rw [if_pos h]
  rfl
theorem value_0 {p1 p2 : Int32} (h : ¬ M 7 0 0 10 = 0) : f7_valueAt VA M p1 p2 = (0, M) := by
  unfold f7_valueAt; rw [if_neg h]
theorem h0_ev : ∀ k : Nat, H0 (f7_ev k) := by
  intro k
  cases k with
  | zero => intro M a d h; exact value_0 h
  | succ k => intro M a d h; exact value_0 h
set_option maxHeartbeats 4000000 in
theorem value_c (hd : 0 ≤ d.toInt ∧ d.toInt ≤ 30) (hV : d.toInt < 30 → SimV t x8 E L w VA (d + 1)) (h0 : H0 VA) (hL1 : L ≤ 1000000) (h99 : H99 t x8 E) : SimV t x8 E L w (f7_valueAt VA) d := by
  intro M m s i hp
  obtain ⟨hW, hN, ⟨h10, h63⟩, ⟨h59, h60, h61, h45⟩, ⟨hs, hft, hE⟩, hcnt⟩ := hp
  have hW' := hW
  obtain ⟨⟨h9, h8⟩, hTx, hQ, hBk, hOr, hR, hk, hC⟩ := hW
  obtain ⟨⟨r6, r56⟩, rw0, r7, r8, r9, ⟨r90, rh⟩, r98, r81⟩ := hR
  have hT := (hTx s hs).2 hft
  have hX := faultOf_T hk hs hft
  have nd := hT.2 _ hE
  have le := nd.1.le hk hs
  have hcm := hk.cmp
  -- the step
  have top : (m 0 0 49).toInt ≤ 97 := by
    have := hN.1.1
    rw [← this]; omega
  have sp : StpP m := ⟨fun _ => ⟨hk, by rw [h60]; exact hX, by rw [h60, h61]; exact nd.1, hC, fun _ => top⟩, fun z => absurd z h59⟩
  have st := St.one (m := m) ⟨h63, Or.inl h59⟩ sp
  have e1 : stp12 m = f12_enter m := by unfold stp12; rw [if_neg h59]
  rw [e1, enter_e] at st
  refine PostA.st ?_ st
  rw [value_e h10, h60, h61]
  have hb58 : (m 0 0 58).toInt ≤ (m 16 0 w).toInt := by rw [← r9, ← r8]; exact r98
  by_cases c1 : m 0 0 58 = m 16 0 w
  · -- the budget is used
    have c1' : M 7 0 0 8 ≤ M 7 0 0 9 := by rw [r8, r9, c1]; exact Int32.le_refl _
    rw [if_pos c1']
    have tk := tk_no (m := u3 m 0 0 59 0) (by rw [u3_s (by decide), u3_s (by decide), u3_ne _ _ _ (by decide), r56]; exact c1)
    have F := TkF.c59 m
    have ok : Ok12 (u3 m 0 0 59 0) := ok12_put0 hk (by decide)
    have W1 := hW'.tk0 (q' := M 5) F ok (hQ.fr (u3_ne _ _ _ (by decide)) (u3_ne _ _ _ (by decide)) (u3_ne _ _ _ (by decide)) (u3_ne _ _ _ (by decide)) (u3_ne _ _ _ (by decide)) (u3_s (by decide))) (u3_s (by decide)) (by rw [u3_ne _ _ _ (by decide)])
    rw [uW_same] at W1
    rw [tk]
    have e : ∀ r : Int32, entE r (false, u3 m 0 0 59 0) = u3 (u3 m 0 0 59 0) 0 0 63 7 := by
      intro r; unfold entE; rw [if_neg (show ¬ (false : Bool) = true by decide)]
    rw [e]
    exact err0_c (idx := i) W1 (HsA.tk hW' F rfl rfl) (by decide)
  · have hlt : (M 7 0 0 9).toInt < (M 7 0 0 8).toInt := by
      rw [r9, r8]; rw [i32eq] at c1; omega
    have c1' : ¬ M 7 0 0 8 ≤ M 7 0 0 9 := by simp only [i32le]; omega
    rw [if_neg c1']
    have T := takes_c (q := M 5) (m := u3 m 0 0 59 0) (hQ.fr (u3_ne _ _ _ (by decide)) (u3_ne _ _ _ (by decide)) (u3_ne _ _ _ (by decide)) (u3_ne _ _ _ (by decide)) (u3_ne _ _ _ (by decide)) (u3_s (by decide))) (by rw [u3_s (by decide)]; exact hcm) (by rw [u3_s (by decide), u3_s (by decide), u3_ne _ _ _ (by decide), r56]; exact c1)
    rw [u3_s (show ¬ (57 : Int32) = 59 by decide), ← r7] at T
    have F := takes_F m
    have ok : Ok12 (f12_takesFuel (u3 m 0 0 59 0)).2 := (okT_f12_takesFuel (m0 := u3 m 0 0 59 0) ⟨ok12_put0 hk (by decide), rfl, rfl⟩).1
    generalize hq1 : f5_takesOne (M 5) (M 7 0 0 7) = q1 at T
    generalize hq2 : f12_takesFuel (u3 m 0 0 59 0) = q2 at T F ok
    obtain ⟨T1, T2, T3, T4⟩ := T
    unfold valE entE
    rw [T1]
    by_cases c2 : q2.1 = true
    · rw [if_pos c2, if_pos c2]
      obtain ⟨t58, t21⟩ := T3 c2
      rw [u3_s (by decide)] at t58
      rw [u3_ne _ _ _ (by decide), u3_s (by decide), r56] at t21
      have W1 := hW'.tk1 F ok T2 hlt t58 t21
      have HA : HsA w M m (uW (uW M 5 q1.2) 7 (u3 (M 7) 0 0 9 (M 7 0 0 9 + 1))) q2.2 := HsA.tk hW' F rfl rfl
      have e45 : q2.2 0 0 45 = d := (F.2 45 (by decide) (by decide)).trans h45
      rw [e45]
      by_cases c3 : d < 30
      · rw [if_pos c3, if_pos c3]
        have hd30 : d.toInt < 30 := by simp only [i32lt] at c3; exact c3
        have Us0 : Us M (uW (uW M 5 q1.2) 7 (u3 (M 7) 0 0 9 (M 7 0 0 9 + 1))) := by
          refine ⟨?_, rfl, rfl⟩
          show _ < (M 7 0 0 9 + 1).toInt
          rw [inc_t r90 (by omega)]; omega
        have N1 : NR t E (uW (uW M 5 q1.2) 7 (u3 (M 7) 0 0 9 (M 7 0 0 9 + 1))) q2.2 := hN.tk F rfl
        have e59 : q2.2 0 0 59 = 0 := by
          rw [← hq2, takesFuel_s _ (by decide), u3_at]
        have Mi : Mi0 t x8 E L w M m d (uW (uW M 5 q1.2) 7 (u3 (M 7) 0 0 9 (M 7 0 0 9 + 1))) q2.2 s i := ⟨W1, N1, ⟨h10, (F.2 63 (by decide) (by decide)).trans h63⟩, ⟨e59, (F.2 60 (by decide) (by decide)).trans h60, (F.2 61 (by decide) (by decide)).trans h61, e45⟩, HA, Kp.tk F, ⟨hd.1, hd30⟩, Us0⟩
        have tx := Mi.tx
        have e60 := Mi.2.2.2.1.2.1
        have e61 := Mi.2.2.2.1.2.2.1
        rw [h9, kind_e hs le.1 le.2, cont_e hs le.1 le.2, e60, e61, nameAt_fr tx, numberAt_fr tx]
        by_cases c4 : f12_signAt m s i = 40
        · have k3 := (nd.2.2.2.1 c4).1
          rw [if_pos c4, k3, if_neg (by decide), if_neg (by decide)]
          exact open_c Mi hs hft hE c4 hTx hk hC (fun n hn => h99 m s n hk hTx hs hft hn) hL1 (by
            have := hOr.2.1
            rw [this]; exact rh) (hV hd30) h0 hcnt ⟨rfl, rfl⟩
        · rw [if_neg c4]
          by_cases c5 : f12_isLetter (f12_signAt m s i) = true
          · have k2 := nd.2.2.2.2.1 c5
            rw [if_pos c5, k2.1, if_neg (by decide), if_pos rfl, k2.2]
            exact name_c Mi ⟨rfl, rfl⟩
          · have k1 := nd.2.2.2.2.2 c4 c5
            rw [if_neg c5, k1.1, if_pos rfl, k1.2]
            exact val0_c Mi ⟨rfl, rfl⟩
      · rw [if_neg c3, if_neg c3]
        exact err0_c (idx := i) W1 HA (by decide)
    · rw [if_neg c2, if_neg c2]
      have c2' : q2.1 = false := by simpa using c2
      obtain ⟨t58, t21⟩ := T4 c2'
      rw [u3_s (by decide)] at t58
      rw [u3_ne _ _ _ (by decide)] at t21
      have W1 := hW'.tk0 F ok T2 t58 t21
      exact err0_c (idx := i) W1 (HsA.tk hW' F rfl rfl) (by decide)
theorem ev_c (hL1 : L ≤ 1000000) (h99 : H99 t x8 E) : ∀ (k : Nat) (d : Int32), 0 ≤ d.toInt → d.toInt ≤ 30 → 30 ≤ d.toInt + k → SimV t x8 E L w (f7_ev k) d := by
  intro k
  induction k with
  | zero =>
    intro d h1 h2 h3
    exact value_c (VA := fun N _ _ => (0, N)) ⟨h1, h2⟩ (fun z => by omega) (fun M a d h => rfl) hL1 h99
  | succ k ih =>
    intro d h1 h2 h3
    exact value_c (VA := f7_ev k) ⟨h1, h2⟩ (fun z => ih (d + 1) (by rw [inc_t h1 (by omega)]; omega) (by rw [inc_t h1 (by omega)]; omega) (by rw [inc_t h1 (by omega)]; omega)) (h0_ev k) hL1 h99
end OPS
