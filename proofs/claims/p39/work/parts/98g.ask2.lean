/-! QUESTIONS about stocks: told by moves; what has left the store -/
section REL
variable {L : Int} {M M1 : Wm} {m m1 : Cm} {p1 p2 p3 p4 : Int32}
theorem dO_e (a : Int32) : f11_demandOwner a = if f12_in a (-1) 3 = true then 0 else 1 := by
  have tm1 : (-1 : Int32).toInt = -1 := by decide
  rw [demandOwner_e]
  unfold f11_demand f11_isIn f12_in
  by_cases c : a = -1
  · subst c; rfl
  · rw [if_neg c]
    rw [i32eq, tm1] at c
    by_cases c1 : a < 0
    · rw [if_pos c1, if_pos (show a < -1 by simp only [i32lt, t32_0, tm1] at c1 ⊢; omega)]
    · rw [if_neg c1, if_neg (show ¬ a < -1 by simp only [i32lt, t32_0, tm1] at c1 ⊢; omega)]
/-- an owner by its number in the reference -/
def owI (p1 : Int32) : Int32 := if p1 = -1 then 4 else p1
theorem owI_c (h : f12_in p1 (-1) 3 = true) : vp_in (owI p1) 5 ∧ ow (owI p1) = p1 := by
  have r := isIn11_t (show f11_isIn p1 (-1) 3 = true from h)
  have tm1 : (-1 : Int32).toInt = -1 := by decide
  rw [tm1, t32_3] at r
  unfold owI
  by_cases c : p1 = -1
  · rw [if_pos c, c]; exact ⟨vin_lit (by decide), rfl⟩
  · rw [if_neg c]
    rw [i32eq, tm1] at c
    refine ⟨by rw [vp_in_iff]; omega, ow_c (by rw [vp_in_iff]; omega)⟩
theorem sbm_e (m : Cm) (p1 p2 : Int32) : f12_stockByMoves m p1 p2 = if f12_in p1 (-1) 3 = true ∧ f12_isGood p2 = true then (m 4 0 (8 * owI p1 + p2), u3 m 0 0 0 0) else (0, u3 m 0 0 0 1) := by
  unfold f12_stockByMoves owI
  simp only [bnd_e, jn_e]
  have e4 : u3 m 0 0 0 0 4 = m 4 := u3_ne _ _ _ (by decide)
  by_cases c : f12_in p1 (-1) 3 = true
  · rw [if_pos c]
    by_cases d : f12_isGood p2 = true
    · rw [if_pos d, if_pos (show f12_in p1 (-1) 3 = true ∧ f12_isGood p2 = true from ⟨c, d⟩)]
      simp only [Bool.false_eq_true, if_false, if_true, gw_f, e4]
      by_cases e : p1 = -1
      · rw [if_pos e, if_pos e]
      · rw [if_neg e, if_neg e]
    · rw [if_neg d, if_neg (show ¬ (f12_in p1 (-1) 3 = true ∧ f12_isGood p2 = true) from fun z => d z.2)]; rfl
  · rw [if_neg c, if_neg (show ¬ (f12_in p1 (-1) 3 = true ∧ f12_isGood p2 = true) from fun z => c z.1)]; rfl
theorem st_q (h : RW L M) {z : (Nat × Int32) × Wm} {f : Cm → Int32 × Cm} {v : Int32} (ez : z = if f11_demandOwner p1 = 0 then if f11_demandGood p2 = 0 then ((0, v), M) else ((f11_demandGood p2, 0), M) else ((f11_demandOwner p1, 0), M)) (ef : f (M 12) = f12_stockByMoves (M 12) p1 p2) (hv : f12_in p1 (-1) 3 = true → f12_isGood p2 = true → v = M 1 8 (p1 + 1) p2) : OpR L M (kfI 1 1) z f := by
  rw [sbm_e] at ef
  cases c : f12_in p1 (-1) 3 with
  | false =>
    have e1 : f11_demandOwner p1 = 1 := by rw [dO_e, c]; rfl
    rw [e1] at ez
    exact OpR.no (k := 1) (x := 0) h (by decide) (by decide) ez (by rw [ef, if_neg (fun z => by rw [c] at z; exact Bool.noConfusion z.1)]; rfl)
  | true =>
    have e1 : f11_demandOwner p1 = 0 := by rw [dO_e, c]; rfl
    rw [e1] at ez
    cases d : f12_isGood p2 with
    | false =>
      have e2 : f11_demandGood p2 = 1 := by rw [dG_e, d]; rfl
      rw [e2] at ez
      exact OpR.no (k := 1) (x := 0) h (by decide) (by decide) ez (by rw [ef, if_neg (fun z => by rw [d] at z; exact Bool.noConfusion z.2)]; rfl)
    | true =>
      have e2 : f11_demandGood p2 = 0 := by rw [dG_e, d]; rfl
      rw [e2] at ez
      obtain ⟨o1, o2⟩ := owI_c c
      have s := h.b.2.2.2 (owI p1) p2 o1 (isG_in d)
      rw [o2] at s
      have ev : v = M 12 4 0 (8 * owI p1 + p2) := (hv c d).trans s
      rw [ev] at ez
      exact OpR.qry h ez (by rw [ef, if_pos ⟨c, d⟩])
theorem R_stock (h : RW L M) : OpR L M (kfI 1 1) (f11_stock M p1 p2) (fun m => f12_stock m p1 p2) := st_q h rfl rfl (fun _ _ => rfl)
theorem told_lp (b : Cm) (o a : Int32) (h0 : 0 ≤ (b 0 0 7).toInt) : ∀ (k : Nat) (i acc : Int32), 0 ≤ i.toInt → i.toInt ≤ (b 0 0 7).toInt → (b 0 0 7).toInt - i.toInt < k → acc = tm b (o + 1) a i.toInt.toNat → f1_stockTold_lp19 b o a k (i, acc) = tm b (o + 1) a (b 0 0 7).toInt.toNat := by
  intro k
  induction k with
  | zero => intro i acc _ _ c; omega
  | succ k ih =>
    intro i acc i0 i1 c ea
    have hr := (i32rng (b 0 0 7)).2
    rw [f1_stockTold_lp19_s]
    simp only [bnd_e, jn_e]
    by_cases c1 : b 0 0 7 ≤ i
    · rw [if_pos c1]
      simp only [i32le] at c1
      rw [ea, show i.toInt.toNat = (b 0 0 7).toInt.toNat by omega]
    · rw [if_neg c1]
      simp only [i32le] at c1
      have e1 : (i + 1).toInt = i.toInt + 1 := inc_t i0 (by omega)
      have en : nI i.toInt.toNat = i := nI_e (by omega)
      have st : ∀ x : Int32, x = acc + ef b (o + 1) a i → f1_stockTold_lp19 b o a k (i + 1, x) = tm b (o + 1) a (b 0 0 7).toInt.toNat := by
        intro x ex
        refine ih (i + 1) x (by omega) (by omega) (by omega) ?_
        rw [ex, ea, e1, show (i.toInt + 1).toNat = i.toInt.toNat + 1 by omega, tm, en]
      have q : ∀ y : Int32, (y + 1 = o + 1) = (y = o) := fun y => propext ⟨fun z => by
        have := congrArg (fun w => w - 1) z
        simpa using this, fun z => by rw [z]⟩
      unfold ef at st
      simp only [q] at st
      by_cases c2 : b 5 0 i = a
      · rw [if_pos c2] at st ⊢
        by_cases c3 : b 4 0 i = o
        · rw [if_pos c3] at st ⊢
          by_cases c4 : b 3 0 i = o
          · rw [if_pos c4] at st ⊢; exact st _ (by rw [Int32.add_sub_cancel, Int32.sub_self, Int32.add_zero])
          · rw [if_neg c4] at st ⊢; exact st _ (by rw [Int32.sub_zero, Int32.sub_zero])
        · rw [if_neg c3] at st ⊢
          by_cases c4 : b 3 0 i = o
          · rw [if_pos c4] at st ⊢; exact st _ (by rw [Int32.add_zero, Int32.zero_sub, Int32.sub_eq_add_neg])
          · rw [if_neg c4] at st ⊢; exact st _ (by rw [Int32.sub_zero, Int32.sub_self])
      · rw [if_neg c2] at st ⊢; exact st _ (by rw [Int32.add_zero])
theorem told_e (b : Cm) (o a : Int32) (h0 : 0 ≤ (b 0 0 7).toInt) (h1 : (b 0 0 7).toInt ≤ 3000) : f1_stockTold b o a = tm b (o + 1) a (b 0 0 7).toInt.toNat := by
  have base : ∀ x : Int32, x = tm b (o + 1) a 0 → f1_stockTold_lp19 b o a 3001 (0, x) = tm b (o + 1) a (b 0 0 7).toInt.toNat := fun x ex => told_lp b o a h0 3001 0 x (by decide) (by rw [t32_0]; exact h0) (by rw [t32_0]; omega) (by rw [ex]; rfl)
  unfold f1_stockTold
  simp only [jn_e]
  by_cases c : o = -1
  · rw [if_pos c]
    refine base _ ?_
    show _ = if o + 1 = 0 then b 2 0 a else 0
    rw [if_pos (by rw [c]; rfl)]
  · rw [if_neg c]
    refine base _ ?_
    show _ = if o + 1 = 0 then b 2 0 a else 0
    rw [if_neg]
    intro z
    apply c
    have := congrArg (fun w => w - 1) z
    simpa using this
theorem R_stockByMoves (h : RW L M) : OpR L M (kfI 1 1) (f11_stockByMoves M p1 p2) (fun m => f12_stockByMoves m p1 p2) := by
  refine st_q h rfl rfl (fun c d => ?_)
  rw [told_e _ _ _ h.b.2.1.1 h.b.2.1.2]
  obtain ⟨o1, o2⟩ := owI_c c
  have r := ow_in o1
  rw [o2] at r
  exact (h.2.1.2.1.2.1 (p1 + 1) p2 r (isG_in d)).symm
/-- what has left the store by an order -/
theorem left_lp {b m : Cm} (h : RelBk b m) (o a : Int32) : ∀ (k k' : Nat) (i acc : Int32), 0 ≤ i.toInt → i.toInt ≤ (b 0 0 7).toInt → (b 0 0 7).toInt - i.toInt < k → (b 0 0 7).toInt - i.toInt < k' → f12_leftBy_lp41 o a (true, u3 m 0 0 0 0) k' (i, acc) = (f1_leftStoreBy_lp5 b o a k (i, acc), u3 m 0 0 0 0) := by
  intro k
  induction k with
  | zero => intro k' i acc _ _ c; omega
  | succ k ih =>
    intro k' i acc i0 i1 c c'
    have hr := h.2.1.2
    cases k' with
    | zero => omega
    | succ k' =>
      rw [f1_leftStoreBy_lp5_s, f12_leftBy_lp41_s]
      simp only [bnd_e, jn_e]
      rw [u3_s (show ¬ (21 : Int32) = 0 by decide), u3_ne _ _ _ (show ¬ 23 = 0 by decide), u3_ne _ _ _ (show ¬ 24 = 0 by decide), u3_ne _ _ _ (show ¬ 25 = 0 by decide), u3_ne _ _ _ (show ¬ 26 = 0 by decide), u3_ne _ _ _ (show ¬ 27 = 0 by decide), ← h.1]
      by_cases c1 : b 0 0 7 ≤ i
      · rw [if_pos c1, if_pos c1]
      · rw [if_neg c1, if_neg c1]
        simp only [i32le] at c1
        have e1 : (i + 1).toInt = i.toInt + 1 := inc_t i0 (by omega)
        have st := fun x : Int32 => ih k' (i + 1) x (by omega) (by omega) (by omega) (by omega)
        obtain ⟨⟨e3, e4, e5, e6, e7⟩, v3, v4, v5, ne⟩ := h.2.2.1 i i0 (by omega)
        have q : ∀ w : Int32, vp_in w 5 → (ow w = -1) = (w = 4) := by
          intro w hw
          refine propext ⟨fun z => ?_, fun z => by rw [z]; rfl⟩
          unfold ow at z
          by_cases y : w = 4
          · exact y
          · rw [if_neg y] at z
            rw [z, vp_in_iff] at hw
            exact absurd hw.1 (by decide)
        have q3 := q _ v3
        have q4 := q _ v4
        rw [e3, e4, e5, e6, e7]
        simp only [q3, q4]
        by_cases c2 : m 27 0 i = o
        · rw [if_pos c2, if_pos c2]
          by_cases c3 : m 25 0 i = a
          · rw [if_pos c3, if_pos c3]
            simp only [if_true]
            by_cases c4 : m 23 0 i = 4
            · have c5 : ¬ m 24 0 i = 4 := fun z => ne.1 (c4.trans z.symm)
              rw [if_pos c4, if_pos c4, if_neg c5, Int32.sub_zero]; exact st _
            · rw [if_neg c4, if_neg c4]
              by_cases c5 : m 24 0 i = 4
              · rw [if_pos c5, if_pos c5, Int32.add_zero, Int32.sub_eq_add_neg]; exact st _
              · rw [if_neg c5, if_neg c5, Int32.sub_zero]; exact st _
          · rw [if_neg c3, if_neg c3]
            simp only [Bool.false_eq_true, if_false]
            rw [Int32.add_zero]; exact st _
        · rw [if_neg c2, if_neg c2]
          simp only [Bool.false_eq_true, if_false]
          rw [Int32.add_zero]; exact st _
theorem R_leftBy (h : RW L M) : OpR L M (kfI 3 1) (f11_leftBy M p1 p2) (fun m => f12_leftBy m p1 p2) := by
  have h0 := h.o.2.2.1.1
  cases c : f12_in p1 0 (M 4 0 0 1 - 1) with
  | false =>
    exact OpR.no (k := 3) (x := 0) h (by decide) (by decide) (by simp [f11_leftBy, bnd, dI_e h0, c]) (by simp [f12_leftBy, bnd, jn, isO_e h, c, gw_1]; rfl)
  | true =>
    cases d : f12_isGood p2 with
    | false => exact OpR.no (k := 1) (x := 0) h (by decide) (by decide) (by simp [f11_leftBy, bnd, dI_e h0, dG_e, c, d]) (by simp [f12_leftBy, bnd, jn, isO_e h, c, d, gw_2]; rfl)
    | true =>
      have e := left_lp h.b p1 p2 3001 (3002 + 0 * p1.toInt.toNat) 0 0 (by decide) (by rw [t32_0]; exact h.b.2.1.1) (by rw [t32_0]; have := h.b.2.1.2; omega) (by rw [t32_0]; have := h.b.2.1.2; omega)
      exact OpR.qry (v := f1_leftStoreBy (M 1) p1 p2) h (by simp [f11_leftBy, bnd, dI_e h0, dG_e, c, d]) (by
        show f12_leftBy (M 12) p1 p2 = _
        unfold f12_leftBy
        simp only [bnd_e, jn_e]
        rw [isO_e h, if_pos c, if_pos d, gw_0, if_pos rfl, e]; rfl)
end REL
