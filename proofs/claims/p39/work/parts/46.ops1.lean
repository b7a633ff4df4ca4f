/-! THE FIRST NAMES: sums and choices -/
section OPS
variable {t x8 : Cm} {E : Int32 → Int32 → Prop} {L : Int} {w : Int32} {VA : Wm → Int32 → Int32 → Int32 × Wm} {M0 M : Wm} {m0 m1 : Cm} {d s P first : Int32}
theorem Mid.tx (h : Mid t x8 E L w M0 m0 d M m1) : m1 2 = m0 2 ∧ m1 3 = m0 3 := ⟨h.2.2.2.2.1.2.2.1.2.2.2.1, h.2.2.2.2.1.2.2.1.2.2.2.2⟩
theorem Mid.ok (h : Mid t x8 E L w M0 m0 d M m1) : Ok12 m1 := h.1.2.2.2.2.2.2.1
theorem Mid.m9 (h : Mid t x8 E L w M0 m0 d M m1) : M 9 = t := h.1.1.1
/-- what a list is: what stands behind its name -/
def LsC (t : Cm) (E : Int32 → Int32 → Prop) (m0 : Cm) (s P first : Int32) : Prop := (vp_in s 8 ∧ f12_faultOf m0 s = -1 ∧ TreeOk t m0 s (E s) ∧ Tx12 m0 s ∧ Ok12 m0) ∧ (∀ k : Int32, 1 ≤ k.toInt → f9_partOf t P k = Px s (skp12 m0 s (k.toInt.toNat - 1) first)) ∧ ((f9_partsOf t P).toInt = (CN12 m0 s first : Int) + 1) ∧ ExE (E s) first
theorem LsC.cn (h : LsC t E m0 s P first) (k : Nat) : skp12 m0 s k first = -1 ↔ CN12 m0 s first ≤ k := skp_cn h.1.2.2.2.2 h.1.1 h.1.2.2.2.1 k first (h.2.2.2.nx h.1.2.2.1)
theorem LsC.e (h : LsC t E m0 s P first) (k : Nat) (hk : k < CN12 m0 s first) : E s (skp12 m0 s k first) := (skp_ex h.1.2.2.1 k first h.2.2.2).resolve_left (fun z => by have := (h.cn k).mp z; omega)
theorem LsC.p (h : LsC t E m0 s P first) (k : Nat) (hk : k < CN12 m0 s first) (j : Int32) (hj : j.toInt = k + 1) : f9_partOf t P j = Pl s (skp12 m0 s k first) := by
  rw [h.2.1 j (by omega), show j.toInt.toNat - 1 = k by omega, Px_e (fun z => by have := (h.cn k).mp z; omega)]
theorem LsC.ix (h : LsC t E m0 s P first) {i : Int32} (hE : E s i) : Ix12 m0 s i := (h.1.2.2.1.2 i hE).1
theorem vp_e {m : Cm} (h : WR t x8 E L w M m) (P k d : Int32) : f7_valueOfPart VA M P k d = VA M (f9_partOf t P k) (d + 1) := by
  unfold f7_valueOfPart; rw [h.1.1]; rfl
theorem vp_0 (h0 : H0 VA) {M : Wm} (h : ¬ M 7 0 0 10 = 0) (P k d : Int32) : f7_valueOfPart VA M P k d = (0, M) := by
  unfold f7_valueOfPart; simp only [bnd]; rw [h0 _ _ _ h]
/-- cells of a level, and its text -/
def LvI (m : Cm) (d s op first : Int32) : Prop := m 31 0 d = s ∧ m 32 0 d = op ∧ m 35 0 d = first
theorem LvI.k {m m' : Cm} {op : Int32} (h : LvI m d s op first) (k : LvK d m m') : LvI m' d s op first := ⟨(k.1 31 (by decide) (by decide) (by decide) (by decide) (by decide)).trans h.1, (k.1 32 (by decide) (by decide) (by decide) (by decide) (by decide)).trans h.2.1, (k.1 35 (by decide) (by decide) (by decide) (by decide) (by decide)).trans h.2.2⟩
theorem Mid.lv (hM : Mid t x8 E L w M0 m0 d M m1) {g : Nat} (x : Int32) (hg : pg g = true) (h0 : ¬ g = 0) (h43 : ¬ g = 43) (hk : Ok12 (u3 m1 g 0 d x)) : Mid t x8 E L w M0 m0 d M (u3 m1 g 0 d x) := by
  have po := PO.g m1 0 d x hg h0
  obtain ⟨a1, a2, a3, a4, a5, a6, a7⟩ := hM
  refine ⟨a1.po po hk, a2.po po, ⟨a3.1, ?_⟩, ⟨?_, ?_⟩, a5.po po, a6.trans (Kp.l _ _ h43 (Int.le_refl _)), a7⟩
  · rw [u3_ne _ _ _ (fun z => h0 z.symm)]; exact a3.2
  · rw [u3_ne _ _ _ (fun z => h0 z.symm)]; exact a4.1
  · rw [u3_ne _ _ _ (fun z => h0 z.symm)]; exact a4.2
theorem next_p {op idx k : Int32} (hV : SimV t x8 E L w VA (d + 1)) (hL : LsC t E m0 s P first) (hM : Mid t x8 E L w M0 m0 d M m1) (hl : LvI m1 d s op first) (hE : E s idx) (hp : f9_partOf t P k = Pl s idx) (hc : (M 2 0 0 2).toInt ≤ 3 * d.toInt + 3) :
    (¬ (f7_valueOfPart VA M P k d).2 7 0 0 10 = 0 ∧ ∀ x : Int32, PostA t x8 E L w M0 m0 d (x, (f7_valueOfPart VA M P k d).2) (f12_valueNext m1 d idx)) ∨
    ((f7_valueOfPart VA M P k d).2 7 0 0 10 = 0 ∧ ∃ m4, Mid t x8 E L w M0 m0 d (f7_valueOfPart VA M P k d).2 m4 ∧ m4 0 0 62 = (f7_valueOfPart VA M P k d).1 ∧ LvK d m1 m4 ∧ m4 33 0 d = m1 33 0 d + 1 ∧ m4 34 0 d = idx ∧ ((f7_valueOfPart VA M P k d).2 2 0 0 2 = M 2 0 0 2 ∧ (f7_valueOfPart VA M P k d).2 2 0 0 3 = M 2 0 0 3 ∧ Us M (f7_valueOfPart VA M P k d).2) ∧ LvI m4 d s op first ∧ (AdvP m4 d → ∀ q, PostA t x8 E L w M0 m0 d q (f12_advance m4 d) → PostA t x8 E L w M0 m0 d q (f12_valueNext m1 d idx))) := by
  rw [vp_e hM.1, hp]
  rcases next_c hV hM hl.1 hE hL.1.1 (by rw [faultOf_fr hM.tx]; exact hL.1.2.1) hc with a | ⟨a, m4, b1, b2, b3, b4, b5, b6, b7, b8⟩
  · exact Or.inl a
  · exact Or.inr ⟨a, m4, b1, b2, b3, b4, b5, b6, hl.k b3, b8⟩
theorem bnd_e {α σ : Type} (x : α) (K : α → σ) : bnd x K = K x := by have h : bnd x K = K x := rfl; exact h.trans (Eq.refl _)
theorem adv_d {m : Cm} {op : Int32} (h : m 32 0 d = op) : f12_advance m d = if 8 < op then if 12 < op then if op = 13 then f12_repeat m d else if op = 14 then f12_goThrough m d else if op = 15 then f12_goThrough m d else if op = 16 then f12_tell m d else if op = 17 then f12_tell m d else if 20 < op then if op = 22 then f12_runScript m d else if op = 26 then f12_apply m d else f12_manage m d else f12_trade m d else f12_choose m d else f12_reckon m d := by
  unfold f12_advance; simp only [bnd_e, h]
theorem adv_reckon {m : Cm} {op : Int32} (h : m 32 0 d = op) (ho : op.toInt ≤ 8) : f12_advance m d = f12_reckon m d := by
  rw [adv_d h, if_neg (by simp only [i32lt, t32_8]; omega)]
theorem adv_choose {m : Cm} {op : Int32} (h : m 32 0 d = op) (ho : 9 ≤ op.toInt ∧ op.toInt ≤ 12) : f12_advance m d = f12_choose m d := by
  rw [adv_d h, if_pos (by simp only [i32lt, t32_8]; omega), if_neg (by simp only [i32lt]; rw [show (12 : Int32).toInt = 12 by decide]; omega)]
theorem AdvP.mk0 {m : Cm} {s op : Int32} (hs : m 31 0 d = s) (ho : m 32 0 d = op) (hT : Tx12 m s) (h : AdvQ m d op) : AdvP m d := ⟨by rw [hs]; exact hT, by rw [ho]; exact h⟩
theorem joined_e {op p q : Int32} {M : Wm} (ho : 0 ≤ op.toInt ∧ op.toInt ≤ 8) (hM : M 7 0 0 10 = 0) : f7_combine M op p q = if (op = 5 ∨ op = 6) ∧ q = 0 then (0, uW M 7 (u3 (M 7) 0 0 10 5)) else (f12_joined op p q, M) := by
  have hin : vp_in op 9 := by rw [vp_in_iff]; omega
  have mm : ∀ a b : Int32, mnI a b = if (b2i true) = (b2i (decide (a < b))) then a else b := by
    intro a b
    unfold mnI
    by_cases c : b < a
    · rw [if_pos c, if_neg]
      rw [decide_eq_false (by simp only [i32lt] at c ⊢; omega)]; decide
    · rw [if_neg c]
      by_cases c2 : a < b
      · rw [if_pos]; rw [decide_eq_true c2]
      · have e : a = b := by rw [i32eq]; simp only [i32lt] at c c2; omega
        rw [e]; split <;> rfl
  refine inN (P := fun op => f7_combine M op p q = if (op = 5 ∨ op = 6) ∧ q = 0 then (0, uW M 7 (u3 (M 7) 0 0 10 5)) else (f12_joined op p q, M)) (fun k hk => ?_) hin
  have : k = 0 ∨ k = 1 ∨ k = 2 ∨ k = 3 ∨ k = 4 ∨ k = 5 ∨ k = 6 ∨ k = 7 ∨ k = 8 := by omega
  unfold f7_combine
  rw [if_pos hM]
  rcases this with z | z | z | z | z | z | z | z | z <;> subst z
  · rfl
  · rfl
  · rfl
  · show (mnI p q, M) = _
    rw [if_neg (by intro z; exact absurd z.1 (by decide))]
    show (mnI p q, M) = (jn (fun (v11 : Bool) => if (b2i true) = (b2i v11) then p else q) (fun K12 => if q ≤ p then K12 false else K12 true), M)
    simp only [jn]
    unfold mnI
    by_cases c : q ≤ p
    · rw [if_pos c]
      by_cases c2 : q < p
      · rw [if_pos c2]; rfl
      · have e : p = q := by rw [i32eq]; simp only [i32lt, i32le] at c c2; omega
        rw [if_neg c2, e]; rfl
    · rw [if_neg c, if_neg (by simp only [i32lt, i32le] at c ⊢; omega)]; rfl
  · show (mxI p q, M) = _
    rw [if_neg (by intro z; exact absurd z.1 (by decide))]
    show (mxI p q, M) = (jn (fun (v11 : Bool) => if (b2i false) = (b2i v11) then p else q) (fun K12 => if q ≤ p then K12 false else K12 true), M)
    simp only [jn]
    unfold mxI
    by_cases c : q ≤ p
    · rw [if_pos c, if_neg (by simp only [i32lt, i32le] at c ⊢; omega)]; rfl
    · rw [if_neg c, if_pos (by simp only [i32lt, i32le] at c ⊢; omega)]; rfl
  · show (if q = 0 then _ else (p / q, M)) = _
    by_cases c : q = 0
    · rw [if_pos c, if_pos ⟨Or.inl rfl, c⟩]; rfl
    · rw [if_neg c, if_neg (fun z => c z.2)]; rfl
  · show (if q = 0 then _ else (p - p / q * q, M)) = _
    by_cases c : q = 0
    · rw [if_pos c, if_pos ⟨Or.inr rfl, c⟩]; rfl
    · rw [if_neg c, if_neg (fun z => c z.2)]; rfl
  · have hn : ¬ (((nI 7 : Int32) = 5 ∨ (nI 7 : Int32) = 6) ∧ q = 0) := fun z => absurd z.1 (by decide)
    rw [if_neg hn]
    show (if q ≤ p then (0, M) else (1, M)) = (if q ≤ p then (0 : Int32) else 1, M)
    by_cases c : q ≤ p
    · rw [if_pos c, if_pos c]
    · rw [if_neg c, if_neg c]
  · have hn : ¬ (((nI 8 : Int32) = 5 ∨ (nI 8 : Int32) = 6) ∧ q = 0) := fun z => absurd z.1 (by decide)
    rw [if_neg hn]
    show (if p = q then (1, M) else (0, M)) = (if p = q then (1 : Int32) else 0, M)
    by_cases c : p = q
    · rw [if_pos c, if_pos c]
    · rw [if_neg c, if_neg c]
theorem combine_0 {op p q : Int32} (h : ¬ M 7 0 0 10 = 0) : f7_combine M op p q = (0, M) := by unfold f7_combine; rw [if_neg h]
theorem reckon_c {op : Int32} (hV : SimV t x8 E L w VA (d + 1)) (h0 : H0 VA) (hL : LsC t E m0 s P first) (hn : CN12 m0 s first = 2) (hM : Mid t x8 E L w M0 m0 d M m1) (hl : LvI m1 d s op first) (l33 : m1 33 0 d = 0) (ho : 0 ≤ op.toInt ∧ op.toInt ≤ 8) (hc : (M 2 0 0 2).toInt ≤ 3 * d.toInt + 3) (hb : M 2 0 0 2 = M0 2 0 0 2 ∧ M 2 0 0 3 = M0 2 0 0 3) :
    PostA t x8 E L w M0 m0 d (f7_combine (f7_valueOfPart VA (f7_valueOfPart VA M P 1 d).2 P 2 d).2 op (f7_valueOfPart VA M P 1 d).1 (f7_valueOfPart VA (f7_valueOfPart VA M P 1 d).2 P 2 d).1) (f12_advance m1 d) := by
  have E1 : E s first := hL.e 0 (by omega)
  have P1 : f9_partOf t P 1 = Pl s first := hL.p 0 (by omega) 1 (by decide)
  have E2 := hL.e 1 (by omega)
  have P2 := hL.p 1 (by omega) 2 (by decide)
  have e2 : skp12 m0 s 1 first = f12_following m0 s first := by
    show (if first = -1 then -1 else f12_following m0 s first) = _
    rw [if_neg (hL.ix E1).ne]
  have a1 : f12_advance m1 d = f12_valueNext m1 d first := by
    rw [adv_reckon hl.2.1 ho.2]; unfold f12_reckon; rw [if_pos l33, hl.2.2]; rfl
  rw [a1]
  have Q : ∀ m : Cm, (o : m 33 0 d = 1 → Ix12 m (m 31 0 d) (m 34 0 d)) → AdvQ m d op := fun m o => ⟨fun _ => o, fun h => absurd h.1 (by omega), fun h => absurd h (by omega), fun h => absurd h.1 (by omega), fun h => absurd h.1 (by omega), fun h => absurd h.1 (by omega), fun h => absurd h (by omega), fun h => absurd h (by omega), fun h => absurd h.1 (by omega)⟩
  rcases next_p hV hL hM hl E1 P1 hc with ⟨x1, x2⟩ | ⟨x1, m4, y1, y2, y3, y4, y5, y6, y7, y8⟩
  · rw [vp_0 h0 x1, combine_0 x1]; exact x2 0
  · have t4 := y1.tx
    refine y8 (AdvP.mk0 y7.1 y7.2.1 (hL.1.2.2.2.1.fr t4) (Q m4 (fun _ => by rw [y7.1, y5]; exact (hL.ix E1).fr t4))) _ ?_
    have ok5 : Ok12 (u3 m4 36 0 d (m4 0 0 62)) := ok12_putA y1.ok (by decide)
    have t5 : (u3 m4 36 0 d (m4 0 0 62)) 2 = m0 2 ∧ (u3 m4 36 0 d (m4 0 0 62)) 3 = m0 3 := ⟨(u3_ne _ _ _ (by decide)).trans t4.1, (u3_ne _ _ _ (by decide)).trans t4.2⟩
    have a2 : f12_advance m4 d = f12_valueNext (u3 m4 36 0 d (m4 0 0 62)) d (skp12 m0 s 1 first) := by
      rw [adv_reckon y7.2.1 ho.2]; unfold f12_reckon
      rw [if_neg (by rw [y4, l33]; decide), if_pos (by rw [y4, l33]; decide)]
      simp only [bnd]
      rw [y7.1, y5, following_fr t5, e2]
    rw [a2]
    have M5 := y1.lv (m4 0 0 62) (g := 36) rfl (by decide) (by decide) ok5
    have l5 : LvI (u3 m4 36 0 d (m4 0 0 62)) d s op first := ⟨by rw [u3_ne _ _ _ (by decide)]; exact y7.1, by rw [u3_ne _ _ _ (by decide)]; exact y7.2.1, by rw [u3_ne _ _ _ (by decide)]; exact y7.2.2⟩
    rcases next_p hV hL M5 l5 E2 P2 (by rw [y6.1]; exact hc) with ⟨z1, z2⟩ | ⟨z1, m6, w1, w2, w3, w4, w5, w6, w7, w8⟩
    · rw [combine_0 z1]; exact z2 0
    · have t6 := w1.tx
      have s6 : m6 33 0 d = 2 := by
        rw [w4, u3_ne _ _ _ (by decide), y4, l33]; rfl
      refine w8 (AdvP.mk0 w7.1 w7.2.1 (hL.1.2.2.2.1.fr t6) (Q m6 (fun z => by rw [s6] at z; exact absurd z (by decide)))) _ ?_
      have k6 : m6 36 0 d = (f7_valueOfPart VA M P 1 d).1 := by
        rw [w3.1 36 (by decide) (by decide) (by decide) (by decide) (by decide), u3_at, y2]
      have b6 : (f7_valueOfPart VA (f7_valueOfPart VA M P 1 d).2 P 2 d).2 2 0 0 2 = M0 2 0 0 2 ∧ (f7_valueOfPart VA (f7_valueOfPart VA M P 1 d).2 P 2 d).2 2 0 0 3 = M0 2 0 0 3 := ⟨w6.1.trans (y6.1.trans hb.1), w6.2.1.trans (y6.2.1.trans hb.2)⟩
      have a3 : f12_advance m6 d = if op = 5 then (if (f7_valueOfPart VA (f7_valueOfPart VA M P 1 d).2 P 2 d).1 = 0 then u3 m6 0 0 63 5 else f12_finish m6 (f12_joined op (f7_valueOfPart VA M P 1 d).1 (f7_valueOfPart VA (f7_valueOfPart VA M P 1 d).2 P 2 d).1)) else if op = 6 then (if (f7_valueOfPart VA (f7_valueOfPart VA M P 1 d).2 P 2 d).1 = 0 then u3 m6 0 0 63 5 else f12_finish m6 (f12_joined op (f7_valueOfPart VA M P 1 d).1 (f7_valueOfPart VA (f7_valueOfPart VA M P 1 d).2 P 2 d).1)) else f12_finish m6 (f12_joined op (f7_valueOfPart VA M P 1 d).1 (f7_valueOfPart VA (f7_valueOfPart VA M P 1 d).2 P 2 d).1) := by
        rw [adv_reckon w7.2.1 ho.2]
        unfold f12_reckon
        rw [if_neg (by rw [s6]; decide), if_neg (by rw [s6]; decide)]
        simp only [bnd]
        rw [w7.2.1, w2, k6]
      rw [a3, joined_e ho z1]
      by_cases c5 : op = 5
      · rw [if_pos c5]
        by_cases c0 : (f7_valueOfPart VA (f7_valueOfPart VA M P 1 d).2 P 2 d).1 = 0
        · rw [if_pos c0, if_pos ⟨Or.inl c5, c0⟩]; exact err_c w1 (by decide)
        · rw [if_neg c0, if_neg (fun z => c0 z.2)]; exact fin_c w1 b6
      · rw [if_neg c5]
        by_cases c6 : op = 6
        · rw [if_pos c6]
          by_cases c0 : (f7_valueOfPart VA (f7_valueOfPart VA M P 1 d).2 P 2 d).1 = 0
          · rw [if_pos c0, if_pos ⟨Or.inr c6, c0⟩]; exact err_c w1 (by decide)
          · rw [if_neg c0, if_neg (fun z => c0 z.2)]; exact fin_c w1 b6
        · rw [if_neg c6, if_neg (fun z => z.1.elim c5 c6)]; exact fin_c w1 b6
end OPS
