/-! THE STOCKS: what the law asks of them -/
section STK
variable {s : ST} {M : Wm} {b : Cm} {g : Int32}
/-- what the orders up to one have moved out of the store -/
def lf (b : Cm) (o g j : Int32) : Int32 := if b 7 0 j = o then if b 5 0 j = g then (if b 3 0 j = -1 then b 6 0 j else 0) - (if b 4 0 j = -1 then b 6 0 j else 0) else 0 else 0
def lfs (b : Cm) (o g : Int32) : Nat → Int32
  | 0 => 0
  | n + 1 => lfs b o g n + lf b o g (nI n)
def lfo (b : Cm) (g : Int32) (n : Nat) : Nat → Int32
  | 0 => 0
  | o + 1 => lfo b g n o + lfs b (nI o) g n
theorem left_e (hc : 0 ≤ (b 0 0 7).toInt ∧ (b 0 0 7).toInt ≤ 3000) (o : Int32) : f1_leftStoreBy b o g = lfs b o g (b 0 0 7).toInt.toNat := by
  have key : ∀ (k : Nat) (i : Nat) (v : Int32), i ≤ (b 0 0 7).toInt.toNat → (b 0 0 7).toInt.toNat - i < k → v = lfs b o g i → f1_leftStoreBy_lp5 b o g k (nI i, v) = lfs b o g (b 0 0 7).toInt.toNat := by
    intro k
    induction k with
    | zero => intro i v _ hk _; omega
    | succ k ih =>
      intro i v hi hk hv
      rw [f1_leftStoreBy_lp5]
      have ti : (nI i).toInt = i := nI_toInt (by omega)
      by_cases c : b 0 0 7 ≤ nI i
      · rw [if_pos c]
        simp only [i32le] at c
        rw [hv, show i = (b 0 0 7).toInt.toNat by omega]
      · rw [if_neg c]
        simp only [i32le] at c
        have e1 : nI i + 1 = nI (i + 1) := by
          rw [i32eq, inc_t (by omega) (by omega), ti, nI_toInt (by omega)]; rfl
        simp only [jn_e, bnd_e, e1]
        have nx : ∀ v' : Int32, v' = lfs b o g (i + 1) → f1_leftStoreBy_lp5 b o g k (nI (i + 1), v') = lfs b o g (b 0 0 7).toInt.toNat := fun v' hv' => ih (i + 1) v' (by omega) (by omega) hv'
        have el : lfs b o g (i + 1) = v + lf b o g (nI i) := by rw [lfs, hv]
        unfold lf at el
        by_cases d1 : b 7 0 (nI i) = o
        · rw [if_pos d1] at el ⊢
          by_cases d2 : b 5 0 (nI i) = g
          · rw [if_pos d2] at el ⊢
            by_cases d3 : b 3 0 (nI i) = -1
            · rw [if_pos d3] at el ⊢
              by_cases d4 : b 4 0 (nI i) = -1
              · rw [if_pos d4] at el ⊢; exact nx _ (by rw [el]; grind)
              · rw [if_neg d4] at el ⊢; exact nx _ (by rw [el]; grind)
            · rw [if_neg d3] at el ⊢
              by_cases d4 : b 4 0 (nI i) = -1
              · rw [if_pos d4] at el ⊢; exact nx _ (by rw [el]; grind)
              · rw [if_neg d4] at el ⊢; exact nx _ (by rw [el]; grind)
          · rw [if_neg d2] at el ⊢; exact nx _ (by rw [el]; grind)
        · rw [if_neg d1] at el ⊢; exact nx _ (by rw [el]; grind)
  exact key 3001 0 0 (Nat.zero_le _) (by omega) rfl
theorem lfo_step (b : Cm) (g : Int32) (n : Nat) : ∀ k : Nat, k ≤ 60 → lfo b g (n + 1) k = lfo b g n k + (if 0 ≤ (b 7 0 (nI n)).toInt ∧ (b 7 0 (nI n)).toInt < k then lf b (b 7 0 (nI n)) g (nI n) else 0) := by
  intro k
  induction k with
  | zero =>
    intro _
    rw [if_neg (by omega)]; rfl
  | succ k ih =>
    intro hk
    have i := ih (by omega)
    have tk : (nI k).toInt = k := nI_toInt (by omega)
    rw [lfo, lfo, i, lfs]
    by_cases c : b 7 0 (nI n) = nI k
    · rw [if_neg (by rw [c, tk]; omega), if_pos (by rw [c, tk]; omega), c]
      grind
    · have z : lf b (nI k) g (nI n) = 0 := by unfold lf; rw [if_neg c]
      rw [z]
      rw [i32eq, tk] at c
      by_cases d : 0 ≤ (b 7 0 (nI n)).toInt ∧ (b 7 0 (nI n)).toInt < k
      · rw [if_pos d, if_pos (by omega)]; grind
      · rw [if_neg d, if_neg (by omega)]; grind
theorem m1_e (x : Int32) : (x + 1 = 0) = (x = -1) := propext ⟨fun h => by grind, fun h => by grind⟩
theorem ef_lf (b : Cm) (g j : Int32) : ef b 0 g j = 0 - lf b (b 7 0 j) g j := by
  unfold ef lf
  rw [if_pos rfl]
  simp only [m1_e]
  by_cases c : b 5 0 j = g
  · rw [if_pos c, if_pos c]; grind
  · rw [if_neg c, if_neg c]; decide
/-- the store's stock is what was supplied less what all orders moved out -/
theorem store_e (n : Int32) (hn : 0 ≤ n.toInt ∧ n.toInt ≤ 60) : ∀ k : Nat, (∀ j : Nat, j < k → 0 ≤ (b 7 0 (nI j)).toInt ∧ (b 7 0 (nI j)).toInt < n.toInt) → tm b 0 g k = b 2 0 g - lfo b g k n.toInt.toNat := by
  intro k
  induction k with
  | zero =>
    intro _
    have z : ∀ o : Nat, lfo b g 0 o = 0 := by
      intro o
      induction o with
      | zero => rfl
      | succ o io => rw [lfo, io]; rfl
    rw [z, tm, if_pos rfl]; grind
  | succ k ih =>
    intro h
    have hk := h k (by omega)
    rw [tm, ih (fun j hj => h j (by omega)), lfo_step b g k _ (by omega), if_pos (by omega), ef_lf]
    grind
theorem stt_e (h : LST s M) {c : Int32} (h0 : -1 ≤ c.toInt) (h1 : c.toInt < 4) (hg : vp_in g 8) : g_stock s.2.2 c g = (0, M 1 8 (c + 1) g) ∧ g_stockByMoves s.2.2 c g = (0, M 1 8 (c + 1) g) ∧ ¬ M 1 8 (c + 1) g < 0 := by
  have hb := h.2.1.b
  have hB := h.2.1.2.1.2.1
  have e1 : (c + 1).toInt = c.toInt + 1 := by rw [i32addn (by rw [t32_1]; omega) (by rw [t32_1]; omega), t32_1]
  have hr : vp_in (c + 1) 5 := by rw [vp_in_iff]; omega
  refine ⟨q_stock h h0 h1 hg, ?_, ?_⟩
  · rw [q_stockByMoves h h0 h1 hg, told_e _ _ _ hb.2.1.1 hb.2.1.2, hB.2.1 _ _ hr hg]
  · have := (hB.2.2 g hg).1 _ hr
    simp only [i32lt, t32_0]; omega
theorem so_16 (h : LST s M) (hg : vp_in g 8) {K : Int32 → Nat × Int32} : fL_areStocksSo_lp16 s g K 6 (-1, 0) = K (M 1 2 0 g) := by
  have st : ∀ (k : Nat) (c v : Int32), -1 ≤ c.toInt → c.toInt < 4 → fL_areStocksSo_lp16 s g K (k + 1) (c, v) = fL_areStocksSo_lp16 s g K k (c + 1, v + M 1 8 (c + 1) g) := by
    intro k c v h0 h1
    obtain ⟨a1, a2, a3⟩ := stt_e h h0 h1 hg
    rw [fL_areStocksSo_lp16_s, if_neg (by simp only [i32le, c4t]; omega)]
    simp only [bnd_e, a1, a2, if_true]
    rw [if_neg a3]
  rw [st 5 (-1) 0 (by decide) (by decide), show (-1 : Int32) + 1 = 0 by decide, st 4 0 _ (by decide) (by decide), show (0 : Int32) + 1 = 1 by decide, st 3 1 _ (by decide) (by decide), show (1 : Int32) + 1 = 2 by decide, st 2 2 _ (by decide) (by decide), show (2 : Int32) + 1 = 3 by decide, st 1 3 _ (by decide) (by decide), show (3 : Int32) + 1 = 4 by decide, fL_areStocksSo_lp16_s, if_pos (show (4 : Int32) ≤ 4 by decide)]
  rw [Int32.zero_add, stk_sum h.2.1.2.1.2.1.2.1 h.2.1.2.2.2.b hg]
theorem so_64 (h : LST s M) (hg : vp_in g 8) {K : Int32 → Nat × Int32} : fL_areStocksSo_lp64 s g K 61 (0, 0) = K (lfo (M 1) g (M 1 0 0 7).toInt.toNat (M 4 0 0 1).toInt.toNat) := by
  have h60 := h.2.1.o.2.2.1
  have hb := h.2.1.b
  have key : ∀ (k i : Nat), i ≤ (M 4 0 0 1).toInt.toNat → (M 4 0 0 1).toInt.toNat - i < k → fL_areStocksSo_lp64 s g K k (nI i, lfo (M 1) g (M 1 0 0 7).toInt.toNat i) = K (lfo (M 1) g (M 1 0 0 7).toInt.toNat (M 4 0 0 1).toInt.toNat) := by
    intro k
    induction k with
    | zero => intro i hi hk; omega
    | succ k ih =>
      intro i hi hk
      have ti : (nI i).toInt = i := nI_toInt (by omega)
      rw [fL_areStocksSo_lp64_s, (q_n h).1]
      by_cases c : M 4 0 0 1 ≤ nI i
      · rw [if_pos c]
        simp only [i32le] at c
        rw [show i = (M 4 0 0 1).toInt.toNat by omega]
      · rw [if_neg c]
        simp only [i32le] at c
        have e1 : nI i + 1 = nI (i + 1) := by
          rw [i32eq, inc_t (by omega) (by omega), ti, nI_toInt (by omega)]; rfl
        simp only [bnd_e, q_leftBy h (i := nI i) (by omega) (by omega) hg, if_true, e1]
        rw [left_e hb.2.1]
        exact ih (i + 1) (by omega) (by omega)
  exact key 61 0 (Nat.zero_le _) (by omega)
theorem so_all (h : LST s M) : fL_areStocksSo s.1 s = (0, 1) := by
  have hx : M 1 2 0 = s.1 := h.2.2.1.2.2.2.2
  have hb := h.2.1.b
  have hB := h.2.1.2.1.2.1
  have h60 := h.2.1.o.2.2.1
  have hBY := h.2.2.1.2.2.2.1
  have key : ∀ (K : Unit → Nat × Int32) (k : Nat) (i : Int32), 0 ≤ i.toInt → i.toInt ≤ 8 → 8 - i.toInt < k → fL_areStocksSo_lp2 s.1 s K k i = K () := by
    intro K k
    induction k with
    | zero => intro i i0 i1 hk; exfalso; omega
    | succ k ih =>
      intro i i0 i1 hk
      rw [fL_areStocksSo_lp2_s]
      by_cases c : (8 : Int32) ≤ i
      · rw [if_pos c]
      · rw [if_neg c]
        simp only [i32le, c8t] at c
        have hi : vp_in i 8 := by rw [vp_in_iff]; omega
        have e1 : (i + 1).toInt = i.toInt + 1 := inc_t i0 (by omega)
        simp only [jn_e, bnd_e]
        rw [so_16 h hi, so_64 h hi, hx, if_pos rfl, (stt_e h (c := -1) (by decide) (by decide) hi).1]
        have e0 : M 1 8 (-1 + 1) i = s.1 i - lfo (M 1) i (M 1 0 0 7).toInt.toNat (M 4 0 0 1).toInt.toNat := by
          rw [show (-1 : Int32) + 1 = 0 by decide, hB.2.1 0 i (vin_lit (by decide)) hi, store_e (M 4 0 0 1) h60 _ (fun j hj => ?_), hx]
          have h30 := hb.2.1
          exact hBY (nI j) (by rw [nI_toInt (by omega)]; omega) (by rw [nI_toInt (by omega)]; omega)
        simp only [e0, if_true]
        exact ih (i + 1) (by omega) (by omega) (by omega)
  unfold fL_areStocksSo
  simp only [jn_e]
  rw [key _ 9 0 (by decide) (by decide) (by decide)]
end STK
