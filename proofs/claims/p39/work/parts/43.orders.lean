/-! ORDERS alike: in the midst of a run of order w with u used in it (w is none of them: -1) -/
def wyI (m : Cm) (i : Int32) : Int32 := if m 17 0 i = 3 then m 18 0 i else 0
def RelOr (o m : Cm) (w u : Int32) : Prop := o 0 0 1 = m 0 0 11 ∧ o 0 0 2 = m 0 0 10 ∧ (0 ≤ (o 0 0 1).toInt ∧ (o 0 0 1).toInt ≤ 60) ∧
  (∀ i : Int32, 0 ≤ i.toInt → i.toInt < (o 0 0 1).toInt → o 4 i 0 = m 13 0 i ∧ o 4 i 1 = m 14 0 i ∧ o 4 i 2 = m 15 0 i ∧ o 4 i 6 = m 19 0 i ∧ o 4 i 7 = m 20 0 i ∧ vp_in (m 13 0 i) 4 ∧ vp_in (m 14 0 i) 8 ∧
    (¬ i = w → o 4 i 4 = m 17 0 i ∧ o 4 i 5 = wyI m i ∧ o 4 i 8 = m 21 0 i ∧ (m 17 0 i = 0 → o 4 i 3 = m 16 0 i)) ∧ (i = w → o 4 i 8 + u = m 21 0 i)) ∧
  ∀ i : Int32, (o 0 0 1).toInt ≤ i.toInt → i.toInt < 60 → (o 4 i 4 = 0 ∧ o 4 i 5 = 0 ∧ o 4 i 6 = 0 ∧ o 4 i 7 = 0 ∧ o 4 i 8 = 0) ∧ m 19 0 i = 0 ∧ m 20 0 i = 0 ∧ m 21 0 i = 0
theorem RelOr.fr {o m m' : Cm} {w u : Int32} (h : RelOr o m w u) (e0 : m' 0 0 11 = m 0 0 11) (e1 : m' 0 0 10 = m 0 0 10) (e13 : m' 13 = m 13) (e14 : m' 14 = m 14) (e15 : m' 15 = m 15) (e16 : m' 16 = m 16) (e17 : m' 17 = m 17) (e18 : m' 18 = m 18) (e19 : m' 19 = m 19) (e20 : m' 20 = m 20) (e21 : m' 21 = m 21) : RelOr o m' w u := by
  unfold RelOr wyI; rw [e0, e1, e13, e14, e15, e16, e17, e18, e19, e20, e21]; exact h
theorem fI_ne {f : Int32 → Int32} {j k x : Int32} (h : ¬ k = j) : fI f j x k = f k := by unfold fI; rw [if_neg h]
theorem row4 (o : Cm) (n c s h b : Int32) : (u3 (u3 (u3 (u3 o 4 n 0 c) 4 n 1 s) 4 n 2 h) 4 n 3 b) 4 n 0 = c ∧ (u3 (u3 (u3 (u3 o 4 n 0 c) 4 n 1 s) 4 n 2 h) 4 n 3 b) 4 n 1 = s ∧ (u3 (u3 (u3 (u3 o 4 n 0 c) 4 n 1 s) 4 n 2 h) 4 n 3 b) 4 n 2 = h ∧ (u3 (u3 (u3 (u3 o 4 n 0 c) 4 n 1 s) 4 n 2 h) 4 n 3 b) 4 n 3 = b ∧ (∀ k : Int32, (¬ k = 0 ∧ ¬ k = 1) ∧ ¬ k = 2 ∧ ¬ k = 3 → (u3 (u3 (u3 (u3 o 4 n 0 c) 4 n 1 s) 4 n 2 h) 4 n 3 b) 4 n k = o 4 n k) ∧ ∀ i : Int32, ¬ i = n → (u3 (u3 (u3 (u3 o 4 n 0 c) 4 n 1 s) 4 n 2 h) 4 n 3 b) 4 i = o 4 i := by
  refine ⟨?_, ?_, ?_, ?_, fun k hk => ?_, fun i hi => ?_⟩
  · rw [u3_j (by decide), u3_j (by decide), u3_j (by decide), u3_at]
  · rw [u3_j (by decide), u3_j (by decide), u3_at]
  · rw [u3_j (by decide), u3_at]
  · rw [u3_at]
  · rw [u3_j hk.2.2, u3_j hk.2.1, u3_j hk.1.2, u3_j hk.1.1]
  · rw [u3_i hi, u3_i hi, u3_i hi, u3_i hi]
/-- an order is made in both -/
theorem RelOr.add {o m : Cm} {w u : Int32} (h : RelOr o m w u) (hw : w.toInt < (o 0 0 1).toInt) (hc : ¬ m 0 0 11 = 60) {c s hrs bu : Int32} (hcm : vp_in c 4) (hs : vp_in s 8) : (f4_add o c s hrs bu).1 = (f12_makeOrder m c s (m 0 0 10 + hrs) bu).1 ∧ RelOr (f4_add o c s hrs bu).2 (f12_makeOrder m c s (m 0 0 10 + hrs) bu).2 w u := by
  obtain ⟨h1, h2, h3, h4, h5⟩ := h
  have hlt : (o 0 0 1).toInt < 60 := by rw [i32eq, t32_60, ← h1] at hc; omega
  have hnf : f4_areFull o = false := by
    unfold f4_areFull; rw [if_pos (by simp only [i32lt, t32_60]; exact hlt)]
  have e1 : (o 0 0 1 + 1).toInt = (o 0 0 1).toInt + 1 := inc_t h3.1 (by omega)
  have F := h5 (o 0 0 1) (Int.le_refl _) hlt
  unfold f4_add f12_makeOrder
  simp only [bnd, hnf, Bool.false_eq_true, if_false]
  obtain ⟨r0, r1, r2, r3, r4, r5⟩ := row4 o (o 0 0 1) c s (o 0 0 2 + hrs) bu
  refine ⟨by rw [h1], ?_, h2, ⟨by show 0 ≤ (o 0 0 1 + 1).toInt; omega, by show (o 0 0 1 + 1).toInt ≤ 60; omega⟩, fun i a b => ?_, fun i a b => ?_⟩
  · show o 0 0 1 + 1 = m 0 0 11 + 1
    rw [h1]
  · have b' : i.toInt < (o 0 0 1 + 1).toInt := b
    show (u3 (u3 (u3 (u3 o 4 (o 0 0 1) 0 c) 4 (o 0 0 1) 1 s) 4 (o 0 0 1) 2 (o 0 0 2 + hrs)) 4 (o 0 0 1) 3 bu) 4 i 0 = fI (m 13 0) (m 0 0 11) c i ∧ (u3 (u3 (u3 (u3 o 4 (o 0 0 1) 0 c) 4 (o 0 0 1) 1 s) 4 (o 0 0 1) 2 (o 0 0 2 + hrs)) 4 (o 0 0 1) 3 bu) 4 i 1 = fI (m 14 0) (m 0 0 11) s i ∧ (u3 (u3 (u3 (u3 o 4 (o 0 0 1) 0 c) 4 (o 0 0 1) 1 s) 4 (o 0 0 1) 2 (o 0 0 2 + hrs)) 4 (o 0 0 1) 3 bu) 4 i 2 = fI (m 15 0) (m 0 0 11) (m 0 0 10 + hrs) i ∧ (u3 (u3 (u3 (u3 o 4 (o 0 0 1) 0 c) 4 (o 0 0 1) 1 s) 4 (o 0 0 1) 2 (o 0 0 2 + hrs)) 4 (o 0 0 1) 3 bu) 4 i 6 = m 19 0 i ∧ (u3 (u3 (u3 (u3 o 4 (o 0 0 1) 0 c) 4 (o 0 0 1) 1 s) 4 (o 0 0 1) 2 (o 0 0 2 + hrs)) 4 (o 0 0 1) 3 bu) 4 i 7 = m 20 0 i ∧ vp_in (fI (m 13 0) (m 0 0 11) c i) 4 ∧ vp_in (fI (m 14 0) (m 0 0 11) s i) 8 ∧
      (¬ i = w → (u3 (u3 (u3 (u3 o 4 (o 0 0 1) 0 c) 4 (o 0 0 1) 1 s) 4 (o 0 0 1) 2 (o 0 0 2 + hrs)) 4 (o 0 0 1) 3 bu) 4 i 4 = fI (m 17 0) (m 0 0 11) 0 i ∧ (u3 (u3 (u3 (u3 o 4 (o 0 0 1) 0 c) 4 (o 0 0 1) 1 s) 4 (o 0 0 1) 2 (o 0 0 2 + hrs)) 4 (o 0 0 1) 3 bu) 4 i 5 = (if fI (m 17 0) (m 0 0 11) 0 i = 3 then m 18 0 i else 0) ∧ (u3 (u3 (u3 (u3 o 4 (o 0 0 1) 0 c) 4 (o 0 0 1) 1 s) 4 (o 0 0 1) 2 (o 0 0 2 + hrs)) 4 (o 0 0 1) 3 bu) 4 i 8 = m 21 0 i ∧ (fI (m 17 0) (m 0 0 11) 0 i = 0 → (u3 (u3 (u3 (u3 o 4 (o 0 0 1) 0 c) 4 (o 0 0 1) 1 s) 4 (o 0 0 1) 2 (o 0 0 2 + hrs)) 4 (o 0 0 1) 3 bu) 4 i 3 = fI (m 16 0) (m 0 0 11) bu i)) ∧ (i = w → (u3 (u3 (u3 (u3 o 4 (o 0 0 1) 0 c) 4 (o 0 0 1) 1 s) 4 (o 0 0 1) 2 (o 0 0 2 + hrs)) 4 (o 0 0 1) 3 bu) 4 i 8 + u = m 21 0 i)
    rw [← h1]
    by_cases c1 : i = o 0 0 1
    · rw [c1, r0, r1, r2, r3, r4 6 (by decide), r4 7 (by decide), r4 4 (by decide), r4 5 (by decide), r4 8 (by decide), fI_at, fI_at, fI_at, fI_at, fI_at, F.1.1, F.1.2.1, F.1.2.2.1, F.1.2.2.2.1, F.1.2.2.2.2, F.2.1, F.2.2.1, F.2.2.2, h2]
      refine ⟨rfl, rfl, rfl, rfl, rfl, hcm, hs, fun _ => ⟨rfl, ?_, rfl, fun _ => rfl⟩, fun z => ?_⟩
      · rw [if_neg (by decide)]
      · rw [← z] at hw; omega
    · rw [r5 i c1, fI_ne c1, fI_ne c1, fI_ne c1, fI_ne c1, fI_ne c1]
      exact h4 i a (by rw [i32eq] at c1; omega)
  · have a' : (o 0 0 1 + 1).toInt ≤ i.toInt := a
    have c1 : ¬ i = o 0 0 1 := by rw [i32eq]; omega
    show ((u3 (u3 (u3 (u3 o 4 (o 0 0 1) 0 c) 4 (o 0 0 1) 1 s) 4 (o 0 0 1) 2 (o 0 0 2 + hrs)) 4 (o 0 0 1) 3 bu) 4 i 4 = 0 ∧ (u3 (u3 (u3 (u3 o 4 (o 0 0 1) 0 c) 4 (o 0 0 1) 1 s) 4 (o 0 0 1) 2 (o 0 0 2 + hrs)) 4 (o 0 0 1) 3 bu) 4 i 5 = 0 ∧ (u3 (u3 (u3 (u3 o 4 (o 0 0 1) 0 c) 4 (o 0 0 1) 1 s) 4 (o 0 0 1) 2 (o 0 0 2 + hrs)) 4 (o 0 0 1) 3 bu) 4 i 6 = 0 ∧ (u3 (u3 (u3 (u3 o 4 (o 0 0 1) 0 c) 4 (o 0 0 1) 1 s) 4 (o 0 0 1) 2 (o 0 0 2 + hrs)) 4 (o 0 0 1) 3 bu) 4 i 7 = 0 ∧ (u3 (u3 (u3 (u3 o 4 (o 0 0 1) 0 c) 4 (o 0 0 1) 1 s) 4 (o 0 0 1) 2 (o 0 0 2 + hrs)) 4 (o 0 0 1) 3 bu) 4 i 8 = 0) ∧ m 19 0 i = 0 ∧ m 20 0 i = 0 ∧ m 21 0 i = 0
    rw [r5 i c1]
    exact h5 i (by omega) b
/-- orders from one on are undone in both -/
theorem undoFrom_c {w u : Int32} : ∀ (k k' : Nat) (i : Int32) (o m : Cm), RelOr o m w u → 0 ≤ i.toInt → i.toInt ≤ (o 0 0 1).toInt → (w.toInt < i.toInt) → (o 0 0 1).toInt - i.toInt < k → (o 0 0 1).toInt - i.toInt < k' → (∀ j : Int32, i.toInt ≤ j.toInt → j.toInt < (o 0 0 1).toInt → o 4 j 5 = 0) → RelOr (f4_undoFrom_lp2 k (i, o)) (f12_undo_lp101 k' (i, m)) w u ∧ ((f4_undoFrom_lp2 k (i, o)) 0 0 1 = o 0 0 1 ∧ (f4_undoFrom_lp2 k (i, o)) 0 0 2 = o 0 0 2) ∧ ((∀ g : Nat, ¬ g = 17 → f12_undo_lp101 k' (i, m) g = m g) ∧ ∀ j : Int32, j.toInt < i.toInt → f12_undo_lp101 k' (i, m) 17 0 j = m 17 0 j ∧ (f4_undoFrom_lp2 k (i, o)) 4 j = o 4 j) := by
  intro k
  induction k with
  | zero => intro k' i o m _ _ _ _ a; omega
  | succ k ih =>
    intro k' i o m h h0 h1 hw a a' hy
    cases k' with
    | zero => omega
    | succ k' =>
      rw [f4_undoFrom_lp2_s, f12_undo_lp101_s]
      have e11 := h.1
      by_cases c1 : o 0 0 1 ≤ i
      · rw [if_pos c1, if_pos (show m 0 0 11 ≤ i from e11 ▸ c1)]
        exact ⟨h, ⟨rfl, rfl⟩, fun g _ => rfl, fun j _ => ⟨rfl, rfl⟩⟩
      · rw [if_neg c1, if_neg (show ¬ m 0 0 11 ≤ i from e11 ▸ c1)]
        simp only [i32le] at c1
        simp only [bnd]
        have hle := h.2.2.1.2
        have e1 : (i + 1).toInt = i.toInt + 1 := inc_t h0 (by omega)
        have hn : RelOr (u3 o 4 i 4 4) (u3 m 17 0 i 4) w u := by
          refine ⟨h.1, h.2.1, h.2.2.1, fun j b1 b2 => ?_, fun j b1 b2 => ?_⟩
          · have H := h.2.2.2.1 j b1 b2
            by_cases c2 : j = i
            · have hjw : ¬ j = w := by intro z; rw [z, i32eq] at c2; omega
              rw [c2] at H ⊢
              rw [c2] at hjw
              refine ⟨?_, ?_, ?_, ?_, ?_, H.2.2.2.2.2.1, H.2.2.2.2.2.2.1, fun _ => ⟨?_, ?_, ?_, ?_⟩, fun z => absurd z hjw⟩
              · rw [u3_j (by decide)]; exact H.1
              · rw [u3_j (by decide)]; exact H.2.1
              · rw [u3_j (by decide)]; exact H.2.2.1
              · rw [u3_j (by decide)]; exact H.2.2.2.1
              · rw [u3_j (by decide)]; exact H.2.2.2.2.1
              · rw [u3_at, u3_at]
              · rw [u3_j (by decide), hy i (Int.le_refl _) (by omega)]
                unfold wyI; rw [u3_at, if_neg (by decide)]
              · rw [u3_j (by decide)]; exact (H.2.2.2.2.2.2.2.1 hjw).2.2.1
              · rw [u3_at]; exact fun z => absurd z (by decide)
            · rw [u3_i c2]
              show _ ∧ _ ∧ _ ∧ _ ∧ _ ∧ _ ∧ _ ∧ (¬ j = w → o 4 j 4 = u3 m 17 0 i 4 17 0 j ∧ o 4 j 5 = (if u3 m 17 0 i 4 17 0 j = 3 then m 18 0 j else 0) ∧ _ ∧ (u3 m 17 0 i 4 17 0 j = 0 → _)) ∧ _
              rw [u3_j c2]
              exact H
          · rw [u3_i (show ¬ j = i by rw [i32eq]; have b1' : (o 0 0 1).toInt ≤ j.toInt := b1; omega)]
            exact h.2.2.2.2 j b1 b2
        obtain ⟨p1, p2, p3, p4⟩ := ih k' (i + 1) _ _ hn (by omega) (by show _ ≤ (o 0 0 1).toInt; omega) (by omega) (by show (o 0 0 1).toInt - _ < _; omega) (by show (o 0 0 1).toInt - _ < _; omega) (fun j b1 b2 => by
          have b2' : j.toInt < (o 0 0 1).toInt := b2
          rw [u3_i (show ¬ j = i by rw [i32eq]; omega)]; exact hy j (by omega) b2')
        refine ⟨p1, p2, fun g hg => by rw [p3 g hg, u3_ne _ _ _ hg], fun j hj => ?_⟩
        have hji : ¬ j = i := by rw [i32eq]; omega
        obtain ⟨q1, q2⟩ := p4 j (by omega)
        exact ⟨by rw [q1, u3_j hji], by rw [q2, u3_i hji]⟩
