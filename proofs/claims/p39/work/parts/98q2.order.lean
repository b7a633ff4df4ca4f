/-! ORDERS: what each row holds; w the order that runs (its row is in the making), from f0 on none is FAULTY -/
section ORD
variable {o : Cm} {B : Int} {w f0 c s h b i : Int32}
def OS (r : Int32 → Int32) : Prop := (0 ≤ (r 4).toInt ∧ (r 4).toInt ≤ 4) ∧ (r 4 = 3 → 1 ≤ (r 5).toInt ∧ (r 5).toInt ≤ 6) ∧ (¬ r 4 = 3 → r 5 = 0) ∧ (r 4 = 0 → r 6 = 0 ∧ r 8 = 0)
def RF (r : Int32 → Int32) : Prop := 0 < (r 2).toInt ∧ vp_in (r 0) 4 ∧ 0 ≤ (r 3).toInt ∧ (r 3).toInt ≤ 1000
theorem RF.put {o : Cm} {i k x : Int32} (h : RF (o 4 i)) (h0 : ¬ (0 : Int32) = k) (h2 : ¬ (2 : Int32) = k) (h3 : ¬ (3 : Int32) = k) : RF (u3 o 4 i k x 4 i) := by
  unfold RF at h ⊢
  rw [u3_j h0, u3_j h2, u3_j h3]; exact h
def OI (w f0 : Int32) (B : Int) (o : Cm) : Prop := (0 ≤ (o 0 0 1).toInt ∧ (o 0 0 1).toInt ≤ 60) ∧ (0 ≤ (o 0 0 2).toInt ∧ (o 0 0 2).toInt ≤ 1000) ∧ (∀ i : Int32, 0 ≤ i.toInt → i.toInt < (o 0 0 1).toInt → RF (o 4 i) ∧ (0 ≤ (o 4 i 8).toInt ∧ (o 4 i 8).toInt ≤ B) ∧ (¬ i = w → OS (o 4 i))) ∧ (∀ i : Int32, f0.toInt ≤ i.toInt → 0 ≤ i.toInt → i.toInt < (o 0 0 1).toInt → o 4 i 5 = 0) ∧ ∀ i : Int32, (o 0 0 1).toInt ≤ i.toInt → i.toInt < 60 → o 4 i 4 = 0 ∧ o 4 i 5 = 0 ∧ o 4 i 6 = 0 ∧ o 4 i 8 = 0
theorem OI.mono {B' : Int} (H : OI w f0 B o) (hB : B ≤ B') : OI w f0 B' o :=
  ⟨H.1, H.2.1, fun i a b => ⟨(H.2.2.1 i a b).1, ⟨(H.2.2.1 i a b).2.1.1, Int.le_trans (H.2.2.1 i a b).2.1.2 hB⟩, (H.2.2.1 i a b).2.2⟩, H.2.2.2.1, H.2.2.2.2⟩
/-- a run begins at an order -/
theorem OI.at {w' : Int32} (H : OI (-1) f0 B o) : OI w' (o 0 0 1) B o :=
  ⟨H.1, H.2.1, fun i a b => ⟨(H.2.2.1 i a b).1, (H.2.2.1 i a b).2.1, fun _ => (H.2.2.1 i a b).2.2 (fun z => by rw [z] at a; exact absurd a (by decide))⟩, fun i a _ c => by omega, H.2.2.2.2⟩
theorem OI.from (H : OI w f0 B o) : OI w (o 0 0 1) B o := ⟨H.1, H.2.1, H.2.2.1, fun i a _ c => by omega, H.2.2.2.2⟩
theorem OI.add (H : OI w f0 B o) (hw : w.toInt < (o 0 0 1).toInt) (hcm : vp_in c 4) (hb : 0 ≤ b.toInt ∧ b.toInt ≤ 1000) (h0 : 1 ≤ h.toInt) (h1 : h.toInt ≤ 100) (hB : 0 ≤ B) : OI w f0 B (f4_add o c s h b).2 ∧ (o 0 0 1).toInt ≤ ((f4_add o c s h b).2 0 0 1).toInt ∧ (∀ i : Int32, i.toInt < (o 0 0 1).toInt → (f4_add o c s h b).2 4 i = o 4 i) ∧ (f4_add o c s h b).2 0 0 2 = o 0 0 2 := by
  have nf : f4_areFull o = if o 0 0 1 < 60 then false else true := rfl
  unfold f4_add
  simp only [bnd_e]
  by_cases c1 : o 0 0 1 < 60
  · rw [nf, if_pos c1]
    simp only [Bool.false_eq_true, if_false]
    simp only [i32lt, t32_60] at c1
    have e1 : (o 0 0 1 + 1).toInt = (o 0 0 1).toInt + 1 := inc_t H.1.1 (by omega)
    obtain ⟨r0, r1, r2, r3, r4, r5⟩ := row4 o (o 0 0 1) c s (o 0 0 2 + h) b
    have F := H.2.2.2.2 (o 0 0 1) (Int.le_refl _) c1
    have hn := H.1
    have eh : (o 0 0 2 + h).toInt = (o 0 0 2).toInt + h.toInt := by have := H.2.1; rw [i32addn (by omega) (by omega)]
    generalize hT : u3 (u3 (u3 (u3 o 4 (o 0 0 1) 0 c) 4 (o 0 0 1) 1 s) 4 (o 0 0 1) 2 (o 0 0 2 + h)) 4 (o 0 0 1) 3 b = T at r0 r1 r2 r3 r4 r5 ⊢
    have n0 : (u3 T 0 0 1 (o 0 0 1 + 1)) 0 0 1 = o 0 0 1 + 1 := u3_at _ _ _ _ _
    have n2 : (u3 T 0 0 1 (o 0 0 1 + 1)) 0 0 2 = o 0 0 2 := by rw [u3_s (by decide), ← hT]; rfl
    have n4 : (u3 T 0 0 1 (o 0 0 1 + 1)) 4 = T 4 := u3_ne _ _ _ (by decide)
    refine ⟨⟨?_, ?_, fun i a d => ?_, fun i g a d => ?_, fun i a d => ?_⟩, ?_, fun i a => ?_, n2⟩
    · rw [n0, e1]; omega
    · rw [n2]; exact H.2.1
    · rw [n0, e1] at d; rw [n4]
      by_cases c2 : i = o 0 0 1
      · rw [c2, r4 8 (by decide), F.2.2.2]
        refine ⟨⟨by rw [r2, eh]; have := H.2.1; omega, by rw [r0]; exact hcm, by rw [r3]; exact hb⟩, ⟨by decide, hB⟩, fun _ => ?_⟩
        unfold OS
        rw [r4 4 (by decide), r4 5 (by decide), r4 6 (by decide), r4 8 (by decide), F.1, F.2.1, F.2.2.1, F.2.2.2]
        decide
      · rw [r5 i c2]; exact H.2.2.1 i a (by rw [i32eq] at c2; omega)
    · rw [n0, e1] at d; rw [n4]
      by_cases c2 : i = o 0 0 1
      · rw [c2, r4 5 (by decide)]; exact F.2.1
      · rw [r5 i c2]; exact H.2.2.2.1 i g a (by rw [i32eq] at c2; omega)
    · rw [n0, e1] at a; rw [n4]
      rw [r5 i (by rw [i32eq]; omega)]
      exact H.2.2.2.2 i (by omega) d
    · rw [n0, e1]; omega
    · rw [n4]; exact r5 i (by rw [i32eq]; omega)
  · rw [nf, if_neg c1]
    simp only [if_true]
    exact ⟨H, Int.le_refl _, fun _ _ => trivial, trivial⟩
theorem OI.undo (H : OI w f0 B o) (h0 : 0 ≤ f0.toInt) (hw : w.toInt < f0.toInt) : OI w f0 B (f4_undoFrom o f0) ∧ (f4_undoFrom o f0) 0 = o 0 ∧ (∀ i : Int32, i.toInt < f0.toInt → (f4_undoFrom o f0) 4 i = o 4 i) ∧ ∀ g : Nat, ¬ g = 4 → (f4_undoFrom o f0) g = o g := by
  have key : ∀ (k : Nat) (i : Int32) (o : Cm), f0.toInt ≤ i.toInt → OI w f0 B o → OI w f0 B (f4_undoFrom_lp2 k (i, o)) ∧ (∀ j : Int32, j.toInt < f0.toInt → (f4_undoFrom_lp2 k (i, o)) 4 j = o 4 j) ∧ ∀ g : Nat, ¬ g = 4 → (f4_undoFrom_lp2 k (i, o)) g = o g := by
    intro k
    induction k with
    | zero => intro i o _ H; exact ⟨H, fun _ _ => rfl, fun _ _ => rfl⟩
    | succ k ih =>
      intro i o hi H
      rw [f4_undoFrom_lp2]
      by_cases c1 : o 0 0 1 ≤ i
      · rw [if_pos c1]; exact ⟨H, fun _ _ => rfl, fun _ _ => rfl⟩
      · rw [if_neg c1]
        simp only [i32le] at c1
        simp only [bnd_e]
        have hn := H.1
        have e1 : (i + 1).toInt = i.toInt + 1 := inc_t (by omega) (by omega)
        have g0 : (u3 o 4 i 4 4) 0 = o 0 := u3_ne _ _ _ (by decide)
        have N : OI w f0 B (u3 o 4 i 4 4) := by
          refine ⟨by rw [g0]; exact H.1, by rw [g0]; exact H.2.1, fun j a d => ?_, fun j g a d => ?_, fun j a d => ?_⟩
          · rw [g0] at d
            by_cases c2 : j = i
            · rw [c2, u3_j (show ¬ (8 : Int32) = 4 by decide)]
              have K := H.2.2.1 i (by omega) (by omega)
              refine ⟨K.1.put (by decide) (by decide) (by decide), K.2.1, fun hn' => ?_⟩
              unfold OS
              rw [u3_at, u3_j (show ¬ (5 : Int32) = 4 by decide), H.2.2.2.1 i hi (by omega) (by omega)]
              exact ⟨by decide, fun z => absurd z (by decide), fun _ => rfl, fun z => absurd z (by decide)⟩
            · rw [u3_i c2]; exact H.2.2.1 j a d
          · rw [g0] at d
            by_cases c2 : j = i
            · rw [c2, u3_j (show ¬ (5 : Int32) = 4 by decide)]; exact H.2.2.2.1 i hi (by omega) (by omega)
            · rw [u3_i c2]; exact H.2.2.2.1 j g a d
          · rw [g0] at a
            rw [u3_i (show ¬ j = i by rw [i32eq]; omega)]; exact H.2.2.2.2 j a d
        obtain ⟨p1, p2, p3⟩ := ih (i + 1) _ (by omega) N
        exact ⟨p1, fun j hj => by rw [p2 j hj, u3_i (show ¬ j = i by rw [i32eq]; omega)], fun g hg => by rw [p3 g hg, u3_ne _ _ _ hg]⟩
  obtain ⟨p1, p2, p3⟩ := key 61 f0 o (Int.le_refl _) H
  exact ⟨p1, p3 0 (by decide), p2, p3⟩
/-- the row of the order that runs: a value, one more done -/
theorem OI.row (H : OI w f0 B o) {k x : Int32} (h0 : ¬ (0 : Int32) = k) (h3 : ¬ (3 : Int32) = k) (h2 : ¬ (2 : Int32) = k) (h8 : ¬ (8 : Int32) = k) (h5 : ¬ (5 : Int32) = k) (hw0 : 0 ≤ w.toInt) (hw : w.toInt < (o 0 0 1).toInt) : OI w f0 B (u3 o 4 w k x) := by
  have g0 : (u3 o 4 w k x) 0 = o 0 := u3_ne _ _ _ (by decide)
  refine ⟨by rw [g0]; exact H.1, by rw [g0]; exact H.2.1, fun j a d => ?_, fun j g a d => ?_, fun j a d => ?_⟩
  · rw [g0] at d
    by_cases c2 : j = w
    · rw [c2, u3_j h8]
      have K := H.2.2.1 w hw0 hw
      exact ⟨K.1.put h0 h2 h3, K.2.1, fun z => absurd rfl z⟩
    · rw [u3_i c2]; exact H.2.2.1 j a d
  · rw [g0] at d
    by_cases c2 : j = w
    · rw [c2, u3_j h5]; exact H.2.2.2.1 w (by rw [c2] at g; exact g) hw0 hw
    · rw [u3_i c2]; exact H.2.2.2.1 j g a d
  · rw [g0] at a
    rw [u3_i (show ¬ j = w by rw [i32eq]; omega)]; exact H.2.2.2.2 j a d
/-- a run ends: its row is whole again -/
theorem OI.done {B' : Int} {st wy us : Int32} (H : OI w f0 B o) (hB : B ≤ B') (hw0 : 0 ≤ w.toInt) (hw : w.toInt < (o 0 0 1).toInt) (hs0 : 1 ≤ st.toInt) (hs1 : st.toInt ≤ 4) (hy : st = 3 → 1 ≤ wy.toInt ∧ wy.toInt ≤ 6) (hn : ¬ st = 3 → wy = 0) (hu0 : 0 ≤ us.toInt) (hu1 : us.toInt ≤ B') : OI (-1) 60 B' (u3 (u3 (u3 o 4 w 8 us) 4 w 4 st) 4 w 5 wy) := by
  have g0 : (u3 (u3 (u3 o 4 w 8 us) 4 w 4 st) 4 w 5 wy) 0 = o 0 := by rw [u3_ne _ _ _ (by decide), u3_ne _ _ _ (by decide), u3_ne _ _ _ (by decide)]
  refine ⟨by rw [g0]; exact H.1, by rw [g0]; exact H.2.1, fun j a d => ?_, fun j g a d => ?_, fun j a d => ?_⟩
  · rw [g0] at d
    by_cases c2 : j = w
    · rw [c2]
      have K := H.2.2.1 w hw0 hw
      refine ⟨?_, ?_, fun _ => ?_⟩
      · exact ((K.1.put (by decide) (by decide) (by decide)).put (by decide) (by decide) (by decide)).put (by decide) (by decide) (by decide)
      · rw [u3_j (by decide), u3_j (by decide), u3_at]; exact ⟨hu0, hu1⟩
      · unfold OS
        rw [u3_at, u3_j (show ¬ (4 : Int32) = 5 by decide), u3_at]
        exact ⟨⟨by omega, hs1⟩, hy, hn, fun z => by rw [z] at hs0; exact absurd hs0 (by decide)⟩
    · rw [u3_i c2, u3_i c2, u3_i c2]
      have K := H.2.2.1 j a d
      exact ⟨K.1, ⟨K.2.1.1, Int.le_trans K.2.1.2 hB⟩, fun _ => K.2.2 c2⟩
  · rw [g0] at d; rw [show (60 : Int32).toInt = 60 by decide] at g; have := H.1; omega
  · rw [g0] at a
    have c2 : ¬ j = w := by rw [i32eq]; omega
    rw [u3_i c2, u3_i c2, u3_i c2]; exact H.2.2.2.2 j a d
theorem OI.f60 (H : OI (-1) f0 B o) : OI (-1) 60 B o := ⟨H.1, H.2.1, H.2.2.1, fun i a _ c => by rw [show (60 : Int32).toInt = 60 by decide] at a; have := H.1; omega, H.2.2.2.2⟩
/-- the hour goes on -/
theorem OI.hour (H : OI w f0 B o) {x : Int32} (h0 : 0 ≤ x.toInt) (h1 : x.toInt ≤ 1000) : OI w f0 B (u3 o 0 0 2 x) := by
  have g1 : (u3 o 0 0 2 x) 0 0 1 = o 0 0 1 := u3_s (by decide)
  have g4 : (u3 o 0 0 2 x) 4 = o 4 := u3_ne _ _ _ (by decide)
  refine ⟨by rw [g1]; exact H.1, by rw [u3_at]; exact ⟨h0, h1⟩, ?_, ?_, ?_⟩
  · rw [g1, g4]; exact H.2.2.1
  · rw [g1, g4]; exact H.2.2.2.1
  · rw [g1, g4]; exact H.2.2.2.2
end ORD
