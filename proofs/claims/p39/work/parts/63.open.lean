/-! lists are opened -/
section OPS
variable {t x8 : Cm} {E : Int32 → Int32 → Prop} {L : Int} {w : Int32} {VA : Wm → Int32 → Int32 → Int32 × Wm} {M0 M : Wm} {m0 m1 : Cm} {d s P first : Int32}
/-- an expression that has taken its unit -/
def Mi0 (t x8 : Cm) (E : Int32 → Int32 → Prop) (L : Int) (w : Int32) (M0 : Wm) (m0 : Cm) (d : Int32) (M : Wm) (m : Cm) (s idx : Int32) : Prop := WR t x8 E L w M m ∧ NR t E M m ∧ (M 7 0 0 10 = 0 ∧ m 0 0 63 = 0) ∧ (m 0 0 59 = 0 ∧ m 0 0 60 = s ∧ m 0 0 61 = idx ∧ m 0 0 45 = d) ∧ HsA w M0 m0 M m ∧ Kp d m0 m ∧ (0 ≤ d.toInt ∧ d.toInt < 30) ∧ Us M0 M
theorem Mi0.tx {idx : Int32} (h : Mi0 t x8 E L w M0 m0 d M m1 s idx) : m1 2 = m0 2 ∧ m1 3 = m0 3 := ⟨h.2.2.2.2.1.2.2.1.2.2.2.1, h.2.2.2.2.1.2.2.1.2.2.2.2⟩
theorem Mi0.ok {idx : Int32} (h : Mi0 t x8 E L w M0 m0 d M m1 s idx) : Ok12 m1 := h.1.2.2.2.2.2.2.1
theorem Mi0.m9 {idx : Int32} (h : Mi0 t x8 E L w M0 m0 d M m1 s idx) : M 9 = t := h.1.1.1
theorem err0_c {v x idx : Int32} (hM : WR t x8 E L w M m1) (hH : HsA w M0 m0 M m1) (hx : ¬ x = 0) : PostA t x8 E L w M0 m0 d (v, uW M 7 (u3 (M 7) 0 0 10 x)) (u3 m1 0 0 63 x) := by
  obtain ⟨b1, b2, b3, b4, b5, b6, b7, b8⟩ := hM
  refine ⟨u3 m1 0 0 63 x, St.refl _, ⟨hH.1, hH.2.1, hH.2.2.1, hH.2.2.2⟩, ⟨b1, b2.fr ⟨u3_ne _ _ _ (by decide), u3_ne _ _ _ (by decide)⟩, b3, b4, b5, b6, ok12_put0 b7 (by decide), b8⟩, fun z => ?_, fun _ => rfl⟩
  exact absurd z hx
theorem val0_c {v idx : Int32} (hM : Mi0 t x8 E L w M0 m0 d M m1 s idx) (hb : M 2 0 0 2 = M0 2 0 0 2 ∧ M 2 0 0 3 = M0 2 0 0 3) : PostA t x8 E L w M0 m0 d (v, M) (u3 m1 0 0 62 v) := by
  obtain ⟨a1, a2, ⟨a3, a3'⟩, ⟨a4, a4', a4'', a5⟩, a6, a7, a8, aU⟩ := hM
  have po := PO.s m1 (k := 62) v rfl
  have ok : Ok12 (u3 m1 0 0 62 v) := ok12_put0 a1.2.2.2.2.2.2.1 (by decide)
  exact ⟨u3 m1 0 0 62 v, St.refl _, a6.po po, a1.po po ok, fun _ => ⟨a2.po po, ⟨a3', a4, a5, rfl⟩, a7.trans (Kp.s _ _ _ _), hb.1, hb.2, aU⟩, fun z => absurd a3 z⟩
theorem PO.push (m : Cm) (op f : Int32) : PO m (push12 m op f) := by
  unfold push12
  exact (((((PO.g m 0 _ _ rfl (by decide)).trans (PO.g _ 0 _ _ rfl (by decide))).trans (PO.g _ 0 _ _ rfl (by decide))).trans (PO.g _ 0 _ _ rfl (by decide))).trans (PO.g _ 0 _ _ rfl (by decide))).trans (PO.g _ 0 _ _ rfl (by decide))
theorem Kp.push {m : Cm} (op f : Int32) (hd : m 0 0 45 = d) : Kp d m (push12 m op f) := by
  unfold push12
  rw [hd]
  exact (((((Kp.l m _ (by decide) (Int.le_refl _)).trans (Kp.l _ _ (by decide) (Int.le_refl _))).trans (Kp.l _ _ (by decide) (Int.le_refl _))).trans (Kp.l _ _ (by decide) (Int.le_refl _))).trans (Kp.l _ _ (by decide) (Int.le_refl _))).trans (Kp.l _ _ (by decide) (Int.le_refl _))
theorem ok_push {m : Cm} {op f : Int32} (hk : Ok12 m) (ho : vp_in op 27) : Ok12 (push12 m op f) := by
  unfold push12
  exact ok12_putA (ok12_putA (ok12_putA (ok12_putA (okT_g32 (m0 := u3 m 31 0 (m 0 0 45) (m 0 0 60)) ⟨(okT_g31 (m0 := m) ⟨hk, rfl, rfl⟩ hk.scr).1, rfl, rfl⟩ ho).1 (by decide)) (by decide)) (by decide)) (by decide)
/-- what a function's row puts on the pile -/
def kpF (m : Cm) (a b : Int32) : Cm := u3 (u3 (u3 (u3 (u3 (u3 m 42 0 a (m 53 0 b)) 43 0 (3 * a + 0) (m 54 0 (3 * b + 0))) 43 0 (3 * a + 1) (m 54 0 (3 * b + 1))) 43 0 (3 * a + 2) (m 54 0 (3 * b + 2))) 44 0 a (m 55 0 b)) 45 0 a (m 56 0 b)
theorem keep_e (m : Cm) (a b : Int32) : f12_keep m a b = kpF m a b := rfl
theorem PO.keep (m : Cm) (a b : Int32) : PO m (kpF m a b) := by
  unfold kpF
  exact (((((PO.g m 0 _ _ rfl (by decide)).trans (PO.g _ 0 _ _ rfl (by decide))).trans (PO.g _ 0 _ _ rfl (by decide))).trans (PO.g _ 0 _ _ rfl (by decide))).trans (PO.g _ 0 _ _ rfl (by decide))).trans (PO.g _ 0 _ _ rfl (by decide))
theorem Kp.l43 {m : Cm} {j x : Int32} (hj : 3 * d.toInt ≤ j.toInt) : Kp d m (u3 m 43 0 j x) := fun q h1 h2 k hk => by
  by_cases c : q = 43
  · subst c
    rw [if_pos rfl] at hk
    exact u3_j (fun z => by rw [z] at hk; omega)
  · rw [u3_ne _ _ _ c]
theorem Kp.keep {m : Cm} (b : Int32) (hd : 0 ≤ d.toInt ∧ d.toInt < 30) : Kp d m (kpF m d b) := by
  unfold kpF
  have i0 := idx3_t (k := 0) hd (by decide) (by decide)
  have i1 := idx3_t (k := 1) hd (by decide) (by decide)
  have i2 := idx3_t (k := 2) hd (by decide) (by decide)
  rw [t32_0] at i0
  rw [t32_1] at i1
  rw [t32_2] at i2
  exact (((((Kp.l m _ (by decide) (Int.le_refl _)).trans (Kp.l43 (by omega))).trans (Kp.l43 (by omega))).trans (Kp.l43 (by omega))).trans (Kp.l _ _ (by decide) (Int.le_refl _))).trans (Kp.l _ _ (by decide) (Int.le_refl _))
/-- a list lies on the pile -/
theorem Mi0.up {m' : Cm} {idx : Int32} (hM : Mi0 t x8 E L w M0 m0 d M m1 s idx) (po : PO m1 m') (p0 : m' 0 = m1 0) (kp : Kp d m1 m') (hk : Ok12 m') : Mid t x8 E L w M0 m0 d M (u3 m' 0 0 45 (d + 1)) := by
  obtain ⟨a1, a2, ⟨a3, a3'⟩, ⟨a4, a4', a4'', a5⟩, a6, a7, a8, aU⟩ := hM
  obtain ⟨i1, i2, i3⟩ := lv_inc a8
  have po2 := po.trans (PO.s m' (k := 45) (d + 1) rfl)
  have ok : Ok12 (u3 m' 0 0 45 (d + 1)) := (okT_s45 (m0 := m') ⟨hk, rfl, rfl⟩ (by omega)).1
  refine ⟨a1.po po2 ok, a2.po po2, ⟨a3, ?_⟩, ⟨?_, u3_at _ _ _ _ _⟩, a6.po po2, (a7.trans kp).trans (Kp.s _ _ _ _), a8, aU⟩
  · rw [u3_s (by decide), p0]; exact a3'
  · rw [u3_s (by decide), p0]; exact a4
/-- the definition of a name, in both -/
theorem definitionOf_e {n m : Cm} (h : RelFn t E n m) (x : Int32) : (f12_functionOf m x = -1 → f2_definitionOf n x = -1) ∧ (¬ f12_functionOf m x = -1 → vp_in (f12_functionOf m x) 8 ∧ f2_definitionOf n x = n 6 0 (f12_functionOf m x) ∧ FnD t E (n 6 0 (f12_functionOf m x)) m (f12_functionOf m x)) := by
  have h6 : (m 0 0 50).toInt = (n 0 0 6).toInt := by rw [h.1]
  have fl := functionOf_last (m := m) (x := x) (by rw [h6]; exact h.2.1.1) (by rw [h6]; exact h.2.1.2)
  rw [h6] at fl
  have key : ∀ (f : Nat) (i : Int32), 0 ≤ i.toInt → i.toInt ≤ (n 0 0 6).toInt → (n 0 0 6).toInt - i.toInt < f → (∀ j : Int32, 0 ≤ j.toInt → j.toInt < i.toInt → ¬ m 52 0 j = x) → ((∀ j : Int32, 0 ≤ j.toInt → j.toInt < (n 0 0 6).toInt → ¬ m 52 0 j = x) → f2_definitionOf_lp2 n x f i = -1) ∧ ∀ r : Int32, 0 ≤ r.toInt → r.toInt < (n 0 0 6).toInt → m 52 0 r = x → f2_definitionOf_lp2 n x f i = n 6 0 r := by
    intro f
    induction f with
    | zero => intro i a b c; omega
    | succ f ih =>
      intro i a b c hj
      have hb8 := h.2.1.2
      rw [f2_definitionOf_lp2_s]
      by_cases c1 : n 0 0 6 ≤ i
      · rw [if_pos c1]
        simp only [i32le] at c1
        exact ⟨fun _ => rfl, fun r r0 r1 r2 => absurd r2 (hj r r0 (by omega))⟩
      · rw [if_neg c1]
        simp only [i32le] at c1
        have e5 := (h.2.2.2 i a (by omega)).1
        by_cases c2 : n 5 0 i = x
        · rw [if_pos c2]
          refine ⟨fun z => absurd (e5.symm.trans c2) (z i a (by omega)), fun r r0 r1 r2 => ?_⟩
          rw [h.2.2.1 i r a (by omega) r0 r1 ((e5.symm.trans c2).trans r2.symm)]
        · rw [if_neg c2]
          simp only [bnd_e]
          have e1 : (i + 1).toInt = i.toInt + 1 := inc_t a (by omega)
          exact ih (i + 1) (by omega) (by omega) (by omega) (fun j j0 j1 => by
            by_cases e : j = i
            · rw [e, ← e5]; exact c2
            · exact hj j j0 (by rw [i32eq] at e; omega))
  have K := key 9 0 (by decide) (by rw [t32_0]; exact h.2.1.1) (by rw [t32_0]; have := h.2.1.2; omega) (fun j a b => by rw [t32_0] at b; omega)
  refine ⟨fun z => ?_, fun z => ?_⟩
  · rcases fl with ⟨_, q⟩ | ⟨a, b, c, _⟩
    · exact K.1 q
    · rw [z] at a; exact absurd a (by decide)
  · rcases fl with ⟨q, _⟩ | ⟨a, b, c, _⟩
    · exact absurd q z
    · exact ⟨by rw [vp_in_iff]; have := h.2.1.2; omega, K.2 _ a b c, (h.2.2.2 _ a b).2⟩
end OPS
