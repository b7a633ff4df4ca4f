theorem dec_b {x y : Int32} (hy : 0 ≤ y.toInt) (h : ¬ x ≤ y) (h1 : x.toInt ≤ 3000) : 0 ≤ (x - 1).toInt ∧ (x - 1).toInt ≤ 3000 ∧ (x - 1).toInt = x.toInt - 1 := by
  simp only [i32le] at h
  rw [i32subn (by rw [t32_1]; omega) (by rw [t32_1]; omega), t32_1]; omega
theorem dec_v {x y : Int32} (hy : 0 ≤ y.toInt) (h : ¬ x ≤ y) (h1 : x.toInt ≤ 3000) : vp_in (x - 1) 3000 := by
  have := dec_b hy h h1
  simp only [i32le] at h
  rw [vp_in_iff]; omega
def f12_undo_lp0 (p1 : Int32) (K2 : Cm → Cm) : Nat → Cm → Cm
  | 0, x1 => x1
  | n3 + 1, x1 => if (x1 0 0 21) ≤ p1 then K2 x1 else bnd (u3 x1 0 0 21 ((x1 0 0 21) - 1)) (fun (m5 : Cm) => bnd (u3 m5 4 0 ((8 * (x1 23 0 ((x1 0 0 21) - 1))) + (x1 25 0 ((x1 0 0 21) - 1))) ((x1 4 0 ((8 * (x1 23 0 ((x1 0 0 21) - 1))) + (x1 25 0 ((x1 0 0 21) - 1)))) + (x1 26 0 ((x1 0 0 21) - 1)))) (fun (m7 : Cm) => bnd (u3 m7 4 0 ((8 * (x1 24 0 ((x1 0 0 21) - 1))) + (x1 25 0 ((x1 0 0 21) - 1))) ((m7 4 0 ((8 * (x1 24 0 ((x1 0 0 21) - 1))) + (x1 25 0 ((x1 0 0 21) - 1)))) - (x1 26 0 ((x1 0 0 21) - 1)))) (fun (m9 : Cm) => f12_undo_lp0 p1 K2 n3 m9)))
theorem f12_undo_lp0_s (p1 : Int32) (K2 : Cm → Cm) (n3 : Nat) (x1 : Cm) : f12_undo_lp0 p1 K2 (n3 + 1) x1 = if (x1 0 0 21) ≤ p1 then K2 x1 else bnd (u3 x1 0 0 21 ((x1 0 0 21) - 1)) (fun (m5 : Cm) => bnd (u3 m5 4 0 ((8 * (x1 23 0 ((x1 0 0 21) - 1))) + (x1 25 0 ((x1 0 0 21) - 1))) ((x1 4 0 ((8 * (x1 23 0 ((x1 0 0 21) - 1))) + (x1 25 0 ((x1 0 0 21) - 1)))) + (x1 26 0 ((x1 0 0 21) - 1)))) (fun (m7 : Cm) => bnd (u3 m7 4 0 ((8 * (x1 24 0 ((x1 0 0 21) - 1))) + (x1 25 0 ((x1 0 0 21) - 1))) ((m7 4 0 ((8 * (x1 24 0 ((x1 0 0 21) - 1))) + (x1 25 0 ((x1 0 0 21) - 1)))) - (x1 26 0 ((x1 0 0 21) - 1)))) (fun (m9 : Cm) => f12_undo_lp0 p1 K2 n3 m9))) := rfl
def f12_undo_lp101  : Nat → (Int32 × Cm) → Cm
  | 0, x12 => x12.2
  | n13 + 1, x12 => if (x12.2 0 0 11) ≤ x12.1 then x12.2 else bnd (u3 x12.2 17 0 x12.1 4) (fun (m15 : Cm) => bnd (x12.1 + 1) (fun (v17 : Int32) => f12_undo_lp101 n13 (v17, m15)))
theorem f12_undo_lp101_s  (n13 : Nat) (x12 : Int32 × Cm) : f12_undo_lp101 (n13 + 1) x12 = if (x12.2 0 0 11) ≤ x12.1 then x12.2 else bnd (u3 x12.2 17 0 x12.1 4) (fun (m15 : Cm) => bnd (x12.1 + 1) (fun (v17 : Int32) => f12_undo_lp101 n13 (v17, m15))) := rfl
def f12_undo (m : Cm) (p1 : Int32) (p2 : Int32) : Cm := jn (fun (y11 : Cm) => f12_undo_lp101 (62 + 0 * (p1).toInt.toNat) (p2, y11)) (fun K2 => f12_undo_lp0 p1 K2 (3002 + 0 * (p1).toInt.toNat) m)
theorem okT_undo_lp101 {m0 : Cm} : ∀ (k : Nat) (x : Int32 × Cm), OkT m0 x.2 → OkT m0 (f12_undo_lp101 k x) := by
  intro k
  induction k with
  | zero => intro x h; exact h
  | succ k ih =>
    intro x h
    rw [f12_undo_lp101_s]
    split
    · exact h
    · exact bnd_I (P := OkT m0) (fun m1 e1 => bnd_I (P := OkT m0) (fun v _ => ih _ (by show OkT m0 m1; rw [e1]; exact okT_putA h (by decide))))
theorem okT_undo_lp0 {m0 : Cm} {a : Int32} {K : Cm → Cm} (ha : 0 ≤ a.toInt) (hK : ∀ y, OkT m0 y → OkT m0 (K y)) : ∀ (k : Nat) (x : Cm), OkT m0 x → OkT m0 (f12_undo_lp0 a K k x) := by
  intro k
  induction k with
  | zero => intro x h; exact h
  | succ k ih =>
    intro x h
    rw [f12_undo_lp0_s]
    by_cases c : x 0 0 21 ≤ a
    · rw [if_pos c]; exact hK _ h
    · rw [if_neg c]
      refine bnd_I (P := OkT m0) (fun m1 e1 => bnd_I (P := OkT m0) (fun m2 e2 => bnd_I (P := OkT m0) (fun m3 e3 => ih _ ?_)))
      rw [e3, e2, e1]
      exact okT_putA (okT_putA (okT_s21 h ⟨(dec_b ha c h.1.m1).1, (dec_b ha c h.1.m1).2.1⟩) (by decide)) (by decide)
theorem okT_f12_undo {m0 m : Cm} (h : OkT m0 m) (a b : Int32) (ha : 0 ≤ a.toInt) : OkT m0 (f12_undo m a b) := by
  unfold f12_undo
  exact jn_I' (Q := OkT m0) (P := OkT m0) (fun K hK => okT_undo_lp0 ha hK _ _ h) (fun y hy => okT_undo_lp101 _ _ hy)
theorem okT_f12_evaluate {m0 m : Cm} (h : OkT m0 m) (s i : Int32) (h2 : ∃ j e, Run12 j (ini12 m s i) e ∧ OkT m e) : OkT m0 (f12_evaluate m s i) := by
  obtain ⟨j, e, h3, h4⟩ := h2
  rw [evaluate_eq h3]
  exact ⟨h4.1, h4.2.1.trans h.2.1, h4.2.2.trans h.2.2⟩
/-- an order's run: where it begins, what it needs -/
def skp12 (m : Cm) (s : Int32) : Nat → Int32 → Int32
  | 0, n => n
  | k + 1, n => if n = -1 then -1 else skp12 m s k (f12_following m s n)
def run0 (m : Cm) (w : Int32) : Cm := u3 (u3 (u3 (u3 (u3 (u3 m 0 0 56 w) 0 0 57 (m 13 0 w)) 0 0 58 0) 0 0 50 0) 17 0 w 1) 18 0 w 0
def fin12 (e : Cm) (w : Int32) : Cm := u3 (u3 e 19 0 w (e 19 0 w + 1)) 20 0 w (e 0 0 62)
def LpOk (s w : Int32) : Nat → Cm → Int32 → Prop
  | 0, _, n => n = -1
  | k + 1, m, n => n = -1 ∨ ∃ j e, Run12 j (ini12 m s n) e ∧ OkT m e ∧ (e 0 0 63 = 0 → LpOk s w k (fin12 e w) (f12_following m s n))
def LpOk' (s w : Int32) (m : Cm) (n : Int32) : Prop := ∃ k, LpOk s w k m n
theorem LpOk'.none (s w : Int32) (m : Cm) : LpOk' s w m (-1) := ⟨0, rfl⟩
theorem LpOk'.next {s w n : Int32} {m : Cm} (h : LpOk' s w m n) (hn : ¬ n = -1) : (∃ j e, Run12 j (ini12 m s n) e ∧ OkT m e) ∧ ((f12_evaluate m s n) 0 0 63 = 0 → LpOk' s w (fin12 (f12_evaluate m s n) w) (f12_following m s n)) := by
  obtain ⟨k, h⟩ := h
  cases k with
  | zero => exact absurd h hn
  | succ k =>
    obtain ⟨j, e, h1, h2, h3⟩ := h.resolve_left hn
    refine ⟨⟨j, e, h1, h2⟩, ?_⟩
    rw [evaluate_eq h1]
    exact fun z => ⟨k, h3 z⟩
theorem skp12_none (m : Cm) (s : Int32) (k : Nat) : skp12 m s k (-1) = -1 := by
  cases k with
  | zero => rfl
  | succ k => rw [skp12, if_pos rfl]
/-- what an order's run needs -/
def RunOk (m : Cm) (w : Int32) : Prop := f12_faultOf m (m 14 0 w) = -1 → LpOk' (m 14 0 w) w (run0 m w) (skp12 m (m 14 0 w) (m 19 0 w).toInt.toNat (f12_nextAt m (m 14 0 w) 0))
theorem mu12_m1 {m : Cm} {s i : Int32} (hk : Ok12 m) (hs : vp_in s 8) (hI : Ix12 m s i) : mu12 (-1) < mu12 i := by
  have hL := (hk.len s hs).2
  have h0 := hI.1; have h1 := hI.2
  have hi : ¬ i = -1 := by intro z; rw [z] at h0; exact absurd h0 (by decide)
  unfold mu12
  rw [if_pos rfl, if_neg hi]; omega
theorem skp12_step {m : Cm} {s x k : Int32} {D : Int32} (h0 : 0 ≤ k.toInt) (h : ¬ D ≤ k) (hx : ¬ x = -1) : skp12 m s (D.toInt - (k + 1).toInt).toNat (f12_following m s x) = skp12 m s (D.toInt - k.toInt).toNat x := by
  simp only [i32le] at h
  have hD := (i32rng D).2
  have e : (D.toInt - k.toInt).toNat = (D.toInt - (k + 1).toInt).toNat + 1 := by rw [inc_t h0 (by omega)]; omega
  rw [e, skp12, if_neg hx]
theorem skp12_end {m : Cm} {s x k : Int32} {D : Int32} (h : D ≤ k ∨ x = -1) : skp12 m s (D.toInt - k.toInt).toNat x = x := by
  rcases h with h | h
  · simp only [i32le] at h
    have e : (D.toInt - k.toInt).toNat = 0 := by omega
    rw [e]; rfl
  · rw [h, skp12_none]
noncomputable def f12_run_lp96 (m : Cm) (p1 : Int32) (v1 : Int32) (m22 : Cm) (K29 : Int32 → Cm) : Nat → (Int32 × Int32) → Cm
  | 0, x28 => m22
  | n30 + 1, x28 => if (m 19 0 p1) ≤ x28.1 then K29 x28.2 else if x28.2 = (-1) then K29 x28.2 else bnd (f12_following m22 v1 x28.2) (fun (r33 : Int32) => bnd (x28.1 + 1) (fun (v34 : Int32) => f12_run_lp96 m p1 v1 m22 K29 n30 (v34, r33)))
theorem f12_run_lp96_s (m : Cm) (p1 : Int32) (v1 : Int32) (m22 : Cm) (K29 : Int32 → Cm) (n30 : Nat) (x28 : Int32 × Int32) : f12_run_lp96 m p1 v1 m22 K29 (n30 + 1) x28 = if (m 19 0 p1) ≤ x28.1 then K29 x28.2 else if x28.2 = (-1) then K29 x28.2 else bnd (f12_following m22 v1 x28.2) (fun (r33 : Int32) => bnd (x28.1 + 1) (fun (v34 : Int32) => f12_run_lp96 m p1 v1 m22 K29 n30 (v34, r33))) := rfl
noncomputable def f12_run_lp128 (p1 : Int32) (v1 : Int32) : Nat → (Int32 × Cm) → Cm
  | 0, x36 => x36.2
  | n37 + 1, x36 => if x36.1 = (-1) then x36.2 else bnd ((x36.2 0 0 21)) (fun (v39 : Int32) => bnd ((x36.2 0 0 11)) (fun (v40 : Int32) => bnd (f12_evaluate x36.2 v1 x36.1) (fun (r41 : Cm) => if (r41 0 0 63) = 0 then bnd (u3 r41 19 0 p1 ((r41 19 0 p1) + 1)) (fun (m56 : Cm) => bnd (u3 m56 20 0 p1 (r41 0 0 62)) (fun (m58 : Cm) => bnd (f12_following m58 v1 x36.1) (fun (r60 : Int32) => f12_run_lp128 p1 v1 n37 (r60, m58)))) else bnd (f12_undo r41 v39 v40) (fun (r44 : Cm) => jn (fun (v46 : Int32) => bnd (u3 r44 17 0 p1 v46) (fun (m49 : Cm) => jn (fun (v51 : Int32) => bnd (u3 m49 18 0 p1 v51) (fun (m54 : Cm) => f12_run_lp128 p1 v1 n37 ((-1), m54))) (fun K52 => if (r44 0 0 63) = 7 then K52 0 else K52 (r44 0 0 63)))) (fun K47 => if (r44 0 0 63) = 7 then K47 2 else K47 3)))))
theorem f12_run_lp128_s (p1 : Int32) (v1 : Int32) (n37 : Nat) (x36 : Int32 × Cm) : f12_run_lp128 p1 v1 (n37 + 1) x36 = if x36.1 = (-1) then x36.2 else bnd ((x36.2 0 0 21)) (fun (v39 : Int32) => bnd ((x36.2 0 0 11)) (fun (v40 : Int32) => bnd (f12_evaluate x36.2 v1 x36.1) (fun (r41 : Cm) => if (r41 0 0 63) = 0 then bnd (u3 r41 19 0 p1 ((r41 19 0 p1) + 1)) (fun (m56 : Cm) => bnd (u3 m56 20 0 p1 (r41 0 0 62)) (fun (m58 : Cm) => bnd (f12_following m58 v1 x36.1) (fun (r60 : Int32) => f12_run_lp128 p1 v1 n37 (r60, m58)))) else bnd (f12_undo r41 v39 v40) (fun (r44 : Cm) => jn (fun (v46 : Int32) => bnd (u3 r44 17 0 p1 v46) (fun (m49 : Cm) => jn (fun (v51 : Int32) => bnd (u3 m49 18 0 p1 v51) (fun (m54 : Cm) => f12_run_lp128 p1 v1 n37 ((-1), m54))) (fun K52 => if (r44 0 0 63) = 7 then K52 0 else K52 (r44 0 0 63)))) (fun K47 => if (r44 0 0 63) = 7 then K47 2 else K47 3))))) := rfl
noncomputable def f12_run (m : Cm) (p1 : Int32) : Cm := bnd ((m 14 0 p1)) (fun (v1 : Int32) => bnd (f12_faultOf m v1) (fun (r2 : Int32) => jn (fun (v3 : Bool) => bnd (u3 m 0 0 56 p1) (fun (m6 : Cm) => bnd (u3 m6 0 0 57 (m 13 0 p1)) (fun (m8 : Cm) => bnd (u3 m8 0 0 58 0) (fun (m10 : Cm) => bnd (u3 m10 0 0 50 0) (fun (m12 : Cm) => jn (fun (v14 : Int32) => bnd (u3 m12 17 0 p1 v14) (fun (m17 : Cm) => jn (fun (v19 : Bool) => bnd (u3 m17 18 0 p1 (b2i v19)) (fun (m22 : Cm) => jn (fun (v24 : Int32) => jn (fun (y35 : Int32) => f12_run_lp128 p1 v1 123 (y35, m22)) (fun K29 => f12_run_lp96 m p1 v1 m22 K29 123 (0, v24))) (fun K25 => if v3 = true then bnd (f12_nextAt m22 v1 0) (fun (r27 : Int32) => K25 r27) else K25 (-1)))) (fun K20 => if v3 = true then K20 false else K20 true))) (fun K15 => if v3 = true then K15 1 else K15 3)))))) (fun K4 => if r2 = (-1) then K4 true else K4 false)))
/-- what the hours that pass need -/
def PsI (Q : Cm → Prop) : Nat → Cm → Int32 → Prop
  | 0, m, w => m 0 0 11 ≤ w ∧ Q m
  | k + 1, m, w => if m 0 0 11 ≤ w then Q m else if m 17 0 w = 0 ∧ m 15 0 w = m 0 0 10 then RunOk m w ∧ OkT m (f12_run m w) ∧ PsI Q k (f12_run m w) (w + 1) else PsI Q k m (w + 1)
def PsI' (Q : Cm → Prop) (m : Cm) (w : Int32) : Prop := ∃ k, PsI Q k m w
theorem PsI'.fin {Q : Cm → Prop} {m : Cm} {w : Int32} (h : PsI' Q m w) (c : m 0 0 11 ≤ w) : Q m := by
  obtain ⟨k, h⟩ := h
  cases k with
  | zero => exact h.2
  | succ k => unfold PsI at h; rw [if_pos c] at h; exact h
theorem PsI'.run {Q : Cm → Prop} {m : Cm} {w : Int32} (h : PsI' Q m w) (c : ¬ m 0 0 11 ≤ w) (a : m 17 0 w = 0) (b : m 15 0 w = m 0 0 10) : RunOk m w ∧ OkT m (f12_run m w) ∧ PsI' Q (f12_run m w) (w + 1) := by
  obtain ⟨k, h⟩ := h
  cases k with
  | zero => exact absurd h.1 c
  | succ k => unfold PsI at h; rw [if_neg c, if_pos ⟨a, b⟩] at h; exact ⟨h.1, h.2.1, k, h.2.2⟩
theorem PsI'.skip {Q : Cm → Prop} {m : Cm} {w : Int32} (h : PsI' Q m w) (c : ¬ m 0 0 11 ≤ w) (a : ¬ (m 17 0 w = 0 ∧ m 15 0 w = m 0 0 10)) : PsI' Q m (w + 1) := by
  obtain ⟨k, h⟩ := h
  cases k with
  | zero => exact absurd h.1 c
  | succ k => unfold PsI at h; rw [if_neg c, if_neg a] at h; exact ⟨k, h⟩
theorem PsI.mono {Q Q' : Cm → Prop} (hq : ∀ m, Q m → Q' m) : ∀ (k : Nat) (m : Cm) (w : Int32), PsI Q k m w → PsI Q' k m w := by
  intro k
  induction k with
  | zero => intro m w h; exact ⟨h.1, hq _ h.2⟩
  | succ k ih =>
    intro m w h
    unfold PsI at h ⊢
    by_cases c : m 0 0 11 ≤ w
    · rw [if_pos c] at h ⊢; exact hq _ h
    · rw [if_neg c] at h ⊢
      by_cases a : m 17 0 w = 0 ∧ m 15 0 w = m 0 0 10
      · rw [if_pos a] at h ⊢; exact ⟨h.1, h.2.1, ih _ _ h.2.2⟩
      · rw [if_neg a] at h ⊢; exact ih _ _ h
def PsO (hs : Int32) : Nat → Cm → Int32 → Prop
  | 0, _, i => hs ≤ i
  | k + 1, m, i => hs ≤ i ∨ PsI (fun m' => PsO hs k m' (i + 1)) 61 (u3 m 0 0 10 (m 0 0 10 + 1)) 0
def PsO' (hs : Int32) (m : Cm) (i : Int32) : Prop := ∃ k, PsO hs k m i
theorem PsO'.next {hs i : Int32} {m : Cm} (h : PsO' hs m i) (c : ¬ hs ≤ i) : PsI' (fun m' => PsO' hs m' (i + 1)) (u3 m 0 0 10 (m 0 0 10 + 1)) 0 := by
  obtain ⟨k, h⟩ := h
  cases k with
  | zero => exact absurd h c
  | succ k => exact ⟨61, PsI.mono (fun m' z => ⟨k, z⟩) _ _ _ (h.resolve_left c)⟩
theorem okT_f12_run {m0 m : Cm} (h : OkT m0 m) (w : Int32) (h2 : OkT m (f12_run m w)) : OkT m0 (f12_run m w) := ⟨h2.1, h2.2.1.trans h.2.1, h2.2.2.trans h.2.2⟩
noncomputable def f12_pass_lp66 (K15 : (Int32 × Cm) → (Int32 × Cm)) : Nat → (Int32 × Int32 × Cm) → (Int32 × Cm)
  | 0, x14 => (0, x14.2.2)
  | n16 + 1, x14 => if (x14.2.2 0 0 11) ≤ x14.1 then K15 (x14.2.1, x14.2.2) else jn (fun (v18 : Int32 × Cm) => bnd (x14.1 + 1) (fun (v25 : Int32) => f12_pass_lp66 K15 n16 (v25, v18.1, v18.2))) (fun K19 => if (x14.2.2 17 0 x14.1) = 0 then if (x14.2.2 15 0 x14.1) = (x14.2.2 0 0 10) then bnd (f12_run x14.2.2 x14.1) (fun (r22 : Cm) => bnd (x14.2.1 + 1) (fun (v24 : Int32) => K19 (v24, r22))) else K19 (x14.2.1, x14.2.2) else K19 (x14.2.1, x14.2.2))
theorem f12_pass_lp66_s (K15 : (Int32 × Cm) → (Int32 × Cm)) (n16 : Nat) (x14 : Int32 × Int32 × Cm) : f12_pass_lp66 K15 (n16 + 1) x14 = if (x14.2.2 0 0 11) ≤ x14.1 then K15 (x14.2.1, x14.2.2) else jn (fun (v18 : Int32 × Cm) => bnd (x14.1 + 1) (fun (v25 : Int32) => f12_pass_lp66 K15 n16 (v25, v18.1, v18.2))) (fun K19 => if (x14.2.2 17 0 x14.1) = 0 then if (x14.2.2 15 0 x14.1) = (x14.2.2 0 0 10) then bnd (f12_run x14.2.2 x14.1) (fun (r22 : Cm) => bnd (x14.2.1 + 1) (fun (v24 : Int32) => K19 (v24, r22))) else K19 (x14.2.1, x14.2.2) else K19 (x14.2.1, x14.2.2)) := rfl
noncomputable def f12_pass_lp47 (p1 : Int32) : Nat → (Int32 × Int32 × Cm) → (Int32 × Cm)
  | 0, x9 => (0, x9.2.2)
  | n10 + 1, x9 => if p1 ≤ x9.1 then (x9.2.1, x9.2.2) else bnd (u3 x9.2.2 0 0 10 ((x9.2.2 0 0 10) + 1)) (fun (m12 : Cm) => jn (fun (y26 : Int32 × Cm) => bnd (x9.1 + 1) (fun (v27 : Int32) => f12_pass_lp47 p1 n10 (v27, y26.1, y26.2))) (fun K15 => f12_pass_lp66 K15 62 (0, x9.2.1, m12)))
theorem f12_pass_lp47_s (p1 : Int32) (n10 : Nat) (x9 : Int32 × Int32 × Cm) : f12_pass_lp47 p1 (n10 + 1) x9 = if p1 ≤ x9.1 then (x9.2.1, x9.2.2) else bnd (u3 x9.2.2 0 0 10 ((x9.2.2 0 0 10) + 1)) (fun (m12 : Cm) => jn (fun (y26 : Int32 × Cm) => bnd (x9.1 + 1) (fun (v27 : Int32) => f12_pass_lp47 p1 n10 (v27, y26.1, y26.2))) (fun K15 => f12_pass_lp66 K15 62 (0, x9.2.1, m12))) := rfl
noncomputable def f12_pass (m : Cm) (p1 : Int32) : (Int32 × Cm) := bnd (f12_in p1 1 100) (fun (r1 : Bool) => jn (fun (v2 : Int32) => bnd (f12_goesWell m v2) (fun (r6 : Bool × Cm) => if r6.1 = true then f12_pass_lp47 p1 102 (0, 0, r6.2) else (0, r6.2))) (fun K3 => if r1 = true then if ((m 0 0 10) + p1) ≤ 1000 then K3 0 else K3 2 else K3 1))
noncomputable def f12_takeUp (m : Cm) (p1 : Int32) (p2 : Int32) : (Int32 × Cm) := bnd (f12_isOrder m p1) (fun (r1 : Bool) => jn (fun (v2 : Bool) => jn (fun (v7 : Int32) => bnd (f12_goesWell m v7) (fun (r13 : Bool × Cm) => if r13.1 = true then bnd (u3 r13.2 16 0 p1 p2) (fun (m16 : Cm) => bnd (f12_run m16 p1) (fun (r18 : Cm) => ((r18 17 0 p1), r18))) else (0, r13.2))) (fun K8 => if r1 = true then bnd (f12_in p2 1 1000) (fun (r10 : Bool) => if r10 = true then if v2 = true then K8 0 else K8 3 else K8 2) else K8 1)) (fun K3 => if r1 = true then if (m 17 0 p1) = 2 then K3 true else if (m 17 0 p1) = 3 then K3 true else K3 false else K3 false))
