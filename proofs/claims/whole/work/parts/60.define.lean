/-! def -/
section OPS
variable {t x8 : Cm} {E : Int32 → Int32 → Prop} {L : Int} {w : Int32} {M0 M : Wm} {m0 m1 : Cm} {d s P first : Int32}
def fR (m0 : Cm) (s n0 fn : Int32) : Nat → Cm → Cm
  | 0, m => m
  | k + 1, m => u3 (fR m0 s n0 fn k m) 54 0 (3 * fn + nI k) (f12_nameAt m0 s (skp12 m0 s k n0))
theorem fR_g (m0 : Cm) (s n0 fn : Int32) : ∀ (k : Nat) (m : Cm) (g : Nat), ¬ g = 54 → fR m0 s n0 fn k m g = m g := by
  intro k
  induction k with
  | zero => intro m g _; rfl
  | succ k ih => intro m g hg; unfold fR; rw [u3_ne _ _ _ hg, ih m g hg]
theorem fR_no (m0 : Cm) (s n0 fn : Int32) (k : Nat) (m : Cm) : NO m (fR m0 s n0 fn k m) :=
  ⟨fun g hg => fR_g m0 s n0 fn k m g (fun z => by rw [z] at hg; cases hg), fun j _ => by rw [fR_g m0 s n0 fn k m 0 (by decide)]⟩
theorem fR_ok {m0 m : Cm} (s n0 fn : Int32) (h : Ok12 m) : ∀ k : Nat, Ok12 (fR m0 s n0 fn k m) := by
  intro k
  induction k with
  | zero => exact h
  | succ k ih => exact ok12_putA ih (by decide)
theorem i3_t {a : Int32} {k : Nat} (ha : 0 ≤ a.toInt ∧ a.toInt < 8) (hk : k < 3) : (3 * a + nI k).toInt = 3 * a.toInt + k := by
  have hm : (3 * a).toInt = 3 * a.toInt := by rw [i32muln (by rw [t32_3]; omega) (by rw [t32_3]; omega), t32_3]
  have tk : (nI k : Int32).toInt = k := nI_toInt (by omega)
  rw [i32addn (by rw [hm, tk]; omega) (by rw [hm, tk]; omega), hm, tk]
theorem fR_at {m0 m : Cm} {s n0 fn : Int32} (hf : 0 ≤ fn.toInt ∧ fn.toInt < 8) : ∀ (k : Nat), k ≤ 3 → (∀ i : Nat, i < k → fR m0 s n0 fn k m 54 0 (3 * fn + nI i) = f12_nameAt m0 s (skp12 m0 s i n0)) ∧ ∀ (a : Int32) (i : Nat), 0 ≤ a.toInt ∧ a.toInt < 8 → ¬ a = fn → i < 3 → fR m0 s n0 fn k m 54 0 (3 * a + nI i) = m 54 0 (3 * a + nI i) := by
  intro k
  induction k with
  | zero => intro _; exact ⟨fun i h => by omega, fun a i _ _ _ => rfl⟩
  | succ k ih =>
    intro hk
    obtain ⟨h1, h2⟩ := ih (by omega)
    refine ⟨fun i hi => ?_, fun a i ha hne hi => ?_⟩
    · unfold fR
      by_cases c : i = k
      · subst c; rw [u3_at]
      · have ne : ¬ 3 * fn + nI i = 3 * fn + nI k := by
          rw [i32eq, i3_t hf (by omega), i3_t hf (by omega)]; omega
        rw [u3_j ne]; exact h1 i (by omega)
    · unfold fR
      have ne : ¬ 3 * a + nI i = 3 * fn + nI k := by
        rw [i32eq] at hne
        rw [i32eq, i3_t ha hi, i3_t hf (by omega)]; omega
      rw [u3_j ne]; exact h2 a i ha hne hi
theorem lp82_e {fn n0 : Int32} {K : Int32 × Cm → Cm} {m : Cm} (hk0 : Ok12 m0) (hs : vp_in s 8) (hX : Tx12 m0 s) (hN : Nx12 m0 s n0) (ht : m 2 = m0 2 ∧ m 3 = m0 3) : ∀ (f k : Nat), k ≤ CN12 m0 s n0 → CN12 m0 s n0 - k < f → f12_define_lp82 s fn K f (skp12 m0 s k n0, nI k, fR m0 s n0 fn k m) = K (nI (CN12 m0 s n0), fR m0 s n0 fn (CN12 m0 s n0) m) := by
  intro f
  induction f with
  | zero => intro k h1 h2; omega
  | succ f ih =>
    intro k h1 h2
    have hlt := CN12_lt hk0 hs hX hN
    rw [f12_define_lp82_s]
    by_cases c1 : k = CN12 m0 s n0
    · have e : skp12 m0 s k n0 = -1 := (skp_cn hk0 hs hX k n0 hN).mpr (by omega)
      rw [if_pos e, c1]
    · have hj1 : ¬ skp12 m0 s k n0 = -1 := fun z => by have := (skp_cn hk0 hs hX k n0 hN).mp z; omega
      have e1 : (nI k : Int32) + 1 = nI (k + 1) := by
        rw [i32eq, inc_t (by rw [nI_toInt (by omega)]; omega) (by rw [nI_toInt (by omega)]; omega), nI_toInt (by omega), nI_toInt (by omega)]; omega
      have tf : fR m0 s n0 fn k m 2 = m0 2 ∧ fR m0 s n0 fn k m 3 = m0 3 := ⟨(fR_g _ _ _ _ k m 2 (by decide)).trans ht.1, (fR_g _ _ _ _ k m 3 (by decide)).trans ht.2⟩
      have tf1 : fR m0 s n0 fn (k + 1) m 2 = m0 2 ∧ fR m0 s n0 fn (k + 1) m 3 = m0 3 := ⟨(fR_g _ _ _ _ (k + 1) m 2 (by decide)).trans ht.1, (fR_g _ _ _ _ (k + 1) m 3 (by decide)).trans ht.2⟩
      rw [if_neg hj1]
      simp only [bnd_e]
      rw [nameAt_fr tf, e1]
      show f12_define_lp82 s fn K f (f12_following (fR m0 s n0 fn (k + 1) m) s (skp12 m0 s k n0), nI (k + 1), fR m0 s n0 fn (k + 1) m) = _
      rw [following_fr tf1, show f12_following m0 s (skp12 m0 s k n0) = skp12 m0 s (k + 1) n0 by rw [skp_s, if_neg hj1]]
      exact ih (k + 1) (by omega) (by omega)
/-- the row of a function's name in the class -/
theorem defines_row {n : Cm} {name : Int32} {K : Int32 → Bool × Cm} (h0 : 0 ≤ (n 0 0 6).toInt ∧ (n 0 0 6).toInt ≤ 8) : ∀ (f : Nat) (x : Int32), 0 ≤ x.toInt → x.toInt ≤ (n 0 0 6).toInt → (n 0 0 6).toInt - x.toInt < f → (∀ j : Int32, 0 ≤ j.toInt → j.toInt < x.toInt → ¬ n 5 0 j = name) → ∃ r : Int32, f2_defines_lp2 n name K f x = K r ∧ ((r = n 0 0 6 ∧ ∀ j : Int32, 0 ≤ j.toInt → j.toInt < (n 0 0 6).toInt → ¬ n 5 0 j = name) ∨ (0 ≤ r.toInt ∧ r.toInt < (n 0 0 6).toInt ∧ n 5 0 r = name)) := by
  intro f
  induction f with
  | zero => intro x a b c; omega
  | succ f ih =>
    intro x a b c h
    rw [f2_defines_lp2_s]
    by_cases c1 : n 0 0 6 ≤ x
    · rw [if_pos c1]
      simp only [i32le] at c1
      have e : x = n 0 0 6 := by rw [i32eq]; omega
      exact ⟨x, rfl, Or.inl ⟨e, fun j h1 h2 => h j h1 (by omega)⟩⟩
    · rw [if_neg c1]
      simp only [i32le] at c1
      by_cases c2 : n 5 0 x = name
      · rw [if_pos c2]; exact ⟨x, rfl, Or.inr ⟨a, by omega, c2⟩⟩
      · rw [if_neg c2]
        simp only [bnd_e]
        have e1 : (x + 1).toInt = x.toInt + 1 := inc_t a (by omega)
        exact ih (x + 1) (by omega) (by omega) (by omega) (fun j h1 h2 => by
          by_cases e : j = x
          · rw [e]; exact c2
          · exact h j h1 (by rw [i32eq] at e; omega))
theorem adv_def {m : Cm} (h : m 32 0 d = 17) : f12_advance m d = f12_define m d := by
  rw [adv_tell h (Or.inr rfl)]; unfold f12_tell; simp only [bnd_e]; rw [if_pos h]
theorem define_c (hL : LsC t E m0 s P first) (hP9 : ¬ P = -1) (hn : CN12 m0 s first = 3) (hnm : f12_isName m0 s first = true) (hop : f12_opOf m0 (f12_nameAt m0 s first) = -1) (hC0 : Ct12 m0) (hgd : f12_goodAt m0 s first = -1) (hip : f12_isParts m0 s (f12_following m0 s first) = true) (hM : Mid t x8 E L w M0 m0 d M m1) (hl : LvI m1 d s 17 first) (hb : M 2 0 0 2 = M0 2 0 0 2 ∧ M 2 0 0 3 = M0 2 0 0 3) :
    PostA t x8 E L w M0 m0 d (f7_define M P) (f12_advance m1 d) := by
  have E1 : E s first := hL.e 0 (by omega)
  have P1 : f9_partOf t P 1 = Pl s first := hL.p 0 (by omega) 1 (by decide)
  have E2 := hL.e 1 (by omega)
  have P2 := hL.p 1 (by omega) 2 (by decide)
  have E3 := hL.e 2 (by omega)
  have P3 := hL.p 2 (by omega) 3 (by decide)
  have f2 := hL.e2 (by omega)
  have f3 := hL.e3 (by omega)
  rw [f2] at E2 P2
  rw [f3] at E3 P3
  have hk0 := hL.1.2.2.2.2
  have hX := hL.1.2.2.2.1
  have hT := hL.1.2.2.1
  have hs := hL.1.1
  have t1 := hM.tx
  have le := letter_e hL E1 hnm
  have ip := (isParts_e hk0 hs hX (hL.ix E2)).mp hip
  have ai := (areInner_e (M := M) hM.m9 hk0 hs hX hT E2 ip.1).mpr ip.2
  have ND := hT.2 _ E2
  have hle2 := (hL.ix E2).le hk0 hs
  obtain ⟨_, hx0, hLs⟩ := ND.2.2.2.1 ip.1
  have cn3 : CN12 m0 s (f12_nextAt m0 s (f12_following m0 s first + 1)) ≤ 3 := isParts_cn hk0 hs hX (hL.ix E2) hip
  have hN := hx0.nx hT
  -- the class' checks
  have hgo : f10_goodOf (f12_nameAt m0 s first) = -1 := by
    have : f12_goodAt m0 s first = f10_goodOf (f12_nameAt m0 s first) := by
      unfold f12_goodAt f10_goodOf
      simp only [bnd, jn]
      rw [if_pos hnm]
      unfold f12_in
      by_cases c1 : f12_nameAt m0 s first < 1
      · rw [if_pos c1, if_pos c1]; rfl
      · rw [if_neg c1, if_neg c1]
        by_cases c2 : 8 < f12_nameAt m0 s first
        · rw [if_pos c2, if_pos c2]; rfl
        · rw [if_neg c2, if_neg c2]; rfl
    rw [← this]; exact hgd
  have hof : f10_of (f12_nameAt m0 s first) = -1 := by rw [← opOf_of hC0]; exact hop
  unfold f7_define
  simp only [bnd_e]
  rw [hM.m9, P1, le.2.1, hof, if_pos (by decide), hgo, if_pos rfl, P2, ai]
  simp only [if_true]
  generalize hnn : f12_nameAt m0 s first = name
  generalize hn0 : f12_nextAt m0 s (f12_following m0 s first + 1) = n0 at ip ai hx0 hLs cn3 hN
  have hF := hM.2.1.2
  have fl := functionOf_last (m := m1) (x := name) (by rw [← hF.1]; exact hF.2.1.1) (by rw [← hF.1]; exact hF.2.1.2)
  rw [← hF.1] at fl
  -- the row in both
  have row : ∃ r : Int32, f2_defines (M 2) name P = (if r < 8 then (true, u3 (u3 (u3 (M 2) 5 0 r name) 6 0 r P) 0 0 6 (mxI (M 2 0 0 6) (r + 1))) else (false, M 2)) ∧ (if f12_functionOf m1 name = -1 then m1 0 0 50 else f12_functionOf m1 name) = r ∧ (r = M 2 0 0 6 ∧ (∀ j : Int32, 0 ≤ j.toInt → j.toInt < (M 2 0 0 6).toInt → ¬ m1 52 0 j = name) ∨ 0 ≤ r.toInt ∧ r.toInt < (M 2 0 0 6).toInt ∧ m1 52 0 r = name) := by
    obtain ⟨r, e1, e2⟩ := defines_row (n := M 2) (name := name) (K := fun (y7 : Int32) => if y7 < 8 then bnd (u3 (M 2) 5 0 y7 name) (fun (m9 : Cm) => bnd (u3 m9 6 0 y7 P) (fun (m10 : Cm) => bnd (u3 m10 0 0 6 (mxI (M 2 0 0 6) (y7 + 1))) (fun (m11 : Cm) => (true, m11)))) else (false, M 2)) hF.2.1 9 0 (by decide) (by rw [t32_0]; exact hF.2.1.1) (by rw [t32_0]; have := hF.2.1.2; omega) (fun j a b => by rw [t32_0] at b; omega)
    refine ⟨r, e1, ?_, ?_⟩
    · rcases e2 with ⟨q1, q2⟩ | ⟨q1, q2, q3⟩
      · rcases fl with ⟨z, _⟩ | ⟨a, b, c, _⟩
        · rw [if_pos z, q1, hF.1]
        · exact absurd ((hF.2.2.2 _ a b).1.trans c) (q2 _ a b)
      · rcases fl with ⟨z, z2⟩ | ⟨a, b, c, _⟩
        · exact absurd ((hF.2.2.2 r q1 q2).1.symm.trans q3) (z2 r q1 q2)
        · rw [if_neg (by intro z; rw [z] at a; exact absurd a (by decide))]
          exact hF.2.2.1 _ _ a b q1 q2 (c.trans ((hF.2.2.2 r q1 q2).1.symm.trans q3).symm)
    · rcases e2 with ⟨q1, q2⟩ | ⟨q1, q2, q3⟩
      · exact Or.inl ⟨q1, fun j a b => by rw [← (hF.2.2.2 j a b).1]; exact q2 j a b⟩
      · exact Or.inr ⟨q1, q2, by rw [← (hF.2.2.2 r q1 q2).1]; exact q3⟩
  obtain ⟨r, r1, r2, r3⟩ := row
  have hr0 : 0 ≤ r.toInt ∧ r.toInt ≤ (M 2 0 0 6).toInt := by
    rcases r3 with ⟨z, _⟩ | ⟨a, b, _⟩
    · rw [z]; exact ⟨hF.2.1.1, Int.le_refl _⟩
    · omega
  rw [r1]
  have a1 : f12_advance m1 d = if r = 8 then u3 m1 0 0 63 2 else f12_finish (u3 (u3 (u3 (u3 (u3 (fR m0 s n0 r (CN12 m0 s n0) m1) 52 0 r name) 53 0 r (nI (CN12 m0 s n0))) 55 0 r s) 56 0 r (f12_following m0 s (f12_following m0 s first))) 0 0 50 (m1 0 0 50 + b2i (decide (r = m1 0 0 50)))) 0 := by
    rw [adv_def hl.2.1]
    unfold f12_define
    simp only [bnd_e]
    rw [hl.1, hl.2.2, nameAt_fr t1, hnn]
    have J : ∀ (f : Int32 → Cm), jn f (fun K5 => if f12_functionOf m1 name = -1 then K5 (m1 0 0 50) else K5 (f12_functionOf m1 name)) = f r := by
      intro f
      simp only [jn]
      rw [← r2]
      by_cases c : f12_functionOf m1 name = -1
      · rw [if_pos c, if_pos c]
      · rw [if_neg c, if_neg c]
    rw [J, following_fr t1, nextAt_fr t1, hn0]
    by_cases c8 : r = 8
    · rw [if_pos c8, if_pos c8]
    · rw [if_neg c8, if_neg c8]
      simp only [jn]
      have e := fun K => lp82_e (fn := r) (K := K) (m := m1) hk0 hs hX hN t1 123 0 (Nat.zero_le _) (by omega)
      have e' : ∀ K : Int32 × Cm → Cm, f12_define_lp82 s r K 123 (n0, 0, m1) = K (nI (CN12 m0 s n0), fR m0 s n0 r (CN12 m0 s n0) m1) := e
      rw [e']
      have t5 : (u3 (u3 (u3 (fR m0 s n0 r (CN12 m0 s n0) m1) 52 0 r name) 53 0 r (nI (CN12 m0 s n0))) 55 0 r s) 2 = m0 2 ∧ (u3 (u3 (u3 (fR m0 s n0 r (CN12 m0 s n0) m1) 52 0 r name) 53 0 r (nI (CN12 m0 s n0))) 55 0 r s) 3 = m0 3 := ⟨by rw [u3_ne _ _ _ (by decide), u3_ne _ _ _ (by decide), u3_ne _ _ _ (by decide), fR_g _ _ _ _ _ _ _ (by decide)]; exact t1.1, by rw [u3_ne _ _ _ (by decide), u3_ne _ _ _ (by decide), u3_ne _ _ _ (by decide), fR_g _ _ _ _ _ _ _ (by decide)]; exact t1.2⟩
      rw [following_fr t5, fR_g _ _ _ _ _ _ 0 (by decide)]
      by_cases cq : r = m1 0 0 50
      · rw [if_pos cq, decide_eq_true cq]
      · rw [if_neg cq, decide_eq_false cq]
  rw [a1]
  have c6 := hF.2.1
  by_cases c8 : r = 8
  · rw [if_pos c8, if_neg (by rw [c8]; decide)]
    simp only [Bool.false_eq_true, if_false, uW_same]
    exact err_c hM (by decide)
  · have hr8 : r.toInt < 8 := by
      rw [i32eq, t32_8] at c8; omega
    rw [if_neg c8, if_pos (by simp only [i32lt, t32_8]; exact hr8)]
    simp only [if_true]
    sorry
end OPS
