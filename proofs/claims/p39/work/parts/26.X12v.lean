/-- what a text that has no fault behind a sign keeps -/
def FT (m : Cm) (s e op : Int32) : Prop := ∀ i0 k0 : Nat, (i0 : Int) = e.toInt → (i0 : Int) + k0 = (m 3 0 s).toInt → op.toInt + sf12 m s i0 k0 = 0 ∧ ∀ i j : Nat, i0 ≤ i → (i : Int) + j = (m 3 0 s).toInt → sf12 m s i j ≤ 0
theorem faultOf_lp {m : Cm} {s : Int32} (hL : (m 3 0 s).toInt ≤ 120) (K : Int32 × Int32 → Int32) (hK : ∀ y, K y = -1 → y.1.toInt ≤ 0) : ∀ (k : Nat) (x : Int32 × Int32 × Int32), 0 ≤ x.1.toInt → x.1.toInt ≤ (m 3 0 s).toInt → 0 ≤ x.2.2.toInt → x.2.2.toInt ≤ 20 → 121 - x.1.toInt < k → f12_faultOf_lp7 m s K k x = -1 → FT m s x.1 x.2.2 := by
  intro k
  induction k with
  | zero => intro x a b _ _ c; omega
  | succ k ih =>
    intro x a b o0 o1 c
    rw [f12_faultOf_lp7_s]
    have hne : ¬ x.1 = -1 := by intro z; rw [z] at a; exact absurd a (by decide)
    by_cases c0 : m 3 0 s ≤ x.1
    · rw [if_pos c0]
      intro hr
      have h0 := hK _ hr
      simp only [i32le] at c0
      intro i0 k0 e1 e2
      have hk0 : k0 = 0 := by omega
      subst hk0
      refine ⟨by show x.2.2.toInt + 0 = 0; have : x.2.2.toInt ≤ 0 := h0; omega, fun i j e3 e4 => ?_⟩
      have hj0 : j = 0 := by omega
      subst hj0; exact Int.le_refl _
    · rw [if_neg c0]
      simp only [i32le] at c0
      refine bnd_I (P := fun r : Int32 => r = -1 → FT m s x.1 x.2.2) (fun r5 e5 => bnd_I (P := fun r : Int32 => r = -1 → FT m s x.1 x.2.2) (fun r6 e6 => jn_I' (Q := fun v : Int32 => v.toInt = dl12 r5) (P := fun r : Int32 => r = -1 → FT m s x.1 x.2.2) (fun K8 hK8 => ?_) (fun v7 h7 => bnd_I (P := fun r : Int32 => r = -1 → FT m s x.1 x.2.2) (fun v11 e11 => ?_))))
      · by_cases c1 : r5 = 40
        · rw [if_pos c1]; exact hK8 _ (by rw [dl12, if_pos c1]; rfl)
        · rw [if_neg c1]
          by_cases c2 : r5 = 41
          · rw [if_pos c2]; exact hK8 _ (by rw [dl12, if_neg c1, if_pos c2]; rfl)
          · rw [if_neg c2]; exact hK8 _ (by rw [dl12, if_neg c1, if_neg c2]; rfl)
      · by_cases c1 : r6 = -1
        · rw [if_pos c1]; exact fun z => absurd z hne
        · rw [if_neg c1]
          by_cases c2 : v11 < 0
          · rw [if_pos c2]; exact fun z => absurd z hne
          · rw [if_neg c2]
            by_cases c3 : v11 ≤ 20
            · rw [if_pos c3]
              refine bnd_I (P := fun r : Int32 => r = -1 → FT m s x.1 x.2.2) (fun v15 e15 => fun hr => ?_)
              have hd := dl12_r r5
              have o2 : v11.toInt = x.2.2.toInt + dl12 r5 := by rw [e11, i32addn (by rw [h7]; omega) (by rw [h7]; omega), h7]
              have e1 : v15.toInt = x.1.toInt + 1 := by rw [e15]; exact inc_t a (by omega)
              simp only [i32lt, i32le, t32_0, t32_20] at c2 c3
              have hI := ih (v15, r6, v11) (by show 0 ≤ v15.toInt; omega) (by show v15.toInt ≤ _; omega) (by show 0 ≤ v11.toInt; omega) (by show v11.toInt ≤ 20; omega) (by show 121 - v15.toInt < _; omega) hr
              have hI' : FT m s v15 v11 := hI
              intro i0 k0 e2 e3
              have hk : ∃ k1, k0 = k1 + 1 := ⟨k0 - 1, by omega⟩
              obtain ⟨k1, hk1⟩ := hk
              subst hk1
              have h2 := hI' (i0 + 1) k1 (by omega) (by omega)
              have hs : sf12 m s i0 (k1 + 1) = dl12 r5 + sf12 m s (i0 + 1) k1 := by rw [sf12, nI_e (e := x.1) (i := i0) e2, ← e5]
              refine ⟨by rw [hs]; have := h2.1; omega, fun i j e4 e5' => ?_⟩
              by_cases ci : i = i0
              · subst ci
                have hj : j = k1 + 1 := by omega
                subst hj
                rw [hs]; have := h2.1; omega
              · exact h2.2 i j (by omega) e5'
            · rw [if_neg c3]; exact fun z => absurd z hne
/-- a text that the reference finds without fault is one -/
theorem faultOf_T {m : Cm} {s : Int32} (hk : Ok12 m) (hs : vp_in s 8) (h : f12_faultOf m s = -1) : Tx12 m s := by
  have hL := hk.len s hs
  have hne : ¬ m 3 0 s = -1 := by intro z; rw [z] at hL; exact absurd hL.1 (by decide)
  have key : f12_faultOf m s = -1 → FT m s 0 0 := by
    unfold f12_faultOf
    show f12_faultOf_lp7 m s (fun y16 : Int32 × Int32 => if 0 < y16.1 then (m 3 0 s) else if y16.2 = 1 then (m 3 0 s) else (-1)) 122 (0, 0, 0) = -1 → FT m s 0 0
    refine faultOf_lp hL.2 _ (fun y hy => ?_) 122 (0, 0, 0) (by decide) hL.1 (by decide) (by decide) (by decide)
    by_cases c : 0 < y.1
    · rw [if_pos c] at hy; exact absurd hy hne
    · simp only [i32lt, t32_0] at c; omega
  intro i k e
  have := key h 0 (m 3 0 s).toInt.toNat (by decide) (by omega)
  exact this.2 i k (by omega) e
def f12_fault (m : Cm) (p1 : Int32) : (Int32 × Cm) := bnd (f12_isScript p1) (fun (r1 : Bool) => jn (fun (v2 : Bool) => bnd (f12_goesWell m (b2i v2)) (fun (r5 : Bool × Cm) => if r5.1 = true then bnd (f12_faultOf r5.2 p1) (fun (r8 : Int32) => (r8, r5.2)) else (0, r5.2))) (fun K3 => if r1 = true then K3 false else K3 true))
def f12_expressions (m : Cm) (p1 : Int32) : (Int32 × Cm) := bnd (f12_isScript p1) (fun (r1 : Bool) => jn (fun (v2 : Int32) => bnd (f12_goesWell m v2) (fun (r7 : Bool × Cm) => if r7.1 = true then bnd (f12_nextAt r7.2 p1 0) (fun (r10 : Int32) => bnd (f12_countFrom r7.2 p1 r10) (fun (r11 : Int32) => (r11, r7.2))) else (0, r7.2))) (fun K3 => if r1 = true then bnd (f12_faultOf m p1) (fun (r5 : Int32) => if r5 = (-1) then K3 0 else K3 2) else K3 1))
