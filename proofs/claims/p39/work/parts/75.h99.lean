/-! how many expressions a list may hold -/
section CNT
variable {t x8 m : Cm} {E : Int32 → Int32 → Prop} {s i : Int32}
theorem minus_lp {m : Cm} {s : Int32} (hL : (m 3 0 s).toInt ≤ 120) (K : Int32 × Int32 → Int32) (hK : ∀ y, K y = -1 → ¬ y.2 = 1) : ∀ (k : Nat) (x : Int32 × Int32 × Int32), 0 ≤ x.1.toInt → x.1.toInt ≤ (m 3 0 s).toInt → 121 - x.1.toInt < k → f12_faultOf_lp7 m s K k x = -1 → (∀ q : Int32, x.1.toInt ≤ q.toInt → q.toInt < (m 3 0 s).toInt → f12_signAt m s q = 45 → f12_isDigit (f12_signAt m s (q + 1)) = true) ∧ (x.2.1 = 1 → f12_isDigit (f12_signAt m s x.1) = true) := by
  intro k
  induction k with
  | zero => intro x a b c; omega
  | succ k ih =>
    intro x a b c
    rw [f12_faultOf_lp7_s]
    simp only [bnd_e, jn_e]
    have hne : ¬ x.1 = -1 := by intro z; rw [z] at a; exact absurd a (by decide)
    by_cases c0 : m 3 0 s ≤ x.1
    · rw [if_pos c0]
      intro hr
      simp only [i32le] at c0
      exact ⟨fun q q0 q1 => by omega, fun z => absurd z (hK _ hr)⟩
    · rw [if_neg c0]
      simp only [i32le] at c0
      have e1 : (x.1 + 1).toInt = x.1.toInt + 1 := inc_t a (by omega)
      have body : ∀ v7 : Int32, (if f12_read (f12_signAt m s x.1) x.2.1 = -1 then x.1 else if x.2.2 + v7 < 0 then x.1 else if x.2.2 + v7 ≤ 20 then f12_faultOf_lp7 m s K k (x.1 + 1, f12_read (f12_signAt m s x.1) x.2.1, x.2.2 + v7) else x.1) = -1 → (∀ q : Int32, x.1.toInt ≤ q.toInt → q.toInt < (m 3 0 s).toInt → f12_signAt m s q = 45 → f12_isDigit (f12_signAt m s (q + 1)) = true) ∧ (x.2.1 = 1 → f12_isDigit (f12_signAt m s x.1) = true) := by
        intro v7
        by_cases c1 : f12_read (f12_signAt m s x.1) x.2.1 = -1
        · rw [if_pos c1]; exact fun z => absurd z hne
        · rw [if_neg c1]
          by_cases c2 : x.2.2 + v7 < 0
          · rw [if_pos c2]; exact fun z => absurd z hne
          · rw [if_neg c2]
            by_cases c3 : x.2.2 + v7 ≤ 20
            · rw [if_pos c3]
              intro hr
              obtain ⟨I1, I2⟩ := ih (x.1 + 1, f12_read (f12_signAt m s x.1) x.2.1, x.2.2 + v7) (by show 0 ≤ (x.1 + 1).toInt; omega) (by show (x.1 + 1).toInt ≤ _; omega) (by show 121 - (x.1 + 1).toInt < _; omega) hr
              refine ⟨fun q q0 q1 q2 => ?_, fun z => ?_⟩
              · by_cases cq : q = x.1
                · rw [cq] at q2 ⊢
                  apply I2
                  show f12_read (f12_signAt m s x.1) x.2.1 = 1
                  rw [q2] at c1 ⊢
                  have e : f12_read 45 x.2.1 = if x.2.1 = 0 then 1 else -1 := rfl
                  rw [e] at c1 ⊢
                  by_cases z : x.2.1 = 0
                  · rw [if_pos z]
                  · rw [if_neg z] at c1; exact absurd rfl c1
                · exact I1 q (by show (x.1 + 1).toInt ≤ _; rw [i32eq] at cq; omega) q1 q2
              · by_cases cd : f12_isDigit (f12_signAt m s x.1) = true
                · exact cd
                · exfalso
                  apply c1
                  rw [z]
                  unfold f12_read
                  simp only [bnd_e]
                  rw [if_neg cd]
                  by_cases cl : f12_isLetter (f12_signAt m s x.1) = true
                  · rw [if_pos cl, if_neg (show ¬ (1 : Int32) = 0 by decide), if_pos (show (1 : Int32) ≤ 10 by decide)]
                  · rw [if_neg cl]
                    by_cases c45 : f12_signAt m s x.1 = 45
                    · rw [if_pos c45, if_neg (show ¬ (1 : Int32) = 0 by decide)]
                    · rw [if_neg c45, if_pos trivial]
            · rw [if_neg c3]; exact fun z => absurd z hne
      by_cases d1 : f12_signAt m s x.1 = 40
      · rw [if_pos d1]; exact body 1
      · rw [if_neg d1]
        by_cases d2 : f12_signAt m s x.1 = 41
        · rw [if_pos d2]; exact body (-1)
        · rw [if_neg d2]; exact body 0
theorem minus_c (hk : Ok12 m) (hs : vp_in s 8) (h : f12_faultOf m s = -1) {q : Int32} (q0 : 0 ≤ q.toInt) (q1 : q.toInt < (m 3 0 s).toInt) (q2 : f12_signAt m s q = 45) : f12_isDigit (f12_signAt m s (q + 1)) = true := by
  have hL := hk.len s hs
  have hne : ¬ m 3 0 s = -1 := by intro z; rw [z] at hL; exact absurd hL.1 (by decide)
  have key : f12_faultOf_lp7 m s (fun y16 : Int32 × Int32 => if 0 < y16.1 then (m 3 0 s) else if y16.2 = 1 then (m 3 0 s) else (-1)) 122 (0, 0, 0) = -1 := h
  exact (minus_lp hL.2 _ (fun y hy => by
    intro z
    by_cases c : 0 < y.1
    · rw [if_pos c] at hy; exact hne hy
    · rw [if_neg c, if_pos z] at hy; exact hne hy) 122 (0, 0, 0) (by decide) hL.1 (by decide) key).1 q (by show (0 : Int32).toInt ≤ _; rw [t32_0]; exact q0) q1 q2
end CNT
