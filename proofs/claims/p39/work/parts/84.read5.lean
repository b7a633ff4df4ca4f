/-! READING: all texts that were changed -/
section READ
variable {M : Wm}
theorem RelT.fr {x x' m : Cm} (h : RelT x m) (e1 : x' 1 = x 1) (e2 : x' 2 = x 2) : RelT x' m := by
  unfold RelT; rw [e1, e2]; exact h
/-- what is known of the faults that the class keeps -/
def FtK (x m : Cm) : Prop := RelT x m ∧ ∀ s : Int32, vp_in s 8 → ¬ x 4 0 s = 0 → x 3 0 s = f12_faultOf m s
theorem faultRead_8 (M : Wm) (s : Int32) : (f8_faultRead M s).2 8 = M 8 := (rdS_faultRead M s).1 8 (by decide) (by decide)
theorem changed_c {m : Cm} (hk : Ok12 m) (hS : ∀ s : Int32, vp_in s 8 → SgS m s) : ∀ (n : Nat) (i : Int32) (M : Wm), 0 ≤ i.toInt → i.toInt ≤ 8 → 8 - i.toInt < n → FtK (M 8) m → (∀ j : Int32, 0 ≤ j.toInt → j.toInt < i.toInt → ¬ M 8 4 0 j = 0) → FtK (f8_readChanged_lp2 n (i, M) 8) m ∧ (∀ j : Int32, vp_in j 8 → ¬ f8_readChanged_lp2 n (i, M) 8 4 0 j = 0) ∧ ∀ c : Nat, ¬ c = 6 → ¬ c = 8 → ¬ c = 9 → f8_readChanged_lp2 n (i, M) c = M c := by
  intro n
  induction n with
  | zero => intro i M _ _ c; omega
  | succ n ih =>
    intro i M h0 h1 c hF hj
    have t8 : (8 : Int32).toInt = 8 := by decide
    rw [f8_readChanged_lp2_s]
    simp only [bnd_e, jn_e]
    by_cases c0 : 8 ≤ i
    · rw [if_pos c0]
      simp only [i32le, t8] at c0
      exact ⟨hF, fun j hv => hj j (by rw [vp_in_iff] at hv; omega) (by rw [vp_in_iff] at hv; omega), fun _ _ _ _ => rfl⟩
    · rw [if_neg c0]
      simp only [i32le, t8] at c0
      have e1 : (i + 1).toInt = i.toInt + 1 := inc_t h0 (by omega)
      have hv : vp_in i 8 := by rw [vp_in_iff]; omega
      by_cases c1 : M 8 4 0 i = 0
      · rw [if_pos c1]
        have fe := fault_e hF.1 (hS i hv) hv hk
        have f8 := faultRead_8 M i
        have fo := fun (c : Nat) (a : ¬ c = 6) (b : ¬ c = 9) => (rdS_faultRead M i).1 c a b
        generalize f8_faultRead M i = r at fe f8 fo
        have x8 : uW (uW r.2 8 (u3 (r.2 8) 3 0 i r.1)) 8 (u3 ((uW r.2 8 (u3 (r.2 8) 3 0 i r.1)) 8) 4 0 i 1) 8 = u3 (u3 (M 8) 3 0 i (f12_faultOf m i)) 4 0 i 1 := by
          show u3 (u3 (r.2 8) 3 0 i r.1) 4 0 i 1 = _
          rw [f8, fe]
        have c4 : ∀ j : Int32, u3 (u3 (M 8) 3 0 i (f12_faultOf m i)) 4 0 i 1 4 0 j = if j = i then 1 else M 8 4 0 j := by
          intro j
          by_cases z : j = i
          · rw [if_pos z, z, u3_at]
          · rw [if_neg z, u3_j z, u3_ne _ _ _ (by decide)]
        have c3 : ∀ j : Int32, u3 (u3 (M 8) 3 0 i (f12_faultOf m i)) 4 0 i 1 3 0 j = if j = i then f12_faultOf m i else M 8 3 0 j := by
          intro j
          rw [u3_ne _ _ _ (by decide)]
          by_cases z : j = i
          · rw [if_pos z, z, u3_at]
          · rw [if_neg z, u3_j z]
        have I := ih (i + 1) (uW (uW r.2 8 (u3 (r.2 8) 3 0 i r.1)) 8 (u3 ((uW r.2 8 (u3 (r.2 8) 3 0 i r.1)) 8) 4 0 i 1)) (by omega) (by omega) (by omega) (by
          rw [x8]
          refine ⟨hF.1.fr (by rw [u3_ne _ _ _ (by decide), u3_ne _ _ _ (by decide)]) (by rw [u3_ne _ _ _ (by decide), u3_ne _ _ _ (by decide)]), fun j hj8 hz => ?_⟩
          rw [c4] at hz
          rw [c3]
          by_cases z : j = i
          · rw [if_pos z, z]
          · rw [if_neg z] at hz ⊢; exact hF.2 j hj8 hz) (by
          intro j a b
          rw [x8, c4]
          by_cases z : j = i
          · rw [if_pos z]; decide
          · rw [if_neg z]; exact hj j a (by rw [i32eq] at z; omega))
        refine ⟨I.1, I.2.1, fun k a b d => (I.2.2 k a b d).trans ?_⟩
        unfold uW
        rw [if_neg b, if_neg b]; exact fo k a d
      · rw [if_neg c1]
        exact ih (i + 1) M (by omega) (by omega) (by omega) hF (fun j a b => by
          by_cases z : j = i
          · rw [z]; exact c1
          · exact hj j a (by rw [i32eq] at z; omega))
end READ
