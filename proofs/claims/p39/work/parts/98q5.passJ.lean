/-! PASS and takeUp keep what stands between two calls -/
section JPA
variable {x : Int32 → Int32} {BQ BO : Int} {M : Wm} {p1 p2 : Int32}
theorem J0.mono {BO' : Int} (h : J0 x BQ BO M) (h1 : BO ≤ BO') (h2 : BO' ≤ 2000000000) : J0 x BQ BO' M := ⟨h.1, h.2.1.mono h1, ⟨by have := h.2.2.1; omega, h2⟩, h.2.2.2⟩
theorem J0.lp67 (h1000 : 1000 ≤ BO) {h0 n0 : Int32} {Q : ((Nat × Int32) × Wm) → Prop} {K : (Int32 × Wm) → ((Nat × Int32) × Wm)} (hK : ∀ (c : Int32) (N : Wm), J0 x BQ BO N → Ok7 N → N 4 0 0 2 = h0 → Q (K (c, N))) : ∀ (k : Nat) (i c : Int32) (N : Wm), 0 ≤ i.toInt → J0 x BQ BO N → Ok7 N → N 4 0 0 2 = h0 → n0.toInt ≤ (N 4 0 0 1).toInt → 61 - i.toInt ≤ k → i.toInt ≤ 60 → Q (f11_pass_lp67 n0 K k (i, c, N)) := by
  intro k
  induction k with
  | zero => intro i c N i0 h hk _ hn hm hx; exfalso; omega
  | succ k ih =>
    intro i c N i0 h hk hh hn hm hx
    rw [f11_pass_lp67_s]
    by_cases c1 : n0 ≤ i
    · rw [if_pos c1]; exact hK _ _ h hk hh
    · rw [if_neg c1]
      simp only [i32le] at c1
      have h60 := h.2.1.1.2
      have e1 : (i + 1).toInt = i.toInt + 1 := inc_t i0 (by omega)
      simp only [jn_e, bnd_e]
      have same : Q (f11_pass_lp67 n0 K k (i + 1, c, N)) := ih (i + 1) c N (by omega) h hk hh hn (by omega) (by omega)
      by_cases c2 : N 4 4 i 4 = 0
      · rw [if_pos c2]
        by_cases c3 : N 4 4 i 2 = N 4 0 0 2
        · rw [if_pos c3]
          have R := h.2.1.2.2.1 i i0 (by omega)
          have S := R.2.2 (fun z => by rw [z] at i0; exact absurd i0 (by decide))
          have E := h.exec hk i0 (by omega) R.1.2.2 (Int.le_refl _) (by rw [(S.2.2.2 c2).2, t32_0]; omega) h.2.2.1.2
          exact ih (i + 1) _ _ (by omega) E.1 (ok7_f7_execute hk i _ R.1.2.1) (E.2.2.trans hh) (by have := E.2.1; omega) (by omega) (by omega)
        · rw [if_neg c3]; exact same
      · rw [if_neg c2]; exact same
theorem J0.pass (h : J0 x BQ BO M) (hk : Ok7 M) (h1000 : 1000 ≤ BO) : J0 x BQ BO (f11_pass M p1).2 := by
  unfold f11_pass
  simp only [bnd_e, jn_e]
  by_cases c1 : f11_demand (f11_isIn p1 1 100) = 0
  · rw [if_pos c1]
    have hi := isIn11_t (demand_ok c1)
    rw [t32_1, t32_100] at hi
    have key : ∀ (k : Nat) (i c : Int32) (N : Wm), 0 ≤ i.toInt → i.toInt ≤ p1.toInt → J0 x BQ BO N → Ok7 N → (N 4 0 0 2).toInt + (p1.toInt - i.toInt) ≤ 1000 → J0 x BQ BO (f11_pass_lp37 p1 k (i, c, N)).2 := by
      intro k
      induction k with
      | zero => intro i c N _ _ h _ _; exact h
      | succ k ih =>
        intro i c N i0 i1 h hk hb
        rw [f11_pass_lp37_s]
        by_cases c2 : p1 ≤ i
        · rw [if_pos c2]; exact h
        · rw [if_neg c2]
          simp only [i32le] at c2
          simp only [jn_e, bnd_e]
          have hr := h.2.1.2.1
          have e1 : (i + 1).toInt = i.toInt + 1 := inc_t i0 (by omega)
          have eh : (N 4 0 0 2 + 1).toInt = (N 4 0 0 2).toInt + 1 := inc_t hr.1 (by omega)
          have g1 : u3 (N 4) 0 0 2 (N 4 0 0 2 + 1) 0 0 1 = N 4 0 0 1 := u3_s (by decide)
          have hN : J0 x BQ BO (uW N 4 (u3 (N 4) 0 0 2 (N 4 0 0 2 + 1))) := ⟨h.1, h.2.1.hour (by rw [eh]; omega) (by rw [eh]; omega), h.2.2.1, by show BY (N 1) (u3 (N 4) 0 0 2 (N 4 0 0 2 + 1) 0 0 1); rw [g1]; exact h.2.2.2.1, h.2.2.2.2⟩
          have okN : Ok7 (uW N 4 (u3 (N 4) 0 0 2 (N 4 0 0 2 + 1))) := ok4_w hk (by unfold ok4; rw [g1]; exact hk.o)
          have hK : ∀ (c' : Int32) (N' : Wm), J0 x BQ BO N' → Ok7 N' → N' 4 0 0 2 = N 4 0 0 2 + 1 → J0 x BQ BO (f11_pass_lp37 p1 k (i + 1, c', N')).2 := fun c' N' j1 j2 j3 => ih (i + 1) c' N' (by omega) (by omega) j1 j2 (by rw [j3, eh]; omega)
          have g2 : (uW N 4 (u3 (N 4) 0 0 2 (N 4 0 0 2 + 1))) 4 0 0 2 = N 4 0 0 2 + 1 := by rw [uW_at, u3_at]
          have g3 : (N 4 0 0 1).toInt ≤ ((uW N 4 (u3 (N 4) 0 0 2 (N 4 0 0 2 + 1))) 4 0 0 1).toInt := by rw [uW_at, g1]; exact Int.le_refl _
          generalize uW N 4 (u3 (N 4) 0 0 2 (N 4 0 0 2 + 1)) = N2 at hN okN g2 g3 ⊢
          generalize hKK : (fun (y25 : Int32 × Wm) => f11_pass_lp37 p1 k (i + 1, y25.1, y25.2)) = KK
          have hK2 : ∀ (c' : Int32) (N' : Wm), J0 x BQ BO N' → Ok7 N' → N' 4 0 0 2 = N 4 0 0 2 + 1 → J0 x BQ BO (KK (c', N')).2 := by
            intro c' N' j1 j2 j3
            rw [← hKK]; exact hK c' N' j1 j2 j3
          exact J0.lp67 (Q := fun z => J0 x BQ BO z.2) h1000 hK2 62 0 c N2 (by decide) hN okN g2 g3 (by decide) (by decide)
    have fin : ∀ b : Bool, (b = true → (M 4 0 0 2).toInt + p1.toInt ≤ 1000) → J0 x BQ BO (if f11_demandState b = 0 then f11_pass_lp37 p1 102 (0, 0, M) else ((f11_demandState b, 0), M)).2 := by
      intro b hb
      by_cases c3 : f11_demandState b = 0
      · rw [if_pos c3]
        exact key 102 0 0 M (by decide) (by rw [t32_0]; omega) h hk (by rw [t32_0]; have := hb (demandState_ok c3); omega)
      · rw [if_neg c3]; exact h
    by_cases c2 : 1000 < M 4 0 0 2 + p1
    · rw [if_pos c2]; exact fin false (fun z => by cases z)
    · rw [if_neg c2]
      refine fin true (fun _ => ?_)
      have hr := h.2.1.2.1
      simp only [i32lt, t32_1000] at c2
      rw [i32addn (by omega) (by omega)] at c2; omega
  · rw [if_neg c1]; exact h
theorem J0.takeUp (h : J0 x BQ BO M) (hk : Ok7 M) (hB : BO + 1000 ≤ 2000000000) : J0 x BQ (BO + 1000) (f11_takeUp M p1 p2).2 := by
  have hm := h.mono (BO' := BO + 1000) (by omega) hB
  unfold f11_takeUp
  simp only [bnd_e, jn_e]
  by_cases c1 : f11_existing M p1 = 0
  · rw [if_pos c1]
    have hi := existing_ok c1
    by_cases c2 : f11_demand (f11_isIn p2 1 1000) = 0
    · rw [if_pos c2]
      have h2 := isIn11_t (demand_ok c2)
      rw [t32_1, t32_1000] at h2
      have E := h.exec (B' := BO + 1000) hk hi.1 hi.2 ⟨by omega, h2.2⟩ (by omega) (by have := (h.2.1.2.2.1 p1 hi.1 hi.2).2.1; omega) hB
      have E1 := E.1
      generalize f7_execute M p1 p2 = R at E1 ⊢
      have fin : ∀ b : Bool, J0 x BQ (BO + 1000) (if f11_demandState b = 0 then ((0, R 4 4 p1 4), R) else ((f11_demandState b, 0), M)).2 := by
        intro b
        by_cases c3 : f11_demandState b = 0
        · rw [if_pos c3]; exact E1
        · rw [if_neg c3]; exact hm
      by_cases d1 : M 4 4 p1 4 = 2
      · rw [if_pos d1]; exact fin true
      · rw [if_neg d1]
        by_cases d2 : M 4 4 p1 4 = 3
        · rw [if_pos d2]; exact fin true
        · rw [if_neg d2]; exact fin false
    · rw [if_neg c2]; exact hm
  · rw [if_neg c1]; exact hm
end JPA
