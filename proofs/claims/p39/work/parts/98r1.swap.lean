/-! TWO OBJECTS: the world as the other one sees it; what is told of both -/
section SWP
variable {D : va_G} {ta : wTa} {ad : wAd} {M N : Wm} {H : Heap} {U : State}
theorem sw_cases (c : Nat) : c < 33 ∨ ∃ n, c = n + 33 := by
  by_cases h : c < 33
  · exact Or.inl h
  · exact Or.inr ⟨c - 33, by omega⟩
theorem sw_sw (c : Nat) : sw (sw c) = c := by
  rcases sw_cases c with h | ⟨n, rfl⟩
  · revert h; revert c; decide
  · rfl
theorem lt33 {P : Nat → Prop} (h0 : P 0) (h1 : P 1) (h2 : P 2) (h3 : P 3) (h4 : P 4) (h5 : P 5) (h6 : P 6) (h7 : P 7) (h8 : P 8) (h9 : P 9) (h10 : P 10) (h11 : P 11) (h12 : P 12) (h13 : P 13) (h14 : P 14) (h15 : P 15) (h16 : P 16) (h17 : P 17) (h18 : P 18) (h19 : P 19) (h20 : P 20) (h21 : P 21) (h22 : P 22) (h23 : P 23) (h24 : P 24) (h25 : P 25) (h26 : P 26) (h27 : P 27) (h28 : P 28) (h29 : P 29) (h30 : P 30) (h31 : P 31) (h32 : P 32) (hn : ∀ n : Nat, P (n + 33)) (c : Nat) : P c := by
  match c with
  | 0 => exact h0
  | 1 => exact h1
  | 2 => exact h2
  | 3 => exact h3
  | 4 => exact h4
  | 5 => exact h5
  | 6 => exact h6
  | 7 => exact h7
  | 8 => exact h8
  | 9 => exact h9
  | 10 => exact h10
  | 11 => exact h11
  | 12 => exact h12
  | 13 => exact h13
  | 14 => exact h14
  | 15 => exact h15
  | 16 => exact h16
  | 17 => exact h17
  | 18 => exact h18
  | 19 => exact h19
  | 20 => exact h20
  | 21 => exact h21
  | 22 => exact h22
  | 23 => exact h23
  | 24 => exact h24
  | 25 => exact h25
  | 26 => exact h26
  | 27 => exact h27
  | 28 => exact h28
  | 29 => exact h29
  | 30 => exact h30
  | 31 => exact h31
  | 32 => exact h32
  | n + 33 => exact hn n
theorem wcnt_sw (c g : Nat) : wcnt (sw c) g = wcnt c g := by
  revert c
  exact lt33 rfl rfl rfl rfl rfl rfl rfl rfl rfl rfl rfl rfl rfl rfl rfl rfl rfl rfl rfl rfl rfl rfl rfl rfl rfl rfl rfl rfl rfl rfl rfl rfl rfl (fun _ => rfl)
theorem adS_adS (ad : wAd) : adS (adS ad) = ad := by funext c; show ad (sw (sw c)) = ad c; rw [sw_sw]
theorem swM_swM (M : Wm) : swM (swM M) = M := by funext c; show M (sw (sw c)) = M c; rw [sw_sw]
theorem wcell_sw (c g : Nat) (i : Int32) (f : Int32 → Int32) : wcell ta (adS ad) (sw c) g i f = wcell ta ad c g i f := by
  revert c
  refine lt33 ?_ ?_ ?_ ?_ ?_ ?_ ?_ ?_ ?_ ?_ ?_ ?_ ?_ ?_ ?_ ?_ ?_ ?_ ?_ ?_ ?_ ?_ ?_ ?_ ?_ ?_ ?_ ?_ ?_ ?_ ?_ ?_ ?_ (fun _ => rfl)
  all_goals first
    | rfl
    | (show wc1 ta (adS (adS ad)) g f = wc1 ta ad g f; rw [adS_adS])
    | (show wc2 ta (adS (adS ad)) g f = wc2 ta ad g f; rw [adS_adS])
    | (show wc4 ta (adS (adS ad)) g f = wc4 ta ad g f; rw [adS_adS])
    | (show wc5 ta (adS (adS ad)) g f = wc5 ta ad g f; rw [adS_adS])
    | (show wc6 ta (adS (adS ad)) g f = wc6 ta ad g f; rw [adS_adS])
    | (show wc7 ta (adS (adS ad)) g f = wc7 ta ad g f; rw [adS_adS])
    | (show wc8 ta (adS (adS ad)) g f = wc8 ta ad g f; rw [adS_adS])
    | (show wc9 ta (adS (adS ad)) g f = wc9 ta ad g f; rw [adS_adS])
    | (show wc11 ta (adS (adS ad)) g f = wc11 ta ad g f; rw [adS_adS])
theorem wP_sw1 (h : wP D ta ad M H) : wP D ta (adS ad) (swM M) H := by
  intro c g i hi
  have a := h (sw c) g i (by rw [wcnt_sw]; exact hi)
  have e := wcell_sw (ta := ta) (ad := adS ad) c g i (swM M c g i)
  rw [adS_adS] at e
  rw [← e]; exact a
theorem wP_sw : wP D ta (adS ad) (swM M) H = wP D ta ad M H := propext ⟨fun h => by have a := wP_sw1 h; rw [adS_adS, swM_swM] at a; exact a, wP_sw1⟩
theorem wA_sw : wA (adS ad) = wA ad := by
  have key : ∀ (ad : wAd) (q : Nat), wA ad q → wA (adS ad) q := by
    intro ad q ⟨c, g, i, hc, hi, e⟩
    refine ⟨sw c, g, i, fun z => hc ?_, by rw [wcnt_sw]; exact hi, ?_⟩
    · rw [← sw_sw c, z]; rfl
    · show q = ad (sw (sw c)) g i; rw [sw_sw]; exact e
  funext q
  exact propext ⟨fun h => by have a := key _ q h; rw [adS_adS] at a; exact a, key ad q⟩
theorem wI_sw (h : wI ad) : wI (adS ad) := by
  intro c g i c2 g2 i2 h1 h2 e
  obtain ⟨a, b, d⟩ := h (sw c) g i (sw c2) g2 i2 (by rw [wcnt_sw]; exact h1) (by rw [wcnt_sw]; exact h2) e
  exact ⟨by rw [← sw_sw c, a, sw_sw], b, d⟩
theorem wSt_sw (h : wSt ad U H) : wSt (adS ad) U H := by
  unfold wSt at h ⊢
  rw [wA_sw]; exact h
theorem wZx_sw : wZx (adS ad) U H = wZx ad U H := by unfold wZx; rw [wA_sw]
theorem mPx_sw1 (h : mPx D ta ad M U) : mPx D ta (adS ad) (swM M) U := by
  obtain ⟨h1, h2, h3, h4, h5⟩ := h
  exact ⟨by rw [wP_sw]; exact h1, h2, wI_sw h3, wSt_sw h4, by rw [wZx_sw]; exact h5⟩
theorem mPx_sw : mPx D ta (adS ad) (swM M) = mPx D ta ad M := by
  funext U
  exact propext ⟨fun h => by have a := mPx_sw1 h; rw [adS_adS, swM_swM] at a; exact a, mPx_sw1⟩
theorem mQx_sw (z : XO) : mQx D ta (adS ad) z = mQx D ta ad (z.1, swM z.2) := by
  funext a st oc t
  unfold mQx
  rw [wA_sw, ← wP_sw (M := swM z.2), swM_swM]
theorem mXx_sw (z : XO) : mXx D ta (adS ad) z = mXx D ta ad (z.1, swM z.2) := by
  funext E st t
  unfold mXx
  rw [wA_sw, ← wP_sw (M := swM z.2), swM_swM]
theorem MX_sw {l : Launch} {y : MethodName} {cc : ByteArray} {n : Nat} {ret : Option FieldType} {d u : Nat} {avs : List Value} {z : XO} (h : MX l D ta (adS ad) y cc n ret d u avs (swM M) z) : MX l D ta ad y cc n ret d u avs M (z.1, swM z.2) := by
  unfold MX at h ⊢
  rw [mPx_sw, mQx_sw, mXx_sw, wA_sw] at h
  exact h
/-- what no cell holds -/
def gho (c : Nat) : Prop := c = 12 ∨ c = 32
theorem wcnt_gho {c : Nat} (h : gho c) (g : Nat) : wcnt c g = 0 := by rcases h with rfl | rfl <;> rfl
theorem wP_gh1 (e : ∀ c : Nat, ¬ gho c → M c = N c) (h : wP D ta ad M H) : wP D ta ad N H := by
  intro c g i hi
  by_cases hc : gho c
  · rw [wcnt_gho hc] at hi; exact absurd hi (by intro z; exact z (Or.inr (Nat.zero_le _)))
  · rw [← e c hc]; exact h c g i hi
theorem wP_gh (e : ∀ c : Nat, ¬ gho c → M c = N c) : wP D ta ad M H = wP D ta ad N H := propext ⟨wP_gh1 e, wP_gh1 (fun c hc => (e c hc).symm)⟩
theorem mQx_gh {z z' : XO} (h0 : z.1.1 = z'.1.1) (h1 : z.1.1 = 0 → z.1.2 = z'.1.2) (e : ∀ c : Nat, ¬ gho c → z.2 c = z'.2 c) : mQx D ta ad z = mQx D ta ad z' := by
  funext a st oc t
  unfold mQx
  rw [wP_gh e, h0]
  rw [h0] at h1
  by_cases c : z'.1.1 = 0
  · rw [h1 c]
  · exact propext ⟨fun w => absurd w.1.1 c, fun w => absurd w.1.1 c⟩
theorem mXx_gh {z z' : XO} (h0 : z.1.1 = z'.1.1) (e : ∀ c : Nat, ¬ gho c → z.2 c = z'.2 c) : mXx D ta ad z = mXx D ta ad z' := by
  funext E st t
  unfold mXx
  rw [wP_gh e, h0]
theorem MX_gh {l : Launch} {y : MethodName} {cc : ByteArray} {n : Nat} {ret : Option FieldType} {d u : Nat} {avs : List Value} {z z' : XO} (h : MX l D ta ad y cc n ret d u avs M z) (h0 : z.1.1 = z'.1.1) (h1 : z.1.1 = 0 → z.1.2 = z'.1.2) (e : ∀ c : Nat, ¬ gho c → z.2 c = z'.2 c) : MX l D ta ad y cc n ret d u avs M z' := by
  unfold MX at h ⊢
  rw [mQx_gh h0 h1 e, mXx_gh h0 e] at h
  exact h
end SWP
/-- one object's side: what was supplied, how many calls that count, the reference's data -/
abbrev ST : Type := (Int32 → Int32) × Int × Cm
def LST (s : ST) (M : Wm) : Prop := M 12 = s.2.2 ∧ LW s.1 s.2.1 M
def GM (w : Int32 → Int32) (s s2 : ST) (M : Wm) : Prop := M 13 0 0 = w ∧ LST s M ∧ LST s2 (swM M)
theorem GM.sw {w : Int32 → Int32} {s s2 : ST} {M : Wm} (h : GM w s s2 M) : GM w s2 s (swM M) := ⟨h.1, h.2.2, by rw [swM_swM]; exact h.2.1⟩
