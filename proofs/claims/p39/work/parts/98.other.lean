/-! A TEXT that stays while another one is typed: all that is read of it stays -/
section OTH
variable {t x m m' : Cm} {s i : Int32} {M N : Wm}
def TxE (m m' : Cm) (s : Int32) : Prop := m' 3 0 s = m 3 0 s ∧ ∀ i : Int32, 0 ≤ i.toInt → f12_signAt m' s i = f12_signAt m s i
theorem TxE.symm (h : TxE m m' s) : TxE m' m s := ⟨h.1.symm, fun i h0 => (h.2 i h0).symm⟩
theorem ne_L {g : Int32} (hL : (m 3 0 s).toInt ≤ 120) (h : f12_signAt m s i = g) (hg : ¬ g = 0) : i.toInt < 120 := by
  have := signAt_lt (m := m) (s := s) (i := i) (by rw [h]; exact hg)
  omega
theorem nextAt_tx (h : TxE m m' s) (hL : (m 3 0 s).toInt ≤ 120) (h0 : 0 ≤ i.toInt) : f12_nextAt m' s i = f12_nextAt m s i := by
  have key : ∀ (K K' : Int32 → Int32), (∀ y : Int32, 0 ≤ y.toInt → K' y = K y) → ∀ (k : Nat) (x : Int32), 0 ≤ x.toInt → f12_nextAt_lp2 m' s K' k x = f12_nextAt_lp2 m s K k x := by
    intro K K' hK k
    induction k with
    | zero => intro x _; rfl
    | succ k ih =>
      intro x hx
      rw [f12_nextAt_lp2_s, f12_nextAt_lp2_s]
      simp only [bnd_e]
      rw [h.2 x hx]
      by_cases c : f12_signAt m s x = 32
      · rw [if_pos c, if_pos c]
        have := ne_L hL c (by decide)
        exact ih (x + 1) (by rw [inc_t hx (by omega)]; omega)
      · rw [if_neg c, if_neg c]; exact hK x hx
  unfold f12_nextAt
  simp only [jn_e, bnd_e]
  exact key _ _ (fun y hy => by rw [h.2 y hy]) 123 i h0
theorem endOf_tx (h : TxE m m' s) (h0 : 0 ≤ i.toInt) (h1 : i.toInt ≤ 1000) : f12_endOf m' s i = f12_endOf m s i := by
  have key : ∀ (k : Nat) (b : Bool) (a o : Int32), 0 ≤ a.toInt → a.toInt + k < 2147483640 → f12_endOf_lp8 m' s k (b, a, o) = f12_endOf_lp8 m s k (b, a, o) := by
    intro k
    induction k with
    | zero => intro b a o _ _; rfl
    | succ k ih =>
      intro b a o a0 a1
      cases b with
      | false => rw [endF, endF]
      | true =>
        have e1 : (a + 1).toInt = a.toInt + 1 := inc_t a0 (by omega)
        rw [lp8_b, lp8_b, h.2 a a0, h.2 (a + 1) (by omega)]
        exact ih _ (a + 1) _ (by omega) (by omega)
  exact key 123 true i 0 h0 (by omega)
theorem following_tx (hk : Ok12 m) (hs : vp_in s 8) (hX : Tx12 m s) (h : TxE m m' s) (hI : Ix12 m s i) : f12_following m' s i = f12_following m s i := by
  have hL := (hk.len s hs).2
  have e := endOf_o hk hs hX hI
  show f12_nextAt m' s (f12_endOf m' s i) = f12_nextAt m s (f12_endOf m s i)
  rw [endOf_tx h hI.1 (by have := hI.2; omega)]
  exact nextAt_tx h hL (by have := hI.1; omega)
theorem cn_tx (hk : Ok12 m) (hs : vp_in s 8) (hX : Tx12 m s) (h : TxE m m' s) (hN : Nx12 m s i) : CN12 m' s i = CN12 m s i := by
  have key : ∀ (k : Nat) (i : Int32), Nx12 m s i → cn12 m' s k i = cn12 m s k i := by
    intro k
    induction k with
    | zero => intro i _; rfl
    | succ k ih =>
      intro i hi
      show (if i = -1 then 0 else cn12 m' s k (f12_following m' s i) + 1) = (if i = -1 then 0 else cn12 m s k (f12_following m s i) + 1)
      by_cases c : i = -1
      · rw [if_pos c, if_pos c]
      · rw [if_neg c, if_neg c, following_tx hk hs hX h (hi.resolve_left c), ih _ (following_n hk hs hX (hi.resolve_left c))]
  exact key 123 i hN
theorem nameAt_tx (h : TxE m m' s) (hL : (m 3 0 s).toInt ≤ 120) (h0 : 0 ≤ i.toInt) : f12_nameAt m' s i = f12_nameAt m s i := by
  have key : ∀ (k : Nat) (x v : Int32), 0 ≤ x.toInt → f12_nameAt_lp5 m' s k (x, v) = f12_nameAt_lp5 m s k (x, v) := by
    intro k
    induction k with
    | zero => intro x v _; rfl
    | succ k ih =>
      intro x v hx
      rw [f12_nameAt_lp5_s, f12_nameAt_lp5_s]
      simp only [bnd_e]
      rw [h.2 x hx]
      by_cases c : f12_isLetter (f12_signAt m s x) = true
      · rw [if_pos c, if_pos c]
        have := ne_L (g := f12_signAt m s x) hL rfl (wd_ne (Or.inr c) (by decide))
        exact ih (x + 1) _ (by rw [inc_t hx (by omega)]; omega)
      · rw [if_neg c, if_neg c]
  exact key 123 i 0 h0
theorem numberAt_tx (h : TxE m m' s) (hL : (m 3 0 s).toInt ≤ 120) (h0 : 0 ≤ i.toInt) (h1 : i.toInt ≤ 1000) : f12_numberAt m' s i = f12_numberAt m s i := by
  have key : ∀ (K : Int32 → Int32) (k : Nat) (x v : Int32), 0 ≤ x.toInt → f12_numberAt_lp34 m' s K k (x, v) = f12_numberAt_lp34 m s K k (x, v) := by
    intro K k
    induction k with
    | zero => intro x v _; rfl
    | succ k ih =>
      intro x v hx
      rw [f12_numberAt_lp34_s, f12_numberAt_lp34_s]
      simp only [bnd_e]
      rw [h.2 x hx]
      by_cases c : f12_isDigit (f12_signAt m s x) = true
      · rw [if_pos c, if_pos c]
        have := ne_L (g := f12_signAt m s x) hL rfl (wd_ne (Or.inl c) (by decide))
        exact ih (x + 1) _ (by rw [inc_t hx (by omega)]; omega)
      · rw [if_neg c, if_neg c]
  rw [numberAt_e, numberAt_e, h.2 i h0]
  refine key _ 123 _ 0 ?_
  unfold ngS
  split
  · rw [inc_t h0 (by omega)]; omega
  · exact h0
theorem faultOf_tx (h : TxE m m' s) (hL : (m 3 0 s).toInt ≤ 120) : f12_faultOf m' s = f12_faultOf m s := by
  have key : ∀ (K : Int32 × Int32 → Int32) (k : Nat) (x a d : Int32), 0 ≤ x.toInt → f12_faultOf_lp7 m' s K k (x, a, d) = f12_faultOf_lp7 m s K k (x, a, d) := by
    intro K k
    induction k with
    | zero => intro x a d _; rfl
    | succ k ih =>
      intro x a d hx
      rw [f12_faultOf_lp7_s, f12_faultOf_lp7_s]
      simp only [bnd_e, jn_e]
      rw [h.2 x hx, h.1]
      by_cases c : m 3 0 s ≤ x
      · rw [if_pos c, if_pos c]
      · rw [if_neg c, if_neg c]
        simp only [i32le] at c
        have e1 : (x + 1).toInt = x.toInt + 1 := inc_t hx (by omega)
        simp only [ih (x + 1) _ _ (by omega)]
  have e : ∀ m : Cm, f12_faultOf m s = f12_faultOf_lp7 m s (K12 m s) 122 (0, 0, 0) := fun _ => rfl
  rw [e, e, show K12 m' s = K12 m s by unfold K12; rw [h.1]]
  exact key _ 122 0 0 0 (by decide)
theorem ah_tx (h : TxE m m' s) : ah m' s i = ah m s i := by
  have key : ∀ k : Nat, k < 2147483648 → ahN m' s k = ahN m s k := by
    intro k
    induction k with
    | zero => intro _; rfl
    | succ k ih =>
      intro hk
      show f12_read (f12_signAt m' s (nI k)) (ahN m' s k) = f12_read (f12_signAt m s (nI k)) (ahN m s k)
      rw [ih (by omega), h.2 (nI k) (by rw [nI_toInt (by omega)]; omega)]
  have := (i32rng i).2
  exact key _ (by omega)
theorem Bx_tx (h : TxE m m' s) : Bx m' s i ↔ Bx m s i := by
  have e : Ix12 m' s i ↔ Ix12 m s i := by unfold Ix12; rw [h.1]
  unfold Bx
  rw [e]
  refine ⟨fun z => ⟨z.1, ?_⟩, fun z => ⟨z.1, ?_⟩⟩
  · have := z.2; rw [h.2 i z.1.1, ah_tx h] at this; exact this
  · rw [h.2 i z.1.1, ah_tx h]; exact z.2
theorem Bx_fr (h : m' 2 = m 2 ∧ m' 3 = m 3) : Bx m' = Bx m := by
  funext s i
  have e : TxE m m' s := ⟨by rw [h.2], fun i _ => signAt_fr h s i⟩
  exact propext (Bx_tx e)
theorem SgS_tx (h : TxE m m' s) (k : SgS m s) : SgS m' s := fun p p0 p1 => by
  rw [h.2 p p0]; exact k p p0 (by rw [← h.1]; exact p1)
theorem TreeOk_tx (hk : Ok12 m) (hs : vp_in s 8) (hF : f12_faultOf m s = -1) (h : TxE m m' s) (k : TreeOk t m s (Bx m s)) : TreeOk t m' s (Bx m' s) := by
  have hX := faultOf_T hk hs hF
  have hL := (hk.len s hs).2
  have eB : ∀ i : Int32, Bx m' s i ↔ Bx m s i := fun i => Bx_tx h
  have eE : ∀ n : Int32, ExE (Bx m s) n → ExE (Bx m' s) n := fun n z => z.imp id (fun y => (eB n).mpr y)
  obtain ⟨⟨a1, a2⟩, b⟩ := k
  have L0 : ∀ (A j : Int32), 0 ≤ j.toInt → ExE (Bx m s) (f12_nextAt m s j) → LsT t m s A (f12_nextAt m s j) → ExE (Bx m' s) (f12_nextAt m' s j) ∧ LsT t m' s A (f12_nextAt m' s j) := by
    intro A j j0 x1 x2
    rw [nextAt_tx h hL j0]
    refine ⟨eE _ x1, ?_⟩
    unfold LsT at x2 ⊢
    rw [cn_tx hk hs hX h (x1.imp id (fun y => y.1))]; exact x2
  refine ⟨L0 _ 0 (by decide) a1 a2, fun i hi => ?_⟩
  obtain ⟨c1, c2, c3, c4, c5, c6⟩ := b i ((eB i).mp hi)
  have i0 := c1.1
  have i1 := c1.2
  have ef := following_tx hk hs hX h c1
  have e1 : (i + 1).toInt = i.toInt + 1 := inc_t i0 (by omega)
  refine ⟨by unfold Ix12; rw [h.1]; exact c1, by rw [ef]; exact eE _ c2, by rw [ef]; exact c3, fun z => ?_, fun z => ?_, fun z y => ?_⟩
  · rw [h.2 i i0] at z
    obtain ⟨d1, d2, d3⟩ := c4 z
    exact ⟨d1, L0 _ (i + 1) (by omega) d2 d3⟩
  · rw [h.2 i i0] at z
    rw [nameAt_tx h hL i0]; exact c5 z
  · rw [h.2 i i0] at z y
    rw [numberAt_tx h hL i0 (by omega)]; exact c6 z y
theorem RTx.fr {m' : Cm} (h : RTx t x m) (hk : Ok12 m) (e : m' 2 = m 2 ∧ m' 3 = m 3) : RTx t x m' := by
  obtain ⟨h1, h2, h3⟩ := h
  refine ⟨?_, fun s hs => by rw [SgS_fr e]; exact h2 s hs, fun s hs hz => ?_⟩
  · unfold RelT; rw [e.1, e.2]; exact h1
  · rw [faultOf_fr e, TreeOk_fr e, Bx_fr e]; exact h3 s hs hz
end OTH
