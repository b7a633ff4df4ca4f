/-- what a list on the pile has, so that it can go on -/
def AdvQ (m : Cm) (l o : Int32) : Prop :=
  (o.toInt ≤ 8 → m 33 0 l = 1 → Ix12 m (m 31 0 l) (m 34 0 l)) ∧
  (9 ≤ o.toInt ∧ o.toInt ≤ 12 → Ix12 m (m 31 0 l) (m 35 0 l) ∧ (m 32 0 l = 12 → ¬ (f12_following m (m 31 0 l) (m 35 0 l)) = -1)) ∧
  (o.toInt = 13 → Ix12 m (m 31 0 l) (m 35 0 l) ∧ Nx12 m (m 31 0 l) (m 34 0 l)) ∧
  (14 ≤ o.toInt ∧ o.toInt ≤ 15 → (m 32 0 l = 15 → Ix12 m (m 31 0 l) (m 35 0 l)) ∧ (¬ m 33 0 l = 0 → Ix12 m (m 31 0 l) (m 34 0 l)) ∧ (m 0 0 49).toInt < 100) ∧
  (16 ≤ o.toInt ∧ o.toInt ≤ 17 → Ix12 m (m 31 0 l) (m 35 0 l) ∧ (m 32 0 l = 17 → Ix12 m (m 31 0 l) (f12_following m (m 31 0 l) (m 35 0 l)) ∧ CN12 m (m 31 0 l) (f12_nextAt m (m 31 0 l) ((f12_following m (m 31 0 l) (m 35 0 l)) + 1)) ≤ 3)) ∧
  (18 ≤ o.toInt ∧ o.toInt ≤ 20 → Ix12 m (m 31 0 l) (m 35 0 l) ∧ Ix12 m (m 31 0 l) (f12_following m (m 31 0 l) (m 35 0 l)) ∧ (m 32 0 l = 20 → ¬ f12_goodAt m (m 31 0 l) (f12_following m (m 31 0 l) (m 35 0 l)) = -1) ∧ (¬ m 32 0 l = 20 → ¬ f12_goodAt m (m 31 0 l) (m 35 0 l) = -1)) ∧
  (o.toInt = 22 → ¬ m 33 0 l = 0 → ¬ m 33 0 l = 1 → Tx12 m (m 41 0 l) ∧ Ix12 m (m 41 0 l) (m 34 0 l)) ∧
  (o.toInt = 26 → (m 33 0 l < m 42 0 l → ¬ m 33 0 l = 0 → Ix12 m (m 31 0 l) (m 34 0 l)) ∧ (m 0 0 49).toInt ≤ 97) ∧
  (21 ≤ o.toInt ∧ ¬ o.toInt = 22 ∧ ¬ o.toInt = 26 → ¬ m 33 0 l = 0 → Ix12 m (m 31 0 l) (m 34 0 l))
def AdvP (m : Cm) (l : Int32) : Prop := Tx12 m (m 31 0 l) ∧ AdvQ m l (m 32 0 l)
def f12_advance (m : Cm) (p1 : Int32) : Cm := bnd ((m 32 0 p1)) (fun (v1 : Int32) => if 8 < v1 then if 12 < v1 then if v1 = 13 then bnd (f12_repeat m p1) (fun (r20 : Cm) => r20) else if v1 = 14 then bnd (f12_goThrough m p1) (fun (r6 : Cm) => r6) else if v1 = 15 then bnd (f12_goThrough m p1) (fun (r19 : Cm) => r19) else if v1 = 16 then bnd (f12_tell m p1) (fun (r9 : Cm) => r9) else if v1 = 17 then bnd (f12_tell m p1) (fun (r18 : Cm) => r18) else if 20 < v1 then if v1 = 22 then bnd (f12_runScript m p1) (fun (r16 : Cm) => r16) else if v1 = 26 then bnd (f12_apply m p1) (fun (r15 : Cm) => r15) else bnd (f12_manage m p1) (fun (r14 : Cm) => r14) else bnd (f12_trade m p1) (fun (r17 : Cm) => r17) else bnd (f12_choose m p1) (fun (r21 : Cm) => r21) else bnd (f12_reckon m p1) (fun (r22 : Cm) => r22))
theorem keep_P {P : Cm → Prop} (h42 : ∀ (m : Cm) (j x : Int32), P m → vp_in x 4 → P (u3 m 42 0 j x)) (h43 : ∀ (m : Cm) (j x : Int32), P m → P (u3 m 43 0 j x)) (h44 : ∀ (m : Cm) (j x : Int32), P m → vp_in x 8 → P (u3 m 44 0 j x)) (h45 : ∀ (m : Cm) (j x : Int32), P m → P (u3 m 45 0 j x)) {m : Cm} (hk : rIn 8 4 (m 53 0) ∧ rIn 8 8 (m 55 0)) (h : P m) (a b : Int32) (hb : vp_in b 8) : P (f12_keep m a b) := by
  have key : ∀ (K : Cm → Cm) (hK : ∀ y, P y → rIn 8 8 (y 55 0) → P (K y)) (k : Nat) (x : Int32 × Cm), P x.2 → rIn 8 8 (x.2 55 0) → P (f12_keep_lp14 a b K k x) := by
    intro K hK k
    induction k with
    | zero => intro x h _; exact h
    | succ k ih =>
      intro x h h5
      rw [f12_keep_lp14_s]
      split
      · exact hK _ h h5
      · simp only [bnd]
        exact ih _ (h43 _ _ _ h) h5
  unfold f12_keep
  simp only [bnd, jn]
  exact key _ (fun y hy h5 => h45 _ _ _ (h44 _ _ _ hy (h5 _ hb))) 4 _ (h42 _ _ _ h (hk.1 _ hb)) hk.2
theorem okT_f12_keep {m0 m : Cm} (h : OkT m0 m) (a b : Int32) (ha : vp_in a 32) (hb : vp_in b 8) : OkT m0 (f12_keep m a b) :=
  keep_P (P := OkT m0) (fun m j x h hx => okT_g42 h hx) (fun m j x h => okT_putA h (by decide)) (fun m j x h hx => okT_g44 h hx) (fun m j x h => okT_putA h (by decide)) ⟨h.1.fN, h.1.fS⟩ h a b hb
theorem keep_g {m : Cm} (hk : Ok12 m) (a b : Int32) (hb : vp_in b 8) {g : Nat} (h2 : ¬ g = 42) (h3 : ¬ g = 43) (h4 : ¬ g = 44) (h5 : ¬ g = 45) : f12_keep m a b g = m g :=
  keep_P (P := fun m' => m' g = m g) (fun m j x h _ => by rw [u3_ne _ _ _ h2]; exact h) (fun m j x h => by rw [u3_ne _ _ _ h3]; exact h) (fun m j x h _ => by rw [u3_ne _ _ _ h4]; exact h) (fun m j x h => by rw [u3_ne _ _ _ h5]; exact h) ⟨hk.fN, hk.fS⟩ rfl a b hb
/-- a list is laid on the pile -/
def push12 (m : Cm) (op first : Int32) : Cm := u3 (u3 (u3 (u3 (u3 (u3 m 31 0 (m 0 0 45) (m 0 0 60)) 32 0 (m 0 0 45) op) 33 0 (m 0 0 45) 0) 35 0 (m 0 0 45) first) 34 0 (m 0 0 45) (-1)) 37 0 (m 0 0 45) 0
theorem fI_at (f : Int32 → Int32) (j x : Int32) : fI f j x j = x := by unfold fI; rw [if_pos rfl]
theorem push12_31 (m : Cm) (op first : Int32) : push12 m op first 31 0 (m 0 0 45) = m 0 0 60 := fI_at _ _ _
theorem push12_32 (m : Cm) (op first : Int32) : push12 m op first 32 0 (m 0 0 45) = op := fI_at _ _ _
theorem push12_33 (m : Cm) (op first : Int32) : push12 m op first 33 0 (m 0 0 45) = 0 := fI_at _ _ _
theorem push12_34 (m : Cm) (op first : Int32) : push12 m op first 34 0 (m 0 0 45) = -1 := fI_at _ _ _
theorem push12_35 (m : Cm) (op first : Int32) : push12 m op first 35 0 (m 0 0 45) = first := fI_at _ _ _
theorem isFormed_t {m : Cm} {op fn first : Int32} (hk : Ok12 m) (hC : Ct12 m) (hT : Tx12 m (m 0 0 60)) (hN : Nx12 m (m 0 0 60) first) (ho : vp_in op 26) (h : f12_isFormed m op fn first = true) : (lst12 op).toInt ≤ (CN12 m (m 0 0 60) first : Int) ∧ (CN12 m (m 0 0 60) first : Int) ≤ (mst12 op).toInt ∧ (op = 15 ∨ op = 16 → f12_isName m (m 0 0 60) first = true) ∧ (op = 18 ∨ op = 19 → ¬ f12_goodAt m (m 0 0 60) first = -1) ∧ (op = 20 → ¬ f12_goodAt m (m 0 0 60) (f12_following m (m 0 0 60) first) = -1) ∧ (op = 17 → f12_isName m (m 0 0 60) first = true ∧ f12_opOf m (f12_nameAt m (m 0 0 60) first) = -1 ∧ f12_goodAt m (m 0 0 60) first = -1 ∧ f12_isParts m (m 0 0 60) (f12_following m (m 0 0 60) first) = true) := by
  have hne : ¬ op = 26 := by intro z; rw [z, vp_in_iff] at ho; exact absurd ho (by decide)
  unfold f12_isFormed at h
  simp only [bnd, jn] at h
  rw [if_neg hne] at h
  by_cases c1 : f12_countFrom m (m 0 0 60) first < m 29 0 op
  · rw [if_pos c1] at h; cases h
  · rw [if_neg c1] at h
    have h1 := isFormed_1 hk hC hT hN ho c1
    by_cases c2 : f12_countFrom m (m 0 0 60) first ≤ m 30 0 op
    · have h2 : (CN12 m (m 0 0 60) first : Int) ≤ (mst12 op).toInt := by
        have := c2
        rw [(hC op ho).2.2] at this
        simp only [i32le] at this
        rw [countFrom_eq hk hk.scr hT hN] at this
        exact this
      refine ⟨h1, h2, ?_⟩
      rw [if_pos c2] at h
      refine ⟨fun z => ?_, fun z => ?_, fun z => ?_, fun z => ?_⟩
      · rcases z with z | z <;> subst z <;> simpa using h
      · rcases z with z | z <;> subst z <;> simpa using h
      · subst z; simpa using h
      · subst z
        simp only [if_neg (show ¬ (17 : Int32) = 15 by decide), if_neg (show ¬ (17 : Int32) = 16 by decide), if_neg (show ¬ (17 : Int32) = 18 by decide), if_neg (show ¬ (17 : Int32) = 19 by decide), if_neg (show ¬ (17 : Int32) = 20 by decide), if_true] at h
        by_cases d1 : f12_isName m (m 0 0 60) first = true
        · rw [if_pos d1] at h
          by_cases d2 : f12_opOf m (f12_nameAt m (m 0 0 60) first) = -1
          · rw [if_pos d2] at h
            by_cases d3 : f12_goodAt m (m 0 0 60) first = -1
            · rw [if_pos d3] at h
              by_cases d4 : f12_isParts m (m 0 0 60) (f12_following m (m 0 0 60) first) = true
              · exact ⟨d1, d2, d3, d4⟩
              · rw [if_neg d4] at h; simp at h
            · rw [if_neg d3] at h; simp at h
          · rw [if_neg d2] at h; simp at h
        · rw [if_neg d1] at h; simp at h
    · rw [if_neg c2] at h; cases h
theorem u3_s {m : Cm} {k j x : Int32} (h : ¬ k = j) : u3 m 0 0 j x 0 0 k = m 0 0 k := by
  show fI (m 0 0) j x k = _
  unfold fI; rw [if_neg h]
theorem Ix12_eq {m m' : Cm} (h : m' 2 = m 2 ∧ m' 3 = m 3) (s i : Int32) : Ix12 m' s i = Ix12 m s i := by unfold Ix12; rw [h.2]
theorem Nx12_eq {m m' : Cm} (h : m' 2 = m 2 ∧ m' 3 = m 3) (s i : Int32) : Nx12 m' s i = Nx12 m s i := by unfold Nx12; rw [Ix12_eq h]
theorem Tx12_eq {m m' : Cm} (h : m' 2 = m 2 ∧ m' 3 = m 3) (s : Int32) : Tx12 m' s = Tx12 m s := propext ⟨fun t => t.fr ⟨h.1.symm, h.2.symm⟩, fun t => t.fr h⟩
/-- a list that is laid on the pile anew has what it needs -/
theorem advP_new {m m' : Cm} {s op first d : Int32} (h2 : m' 2 = m 2 ∧ m' 3 = m 3) (e31 : m' 31 0 d = s) (e32 : m' 32 0 d = op) (e33 : m' 33 0 d = 0) (e34 : m' 34 0 d = -1) (e35 : m' 35 0 d = first) (ht : (m' 0 0 49).toInt ≤ 97) (hT : Tx12 m s) (hF : 9 ≤ op.toInt ∧ op.toInt ≤ 20 → Ix12 m s first) (h12 : op = 12 ∨ op = 17 ∨ 18 ≤ op.toInt ∧ op.toInt ≤ 20 → Ix12 m s (f12_following m s first)) (h17 : op = 17 → CN12 m s (f12_nextAt m s (f12_following m s first + 1)) ≤ 3) (hg : op = 20 → ¬ f12_goodAt m s (f12_following m s first) = -1) (hg2 : op = 18 ∨ op = 19 → ¬ f12_goodAt m s first = -1) : AdvP m' d := by
  have hz : ¬ (0 : Int32) = 1 := by decide
  have hn1 : ∀ i : Int32, Ix12 m s i → ¬ i = -1 := fun i hi z => by rw [z] at hi; exact absurd hi.1 (by decide)
  unfold AdvP AdvQ
  rw [e31, e32, e33, e34, e35]
  simp only [following_fr h2, goodAt_fr h2, nextAt_fr h2, CN12_fr h2, Ix12_eq h2, Nx12_eq h2, Tx12_eq h2]
  refine ⟨hT, fun _ h => absurd h hz, fun h => ⟨hF ⟨h.1, by omega⟩, fun h' => hn1 _ (h12 (Or.inl h'))⟩, fun h => ⟨hF ⟨by omega, by omega⟩, Or.inl rfl⟩, fun h => ⟨fun _ => hF ⟨by omega, by omega⟩, fun h' => absurd trivial h', by omega⟩, fun h => ⟨hF ⟨by omega, by omega⟩, fun h' => ⟨h12 (Or.inr (Or.inl h')), h17 h'⟩⟩, fun h => ⟨hF ⟨by omega, by omega⟩, h12 (Or.inr (Or.inr h)), hg, fun h' => hg2 ?_⟩, fun _ h => absurd trivial h, fun _ => ⟨fun _ h => absurd trivial h, ht⟩, fun _ h => absurd trivial h⟩
  by_cases c : op = 18
  · exact Or.inl c
  · refine Or.inr ?_
    simp only [i32eq, t32_18, t32_19, t32_20] at *; omega
theorem advP_45 {m : Cm} {d x : Int32} (h : AdvP m d) : AdvP (u3 m 0 0 45 x) d := by
  have e : ∀ g : Nat, ¬ g = 0 → (u3 m 0 0 45 x) g = m g := fun g hg => u3_ne _ _ _ hg
  have e49 : (u3 m 0 0 45 x) 0 0 49 = m 0 0 49 := u3_s (by decide)
  have h2 : (u3 m 0 0 45 x) 2 = m 2 ∧ (u3 m 0 0 45 x) 3 = m 3 := ⟨e 2 (by decide), e 3 (by decide)⟩
  unfold AdvP AdvQ at h ⊢
  simp only [following_fr h2, goodAt_fr h2, nextAt_fr h2, CN12_fr h2, Ix12_eq h2, Nx12_eq h2, Tx12_eq h2, e 31 (by decide), e 32 (by decide), e 33 (by decide), e 34 (by decide), e 35 (by decide), e 41 (by decide), e 42 (by decide), e49]
  exact h
theorem push12_2 (m : Cm) (op first : Int32) : push12 m op first 2 = m 2 ∧ push12 m op first 3 = m 3 := by
  unfold push12
  constructor <;> rw [u3_ne _ _ _ (by decide), u3_ne _ _ _ (by decide), u3_ne _ _ _ (by decide), u3_ne _ _ _ (by decide), u3_ne _ _ _ (by decide), u3_ne _ _ _ (by decide)]
theorem push12_0 (m : Cm) (op first : Int32) : push12 m op first 0 = m 0 := by
  unfold push12
  rw [u3_ne _ _ _ (by decide), u3_ne _ _ _ (by decide), u3_ne _ _ _ (by decide), u3_ne _ _ _ (by decide), u3_ne _ _ _ (by decide), u3_ne _ _ _ (by decide)]
theorem isParts_lp80 {m : Cm} {s : Int32} {x9 : Int32 × Bool × Int32} {K : Bool → Bool} : ∀ (k : Nat) (x : Int32 × Bool), f12_isParts_lp80 m s x9 K k x = true → ∃ y, K y = true ∧ (y = true → x.2 = true) := by
  intro k
  induction k with
  | zero => intro x h; exact absurd (show (false : Bool) = true from h) (by decide)
  | succ k ih =>
    intro x h
    rw [f12_isParts_lp80_s] at h
    by_cases c1 : x.1 = x9.1
    · rw [if_pos c1] at h; exact ⟨_, h, id⟩
    · rw [if_neg c1] at h
      by_cases c2 : x.2 = true
      · rw [if_pos c2] at h
        simp only [bnd, jn] at h
        split at h
        · obtain ⟨y, hy, _⟩ := ih _ h; exact ⟨y, hy, fun _ => c2⟩
        · obtain ⟨y, hy, _⟩ := ih _ h; exact ⟨y, hy, fun _ => c2⟩
      · rw [if_neg c2] at h; exact ⟨_, h, id⟩
theorem isParts_lp38_f (m : Cm) (s a : Int32) (k : Nat) (n c : Int32) : f12_isParts_lp38 m s a k (n, false, c) = false := by
  cases k with
  | zero => rfl
  | succ k =>
    rw [f12_isParts_lp38_s]
    split
    · rfl
    · rfl
theorem isParts_lp38 {m : Cm} {s a : Int32} (hk : Ok12 m) (hs : vp_in s 8) (hT : Tx12 m s) : ∀ (k : Nat) (n c : Int32) (b : Bool), Nx12 m s n → 0 ≤ c.toInt → c.toInt ≤ 3 → f12_isParts_lp38 m s a k (n, b, c) = true → b = true ∧ c.toInt + (CN12 m s n : Int) ≤ 3 := by
  intro k
  induction k with
  | zero => intro n c b _ _ _ h; exact absurd (show (false : Bool) = true from h) (by decide)
  | succ k ih =>
    intro n c b hN h0 h3 h
    cases b with
    | false => rw [isParts_lp38_f] at h; exact absurd h (by decide)
    | true =>
      rw [f12_isParts_lp38_s] at h
      by_cases c1 : n = -1
      · refine ⟨rfl, ?_⟩
        rw [c1, CN12_none]; omega
      · have hI := hN.resolve_left c1
        have hc := CN12_s hk hs hT hI
        simp only [bnd, jn] at h
        rw [if_neg c1, if_pos trivial] at h
        refine ⟨rfl, ?_⟩
        have fin : ∀ (v : Bool), f12_isParts_lp80 m s (n, true, c) (fun y30 => f12_isParts_lp38 m s a k (f12_following m s n, y30, c + 1)) 123 (f12_nextAt m s (a + 1), v) = true → v = true ∧ f12_isParts_lp38 m s a k (f12_following m s n, true, c + 1) = true := by
          intro v hv
          obtain ⟨y, hy, hb⟩ := isParts_lp80 _ _ hv
          cases y with
          | false => rw [isParts_lp38_f] at hy; exact absurd hy (by decide)
          | true => exact ⟨hb rfl, hy⟩
        by_cases c3 : f12_isName m s n = true
        · rw [if_pos c3] at h
          by_cases c4 : 3 ≤ c
          · rw [if_pos c4] at h; exact absurd (fin _ h).1 (by decide)
          · rw [if_neg c4] at h
            simp only [i32le, t32_3] at c4
            have e1 : (c + 1).toInt = c.toInt + 1 := inc_t h0 (by omega)
            have := (ih _ _ _ (following_n hk hs hT hI) (by omega) (by omega) (fin _ h).2).2
            omega
        · rw [if_neg c3] at h; exact absurd (fin _ h).1 (by decide)
/-- a list that is an inner list of names has up to three -/
theorem isParts_cn {m : Cm} {s a : Int32} (hk : Ok12 m) (hs : vp_in s 8) (hT : Tx12 m s) (hI : Ix12 m s a) (h : f12_isParts m s a = true) : CN12 m s (f12_nextAt m s (a + 1)) ≤ 3 := by
  have hN : Nx12 m s (f12_nextAt m s (a + 1)) := by
    have h1 := hI.1; have h2 := hI.2; have h3 := (hk.len _ hs).2
    exact nextAt_n hk hs (by rw [inc_t h1 (by omega)]; omega) (by rw [inc_t h1 (by omega)]; omega)
  unfold f12_isParts at h
  simp only [bnd, jn] at h
  by_cases c : f12_signAt m s a = 40
  · rw [if_pos c] at h
    simp only [if_true] at h
    have := (isParts_lp38 hk hs hT _ _ _ _ hN (by decide) (by decide) h).2
    rw [t32_0] at this
    have e : (0 : Int) + (CN12 m s (f12_nextAt m s (a + 1)) : Int) ≤ 3 := this
    omega
  · rw [if_neg c] at h
    simp only [Bool.false_eq_true, if_false] at h
    exact absurd ((isParts_lp38_f m s a 123 (-1) 0).symm.trans h) (by decide)
theorem lst12_2 {j : Int32} (h : j = 12 ∨ j = 17 ∨ 18 ≤ j.toInt ∧ j.toInt ≤ 20) : 2 ≤ (lst12 j).toInt := by
  have hj : vp_in j 26 := by
    rw [vp_in_iff]
    rcases h with h | h | h
    · subst h; decide
    · subst h; decide
    · omega
  refine in26 (P := fun j => (j = 12 ∨ j = 17 ∨ 18 ≤ j.toInt ∧ j.toInt ≤ 20) → 2 ≤ (lst12 j).toInt) ?_ hj h
  decide +kernel
theorem advP_push {m : Cm} {op fn first : Int32} (hk : Ok12 m) (hC : Ct12 m) (hT : Tx12 m (m 0 0 60)) (hN : Nx12 m (m 0 0 60) first) (ho : vp_in op 26) (h : f12_isFormed m op fn first = true) (ht : (m 0 0 49).toInt ≤ 97) : AdvP (push12 m op first) (m 0 0 45) := by
  obtain ⟨h1, h2, h3, h4, h5, h6⟩ := isFormed_t hk hC hT hN ho h
  have hF : 9 ≤ op.toInt ∧ op.toInt ≤ 20 → Ix12 m (m 0 0 60) first := fun z => CN12_pos hN (by
    have := lst12_1 ho (by intro z'; subst z'; simp only [t32_24] at z; omega) (by intro z'; subst z'; simp only [t32_25] at z; omega)
    omega)
  have hS : op = 12 ∨ op = 17 ∨ 18 ≤ op.toInt ∧ op.toInt ≤ 20 → Ix12 m (m 0 0 60) (f12_following m (m 0 0 60) first) := fun z => CN12_2 hk hk.scr hT hN (by have := lst12_2 z; omega)
  exact advP_new (push12_2 m op first) (push12_31 m op first) (push12_32 m op first) (push12_33 m op first) (push12_34 m op first) (push12_35 m op first) (by rw [push12_0]; exact ht) hT hF hS (fun z => isParts_cn hk hk.scr hT (hS (Or.inr (Or.inl z))) (h6 z).2.2.2) h5 h4
theorem advP_keep {m : Cm} {fn first d : Int32} (hp : Ok12 (push12 m 26 first)) (hT : Tx12 m (m 0 0 60)) (hf : vp_in fn 8) (ht : (m 0 0 49).toInt ≤ 97) : AdvP (f12_keep (push12 m 26 first) d fn) (m 0 0 45) := by
  have kg : ∀ g : Nat, (¬ g = 42 ∧ ¬ g = 43) ∧ ¬ g = 44 ∧ ¬ g = 45 → f12_keep (push12 m 26 first) d fn g = push12 m 26 first g := fun g h => keep_g hp d fn hf h.1.1 h.1.2 h.2.1 h.2.2
  have e2 := push12_2 m 26 first
  refine advP_new (m := m) (s := m 0 0 60) (op := 26) (first := first) ⟨by rw [kg 2 (by decide)]; exact e2.1, by rw [kg 3 (by decide)]; exact e2.2⟩ (by rw [kg 31 (by decide)]; exact push12_31 _ _ _) (by rw [kg 32 (by decide)]; exact push12_32 _ _ _) (by rw [kg 33 (by decide)]; exact push12_33 _ _ _) (by rw [kg 34 (by decide)]; exact push12_34 _ _ _) (by rw [kg 35 (by decide)]; exact push12_35 _ _ _) (by rw [kg 0 (by decide), push12_0]; exact ht) hT ?_ ?_ ?_ ?_ ?_ <;> (intro z; exact absurd z (by decide))
def f12_open (m : Cm) : Cm := bnd (f12_nextAt m (m 0 0 60) ((m 0 0 61) + 1)) (fun (r1 : Int32) => bnd (f12_isName m (m 0 0 60) r1) (fun (r2 : Bool) => if r2 = true then bnd (f12_nameAt m (m 0 0 60) r1) (fun (r4 : Int32) => bnd (f12_opOf m r4) (fun (r5 : Int32) => jn (fun (v6 : Int32) => jn (fun (v11 : Int32) => bnd (f12_following m (m 0 0 60) r1) (fun (r14 : Int32) => if v11 = (-1) then bnd (u3 m 0 0 63 3) (fun (m40 : Cm) => m40) else bnd (f12_isFormed m v11 v6 r14) (fun (r16 : Bool) => if r16 = true then bnd (u3 m 31 0 (m 0 0 45) (m 0 0 60)) (fun (m18 : Cm) => bnd (u3 m18 32 0 (m 0 0 45) v11) (fun (m20 : Cm) => bnd (u3 m20 33 0 (m 0 0 45) 0) (fun (m22 : Cm) => bnd (u3 m22 35 0 (m 0 0 45) r14) (fun (m24 : Cm) => bnd (u3 m24 34 0 (m 0 0 45) (-1)) (fun (m26 : Cm) => bnd (u3 m26 37 0 (m 0 0 45) 0) (fun (m28 : Cm) => jn (fun (v30 : Cm) => bnd (u3 v30 0 0 45 ((v30 0 0 45) + 1)) (fun (m35 : Cm) => bnd (f12_advance m35 (((v30 0 0 45) + 1) - 1)) (fun (r37 : Cm) => r37))) (fun K31 => if v11 = 26 then bnd (f12_keep m28 (m 0 0 45) v6) (fun (r33 : Cm) => K31 r33) else K31 m28))))))) else bnd (u3 m 0 0 63 4) (fun (m38 : Cm) => m38)))) (fun K12 => if v6 = (-1) then K12 r5 else K12 26)) (fun K7 => if r5 = (-1) then bnd (f12_nameAt m (m 0 0 60) r1) (fun (r9 : Int32) => bnd (f12_functionOf m r9) (fun (r10 : Int32) => K7 r10)) else K7 (-1)))) else bnd (u3 m 0 0 63 4) (fun (m42 : Cm) => m42)))
