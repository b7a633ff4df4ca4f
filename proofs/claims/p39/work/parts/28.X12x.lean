theorem i32_nle {a b : Int32} (h : ¬ b ≤ a) : a < b := by simp only [i32le, i32lt] at *; omega
theorem bnd_c {α β : Type} {a b : α} {f g : α → β} (h : a = b) (k : ∀ x, f x = g x) : bnd a f = bnd b g := by subst h; exact k a
theorem jn_c {α β : Type} {f f' : α → β} {g : (α → β) → β} (k : ∀ x, f x = f' x) : jn f g = jn f' g := by rw [funext k]
theorem fn_inc {x : Int32} {b : Bool} (h0 : 0 ≤ x.toInt) (h8 : x.toInt ≤ 8) (h : b = true → x.toInt ≤ 7) : 0 ≤ (x + b2i b).toInt ∧ (x + b2i b).toInt ≤ 8 := by
  cases b with
  | true => have := h rfl; show 0 ≤ (x + 1).toInt ∧ (x + 1).toInt ≤ 8; rw [inc_t h0 (by omega)]; omega
  | false => show 0 ≤ (x + 0).toInt ∧ (x + 0).toInt ≤ 8; rw [Int32.add_zero]; exact ⟨h0, h8⟩
theorem nextAt_fr {m m' : Cm} (h : m' 2 = m 2 ∧ m' 3 = m 3) (s i : Int32) : f12_nextAt m' s i = f12_nextAt m s i := by
  have key : ∀ (K : Int32 → Int32) (k : Nat) (x : Int32), f12_nextAt_lp2 m' s K k x = f12_nextAt_lp2 m s K k x := by
    intro K k
    induction k with
    | zero => intro x; rfl
    | succ k ih => intro x; rw [f12_nextAt_lp2_s, f12_nextAt_lp2_s, signAt_fr h]; simp only [bnd, ih]
  unfold f12_nextAt
  simp only [jn, bnd, key, signAt_fr h]
theorem endOf_fr {m m' : Cm} (h : m' 2 = m 2 ∧ m' 3 = m 3) (s i : Int32) : f12_endOf m' s i = f12_endOf m s i := by
  have key : ∀ (k : Nat) (x : Bool × Int32 × Int32), f12_endOf_lp8 m' s k x = f12_endOf_lp8 m s k x := by
    intro k
    induction k with
    | zero => intro x; rfl
    | succ k ih =>
      intro x
      rw [f12_endOf_lp8_s, f12_endOf_lp8_s]
      by_cases c : x.1 = true
      · rw [if_pos c, if_pos c]
        exact bnd_c (signAt_fr h _ _) fun r4 => jn_c fun v5 => bnd_c rfl fun v9 => bnd_c rfl fun v10 => bnd_c (signAt_fr h _ _) fun r11 => bnd_c rfl fun r12 => jn_c fun v13 => jn_c fun v18 => ih _
      · rw [if_neg c, if_neg c]
  unfold f12_endOf
  exact key _ _
theorem following_fr {m m' : Cm} (h : m' 2 = m 2 ∧ m' 3 = m 3) (s i : Int32) : f12_following m' s i = f12_following m s i := by
  unfold f12_following
  simp only [bnd, endOf_fr h, nextAt_fr h]
theorem countFrom_fr {m m' : Cm} (h : m' 2 = m 2 ∧ m' 3 = m 3) (s i : Int32) : f12_countFrom m' s i = f12_countFrom m s i := by
  have key : ∀ (k : Nat) (x : Int32 × Int32), f12_countFrom_lp5 m' s k x = f12_countFrom_lp5 m s k x := by
    intro k
    induction k with
    | zero => intro x; rfl
    | succ k ih => intro x; rw [f12_countFrom_lp5_s, f12_countFrom_lp5_s]; simp only [bnd, ih, following_fr h]
  unfold f12_countFrom
  exact key _ _
theorem isName_fr {m m' : Cm} (h : m' 2 = m 2 ∧ m' 3 = m 3) (s i : Int32) : f12_isName m' s i = f12_isName m s i := by
  unfold f12_isName
  simp only [bnd, signAt_fr h]
theorem nameAt_fr {m m' : Cm} (h : m' 2 = m 2 ∧ m' 3 = m 3) (s i : Int32) : f12_nameAt m' s i = f12_nameAt m s i := by
  have key : ∀ (k : Nat) (x : Int32 × Int32), f12_nameAt_lp5 m' s k x = f12_nameAt_lp5 m s k x := by
    intro k
    induction k with
    | zero => intro x; rfl
    | succ k ih => intro x; rw [f12_nameAt_lp5_s, f12_nameAt_lp5_s]; simp only [bnd, ih, signAt_fr h]
  unfold f12_nameAt
  exact key _ _
theorem numberAt_fr {m m' : Cm} (h : m' 2 = m 2 ∧ m' 3 = m 3) (s i : Int32) : f12_numberAt m' s i = f12_numberAt m s i := by
  have key : ∀ (K : Int32 → Int32) (k : Nat) (x : Int32 × Int32), f12_numberAt_lp34 m' s K k x = f12_numberAt_lp34 m s K k x := by
    intro K k
    induction k with
    | zero => intro x; rfl
    | succ k ih => intro x; rw [f12_numberAt_lp34_s, f12_numberAt_lp34_s]; simp only [bnd, ih, signAt_fr h]
  unfold f12_numberAt
  simp only [jn, bnd, key, signAt_fr h]
theorem goodAt_fr {m m' : Cm} (h : m' 2 = m 2 ∧ m' 3 = m 3) (s i : Int32) : f12_goodAt m' s i = f12_goodAt m s i := by
  unfold f12_goodAt
  simp only [bnd, jn, isName_fr h, nameAt_fr h]
theorem faultOf_fr {m m' : Cm} (h : m' 2 = m 2 ∧ m' 3 = m 3) (s : Int32) : f12_faultOf m' s = f12_faultOf m s := by
  have key : ∀ (K : Int32 × Int32 → Int32) (k : Nat) (x : Int32 × Int32 × Int32), f12_faultOf_lp7 m' s K k x = f12_faultOf_lp7 m s K k x := by
    intro K k
    induction k with
    | zero => intro x; rfl
    | succ k ih => intro x; rw [f12_faultOf_lp7_s, f12_faultOf_lp7_s]; simp only [bnd, jn, ih, signAt_fr h, h.2]
  unfold f12_faultOf
  simp only [jn, bnd, key, h.2]
/-- how many expressions there are from one on -/
def cn12 (m : Cm) (s : Int32) : Nat → Int32 → Nat
  | 0, _ => 0
  | k + 1, i => if i = -1 then 0 else cn12 m s k (f12_following m s i) + 1
def CN12 (m : Cm) (s i : Int32) : Nat := cn12 m s 123 i
theorem cn12_fuel {m : Cm} {s : Int32} (hk : Ok12 m) (hs : vp_in s 8) (hT : Tx12 m s) : ∀ (k k' : Nat) (i : Int32), Nx12 m s i → mu12 i < k → mu12 i < k' → cn12 m s k i = cn12 m s k' i := by
  intro k
  induction k with
  | zero => intro k' i _ h; omega
  | succ k ih =>
    intro k' i hN h h'
    cases k' with
    | zero => omega
    | succ k' =>
      unfold cn12
      by_cases c : i = -1
      · rw [if_pos c, if_pos c]
      · rw [if_neg c, if_neg c]
        have hI := hN.resolve_left c
        have := mu12_lt hk hs hT hI
        rw [ih k' _ (following_n hk hs hT hI) (by omega) (by omega)]
theorem CN12_none (m : Cm) (s : Int32) : CN12 m s (-1) = 0 := by
  show cn12 m s (122 + 1) (-1) = 0
  rw [cn12, if_pos rfl]
theorem CN12_s {m : Cm} {s i : Int32} (hk : Ok12 m) (hs : vp_in s 8) (hT : Tx12 m s) (hI : Ix12 m s i) : CN12 m s i = CN12 m s (f12_following m s i) + 1 := by
  have hi : ¬ i = -1 := by intro z; rw [z] at hI; exact absurd hI.1 (by decide)
  have h1 := mu12_lt hk hs hT hI
  have h2 := mu12_le (m := m) (s := s) (Or.inr hI)
  show cn12 m s (122 + 1) i = _
  rw [cn12, if_neg hi, cn12_fuel hk hs hT 122 123 _ (following_n hk hs hT hI) (by omega) (by omega)]
  rfl
theorem cn12_mu {m : Cm} {s : Int32} (hk : Ok12 m) (hs : vp_in s 8) (hT : Tx12 m s) : ∀ (k : Nat) (i : Int32), Nx12 m s i → cn12 m s k i ≤ mu12 i := by
  intro k
  induction k with
  | zero => intro i _; exact Nat.zero_le _
  | succ k ih =>
    intro i hN
    unfold cn12
    by_cases c : i = -1
    · rw [if_pos c]; exact Nat.zero_le _
    · rw [if_neg c]
      have hI := hN.resolve_left c
      have := mu12_lt hk hs hT hI
      have := ih _ (following_n hk hs hT hI)
      omega
theorem CN12_lt {m : Cm} {s i : Int32} (hk : Ok12 m) (hs : vp_in s 8) (hT : Tx12 m s) (hN : Nx12 m s i) : CN12 m s i < 123 := by
  have := cn12_mu hk hs hT 123 i hN
  have := mu12_le hN
  unfold CN12; omega
theorem countFrom_eq {m : Cm} {s i : Int32} (hk : Ok12 m) (hs : vp_in s 8) (hT : Tx12 m s) (hN : Nx12 m s i) : (f12_countFrom m s i).toInt = (CN12 m s i : Int) := by
  have key : ∀ (k : Nat) (x : Int32 × Int32), Nx12 m s x.1 → mu12 x.1 < k → 0 ≤ x.2.toInt → x.2.toInt + (CN12 m s x.1 : Int) ≤ 1000 → (f12_countFrom_lp5 m s k x).toInt = x.2.toInt + (CN12 m s x.1 : Int) := by
    intro k
    induction k with
    | zero => intro x _ h; omega
    | succ k ih =>
      intro x hN hk' h0 h1
      rw [f12_countFrom_lp5_s]
      by_cases c : x.1 = -1
      · rw [if_pos c, c, CN12_none]; simp
      · rw [if_neg c]
        have hI := hN.resolve_left c
        have hm := mu12_lt hk hs hT hI
        have hc := CN12_s hk hs hT hI
        simp only [bnd]
        have e1 : (x.2 + 1).toInt = x.2.toInt + 1 := inc_t h0 (by omega)
        rw [ih (f12_following m s x.1, x.2 + 1) (following_n hk hs hT hI) (by show mu12 (f12_following m s x.1) < k; omega) (by show 0 ≤ (x.2 + 1).toInt; omega) (by show (x.2 + 1).toInt + (CN12 m s (f12_following m s x.1) : Int) ≤ 1000; omega)]
        dsimp only
        omega
  have := CN12_lt hk hs hT hN
  unfold f12_countFrom
  rw [key 123 (i, 0) hN (mu12_le hN) (by show 0 ≤ (0 : Int32).toInt; decide) (by show (0 : Int32).toInt + (CN12 m s i : Int) ≤ 1000; rw [t32_0]; show (0 : Int) + (CN12 m s i : Int) ≤ 1000; omega), t32_0]
  show (0 : Int) + (CN12 m s i : Int) = _
  omega
theorem cn12_fr {m m' : Cm} (h : m' 2 = m 2 ∧ m' 3 = m 3) (s : Int32) : ∀ (k : Nat) (i : Int32), cn12 m' s k i = cn12 m s k i := by
  intro k
  induction k with
  | zero => intro i; rfl
  | succ k ih => intro i; unfold cn12; rw [following_fr h, ih]
theorem CN12_fr {m m' : Cm} (h : m' 2 = m 2 ∧ m' 3 = m 3) (s i : Int32) : CN12 m' s i = CN12 m s i := cn12_fr h s 123 i
theorem bind_31 (m : Cm) (a b : Int32) : f12_bind m a b 31 = m 31 := by
  unfold f12_bind; simp only [bnd]; rw [u3_ne _ _ _ (by decide), u3_ne _ _ _ (by decide), u3_ne _ _ _ (by decide)]
theorem bind_34 (m : Cm) (a b : Int32) : f12_bind m a b 34 = m 34 := by
  unfold f12_bind; simp only [bnd]; rw [u3_ne _ _ _ (by decide), u3_ne _ _ _ (by decide), u3_ne _ _ _ (by decide)]
theorem bind_42 (m : Cm) (a b : Int32) : f12_bind m a b 42 = m 42 := by
  unfold f12_bind; simp only [bnd]; rw [u3_ne _ _ _ (by decide), u3_ne _ _ _ (by decide), u3_ne _ _ _ (by decide)]
theorem bind_49 (m : Cm) (a b : Int32) : f12_bind m a b 0 0 49 = m 0 0 49 + 1 := rfl
theorem okT_f12_valueNext {m0 m : Cm} (h : OkT m0 m) (a b : Int32) (ha : vp_in a 32) : OkT m0 (f12_valueNext m a b) := by
  unfold f12_valueNext
  refine bnd_I (P := OkT m0) (fun m1 e1 => bnd_I (P := OkT m0) (fun m2 e2 => bnd_I (P := OkT m0) (fun m3 e3 => bnd_I (P := OkT m0) (fun m4 e4 => ?_))))
  rw [e4, e3, e2, e1]
  exact okT_put0 (okT_s60 (okT_put0 (okT_putA h (by decide)) (by decide)) (h.1.pS _ ha)) (by decide)
theorem okT_f12_makeOrder {m0 m : Cm} (h : OkT m0 m) (a b c d : Int32) (ha : vp_in a 4) (hb : vp_in b 8) (ho : (m 0 0 11).toInt < 60) : OkT m0 (f12_makeOrder m a b c d).2 := by
  have h0 := h.1.o0
  unfold f12_makeOrder
  simp only [bnd]
  refine okT_s11 (okT_putA (okT_putA (okT_putA (okT_g14 (okT_g13 h ha) hb) (by decide)) (by decide)) (by decide)) ?_
  rw [inc_t h0 (by omega)]; omega
def f12_goThrough (m : Cm) (p1 : Int32) : Cm := jn (fun (v1 : Bool) => if (m 33 0 p1) = 0 then bnd (u3 m 40 0 p1 (m 0 0 49)) (fun (m18 : Cm) => jn (fun (v20 : Int32) => bnd (f12_valueNext m18 p1 v20) (fun (r24 : Cm) => r24)) (fun K21 => if v1 = true then bnd (f12_following m18 (m 31 0 p1) (m 35 0 p1)) (fun (r23 : Int32) => K21 r23) else K21 (m 35 0 p1))) else jn (fun (v5 : Cm) => bnd (f12_following v5 (v5 31 0 p1) (v5 34 0 p1)) (fun (r12 : Int32) => if r12 = (-1) then bnd (u3 v5 0 0 49 (v5 40 0 p1)) (fun (m15 : Cm) => bnd (f12_finish m15 (v5 0 0 62)) (fun (r17 : Cm) => r17)) else bnd (f12_valueNext v5 p1 r12) (fun (r14 : Cm) => r14))) (fun K6 => if v1 = true then if (m 33 0 p1) = 1 then bnd (f12_nameAt m (m 31 0 p1) (m 35 0 p1)) (fun (r9 : Int32) => bnd (f12_bind m r9 (m 0 0 62)) (fun (r10 : Cm) => K6 r10)) else K6 m else K6 m)) (fun K2 => if (m 32 0 p1) = 15 then K2 true else K2 false)
def f12_manage (m : Cm) (p1 : Int32) : Cm := bnd ((m 32 0 p1)) (fun (v1 : Int32) => bnd ((m 33 0 p1)) (fun (v2 : Int32) => if v1 = 24 then jn (fun (v4 : Int32) => bnd (f12_finish m v4) (fun (r7 : Cm) => r7)) (fun K5 => if v1 = 24 then K5 (m 6 0 (m 0 0 57)) else K5 (m 0 0 10)) else if v1 = 25 then jn (fun (v51 : Int32) => bnd (f12_finish m v51) (fun (r54 : Cm) => r54)) (fun K52 => if v1 = 24 then K52 (m 6 0 (m 0 0 57)) else K52 (m 0 0 10)) else if v2 = 0 then bnd (f12_valueNext m p1 (m 35 0 p1)) (fun (r50 : Cm) => r50) else if v1 = 23 then if 0 ≤ (m 0 0 62) then jn (fun (v43 : Int32) => bnd (f12_buyFuel m (m 0 0 57) v43) (fun (r46 : Int32 × Cm) => bnd (f12_finish r46.2 r46.1) (fun (r47 : Cm) => r47))) (fun K44 => if (m 5 0 (m 0 0 57)) ≤ (m 0 0 62) then K44 (m 5 0 (m 0 0 57)) else K44 (m 0 0 62)) else bnd (u3 m 0 0 63 6) (fun (m48 : Cm) => m48) else if 3 ≤ v2 then bnd (f12_in (m 36 0 p1) 1 100) (fun (r12 : Bool) => if r12 = true then bnd (f12_isScript (m 37 0 p1)) (fun (r16 : Bool) => if r16 = true then bnd (f12_in (m 0 0 62) 1 1000) (fun (r20 : Bool) => if r20 = true then jn (fun (v22 : Int32 × Cm) => bnd (f12_finish v22.2 v22.1) (fun (r27 : Cm) => r27)) (fun K23 => if (m 0 0 11) = 60 then K23 ((-1), m) else bnd (f12_makeOrder m (m 0 0 57) (m 37 0 p1) ((m 0 0 10) + (m 36 0 p1)) (m 0 0 62)) (fun (r25 : Int32 × Cm) => K23 (r25.1, r25.2))) else bnd (u3 m 0 0 63 6) (fun (m28 : Cm) => m28)) else bnd (u3 m 0 0 63 6) (fun (m18 : Cm) => m18)) else bnd (u3 m 0 0 63 6) (fun (m14 : Cm) => m14)) else jn (fun (v30 : Int32) => bnd (u3 m 36 0 p1 v30) (fun (m33 : Cm) => jn (fun (v35 : Int32) => bnd (u3 m33 37 0 p1 v35) (fun (m38 : Cm) => bnd (f12_following m38 (m 31 0 p1) (m 34 0 p1)) (fun (r40 : Int32) => bnd (f12_valueNext m38 p1 r40) (fun (r41 : Cm) => r41)))) (fun K36 => if v2 = 2 then K36 (m 0 0 62) else K36 (m 37 0 p1)))) (fun K31 => if v2 = 1 then K31 (m 0 0 62) else K31 (m 36 0 p1))))
def f12_define_lp82 (v1 : Int32) (v4 : Int32) (K12 : (Int32 × Cm) → Cm) : Nat → (Int32 × Int32 × Cm) → Cm
  | 0, x11 => x11.2.2
  | n13 + 1, x11 => if x11.1 = (-1) then K12 (x11.2.1, x11.2.2) else bnd (f12_nameAt x11.2.2 v1 x11.1) (fun (r15 : Int32) => bnd (u3 x11.2.2 54 0 ((3 * v4) + x11.2.1) r15) (fun (m16 : Cm) => bnd (x11.2.1 + 1) (fun (v18 : Int32) => bnd (f12_following m16 v1 x11.1) (fun (r19 : Int32) => f12_define_lp82 v1 v4 K12 n13 (r19, v18, m16)))))
theorem f12_define_lp82_s (v1 : Int32) (v4 : Int32) (K12 : (Int32 × Cm) → Cm) (n13 : Nat) (x11 : Int32 × Int32 × Cm) : f12_define_lp82 v1 v4 K12 (n13 + 1) x11 = if x11.1 = (-1) then K12 (x11.2.1, x11.2.2) else bnd (f12_nameAt x11.2.2 v1 x11.1) (fun (r15 : Int32) => bnd (u3 x11.2.2 54 0 ((3 * v4) + x11.2.1) r15) (fun (m16 : Cm) => bnd (x11.2.1 + 1) (fun (v18 : Int32) => bnd (f12_following m16 v1 x11.1) (fun (r19 : Int32) => f12_define_lp82 v1 v4 K12 n13 (r19, v18, m16))))) := rfl
def f12_define (m : Cm) (p1 : Int32) : Cm := bnd ((m 31 0 p1)) (fun (v1 : Int32) => bnd (f12_nameAt m v1 (m 35 0 p1)) (fun (r2 : Int32) => bnd (f12_functionOf m r2) (fun (r3 : Int32) => jn (fun (v4 : Int32) => if v4 = 8 then bnd (u3 m 0 0 63 2) (fun (m36 : Cm) => m36) else bnd (f12_following m v1 (m 35 0 p1)) (fun (r9 : Int32) => bnd (f12_nextAt m v1 (r9 + 1)) (fun (r10 : Int32) => jn (fun (y20 : Int32 × Cm) => bnd (u3 y20.2 52 0 v4 r2) (fun (m21 : Cm) => bnd (u3 m21 53 0 v4 y20.1) (fun (m23 : Cm) => bnd (u3 m23 55 0 v4 v1) (fun (m25 : Cm) => bnd (f12_following m25 v1 r9) (fun (r27 : Int32) => bnd (u3 m25 56 0 v4 r27) (fun (m28 : Cm) => jn (fun (v30 : Bool) => bnd (u3 m28 0 0 50 ((y20.2 0 0 50) + (b2i v30))) (fun (m33 : Cm) => bnd (f12_finish m33 0) (fun (r35 : Cm) => r35))) (fun K31 => if v4 = (y20.2 0 0 50) then K31 true else K31 false))))))) (fun K12 => f12_define_lp82 v1 v4 K12 123 (r10, 0, m))))) (fun K5 => if r3 = (-1) then K5 (m 0 0 50) else bnd (f12_functionOf m r2) (fun (r7 : Int32) => K5 r7)))))
def f12_tell (m : Cm) (p1 : Int32) : Cm := if (m 32 0 p1) = 17 then bnd (f12_define m p1) (fun (r13 : Cm) => r13) else if (m 33 0 p1) = 0 then bnd (f12_following m (m 31 0 p1) (m 35 0 p1)) (fun (r11 : Int32) => bnd (f12_valueNext m p1 r11) (fun (r12 : Cm) => r12)) else bnd (f12_nameAt m (m 31 0 p1) (m 35 0 p1)) (fun (r3 : Int32) => bnd (f12_bindingOf m r3) (fun (r4 : Int32) => if r4 = (-1) then bnd (u3 m 0 0 63 3) (fun (m9 : Cm) => m9) else bnd (u3 m 48 0 r4 (m 0 0 62)) (fun (m6 : Cm) => bnd (f12_finish m6 (m 0 0 62)) (fun (r8 : Cm) => r8))))
theorem mv_in {m : Cm} (hk : Ok12 m) (h : ¬ m 0 0 21 = 3000) : vp_in (m 0 0 21) 3000 := by
  have h0 := hk.m0; have h1 := hk.m1
  simp only [i32eq, t32_3000] at h
  rw [vp_in_iff]; omega
def f12_move (m : Cm) (p1 : Int32) (p2 : Int32) (p3 : Int32) (p4 : Int32) : Cm := bnd ((m 4 0 ((8 * p1) + p3))) (fun (v1 : Int32) => jn (fun (v2 : Int32) => if v2 ≤ 0 then jn (fun (v7 : Cm) => bnd (f12_finish v7 v2) (fun (r18 : Cm) => r18)) (fun K8 => if v2 ≤ 0 then K8 m else bnd (u3 m 4 0 ((8 * p1) + p3) ((m 4 0 ((8 * p1) + p3)) - v2)) (fun (m10 : Cm) => bnd (u3 m10 4 0 ((8 * p2) + p3) ((m10 4 0 ((8 * p2) + p3)) + v2)) (fun (m11 : Cm) => bnd (u3 m11 23 0 (m 0 0 21) p1) (fun (m12 : Cm) => bnd (u3 m12 24 0 (m 0 0 21) p2) (fun (m13 : Cm) => bnd (u3 m13 25 0 (m 0 0 21) p3) (fun (m14 : Cm) => bnd (u3 m14 26 0 (m 0 0 21) v2) (fun (m15 : Cm) => bnd (u3 m15 27 0 (m 0 0 21) (m 0 0 56)) (fun (m16 : Cm) => bnd (u3 m16 0 0 21 ((m 0 0 21) + 1)) (fun (m17 : Cm) => K8 m17))))))))) else if (m 0 0 21) = 3000 then bnd (u3 m 0 0 63 2) (fun (m32 : Cm) => m32) else jn (fun (v20 : Cm) => bnd (f12_finish v20 v2) (fun (r31 : Cm) => r31)) (fun K21 => if v2 ≤ 0 then K21 m else bnd (u3 m 4 0 ((8 * p1) + p3) ((m 4 0 ((8 * p1) + p3)) - v2)) (fun (m23 : Cm) => bnd (u3 m23 4 0 ((8 * p2) + p3) ((m23 4 0 ((8 * p2) + p3)) + v2)) (fun (m24 : Cm) => bnd (u3 m24 23 0 (m 0 0 21) p1) (fun (m25 : Cm) => bnd (u3 m25 24 0 (m 0 0 21) p2) (fun (m26 : Cm) => bnd (u3 m26 25 0 (m 0 0 21) p3) (fun (m27 : Cm) => bnd (u3 m27 26 0 (m 0 0 21) v2) (fun (m28 : Cm) => bnd (u3 m28 27 0 (m 0 0 21) (m 0 0 56)) (fun (m29 : Cm) => bnd (u3 m29 0 0 21 ((m 0 0 21) + 1)) (fun (m30 : Cm) => K21 m30)))))))))) (fun K3 => if p1 = p2 then K3 0 else if v1 ≤ p4 then K3 v1 else K3 p4))
def f12_trade (m : Cm) (p1 : Int32) : Cm := bnd ((m 32 0 p1)) (fun (v1 : Int32) => bnd ((m 31 0 p1)) (fun (v2 : Int32) => bnd (f12_following m v2 (m 35 0 p1)) (fun (r3 : Int32) => if (m 33 0 p1) = 0 then jn (fun (v53 : Int32) => bnd (f12_valueNext m p1 v53) (fun (r56 : Cm) => r56)) (fun K54 => if v1 = 20 then K54 (m 35 0 p1) else K54 r3) else if v1 = 20 then if (m 33 0 p1) = 1 then bnd (u3 m 36 0 p1 (m 0 0 62)) (fun (m49 : Cm) => bnd (f12_following m49 v2 r3) (fun (r51 : Int32) => bnd (f12_valueNext m49 p1 r51) (fun (r52 : Cm) => r52))) else jn (fun (v28 : Int32) => bnd (f12_goodAt m v2 v28) (fun (r31 : Int32) => jn (fun (v32 : Int32) => jn (fun (v35 : Int32) => if (m 0 0 62) < 0 then bnd (u3 m 0 0 63 6) (fun (m40 : Cm) => m40) else if v1 = 20 then bnd (f12_isCompany v35) (fun (r44 : Bool) => if r44 = true then bnd (f12_move m v32 v35 r31 (m 0 0 62)) (fun (r46 : Cm) => r46) else bnd (u3 m 0 0 63 6) (fun (m47 : Cm) => m47)) else bnd (f12_move m v32 v35 r31 (m 0 0 62)) (fun (r43 : Cm) => r43)) (fun K36 => if v1 = 18 then K36 (m 0 0 57) else if v1 = 19 then K36 4 else K36 (m 36 0 p1))) (fun K33 => if v1 = 18 then K33 4 else K33 (m 0 0 57)))) (fun K29 => if v1 = 20 then K29 r3 else K29 (m 35 0 p1)) else jn (fun (v6 : Int32) => bnd (f12_goodAt m v2 v6) (fun (r9 : Int32) => jn (fun (v10 : Int32) => jn (fun (v13 : Int32) => if (m 0 0 62) < 0 then bnd (u3 m 0 0 63 6) (fun (m18 : Cm) => m18) else if v1 = 20 then bnd (f12_isCompany v13) (fun (r22 : Bool) => if r22 = true then bnd (f12_move m v10 v13 r9 (m 0 0 62)) (fun (r24 : Cm) => r24) else bnd (u3 m 0 0 63 6) (fun (m25 : Cm) => m25)) else bnd (f12_move m v10 v13 r9 (m 0 0 62)) (fun (r21 : Cm) => r21)) (fun K14 => if v1 = 18 then K14 (m 0 0 57) else if v1 = 19 then K14 4 else K14 (m 36 0 p1))) (fun K11 => if v1 = 18 then K11 4 else K11 (m 0 0 57)))) (fun K7 => if v1 = 20 then K7 r3 else K7 (m 35 0 p1)))))
def f12_apply_lp166 (p1 : Int32) (K31 : Cm → Cm) : Nat → (Int32 × Cm) → Cm
  | 0, x30 => x30.2
  | n32 + 1, x30 => if (x30.2 42 0 p1) ≤ x30.1 then K31 x30.2 else jn (fun (v34 : Int32) => bnd (f12_bind x30.2 (x30.2 43 0 ((3 * p1) + x30.1)) v34) (fun (r38 : Cm) => bnd (x30.1 + 1) (fun (v40 : Int32) => f12_apply_lp166 p1 K31 n32 (v40, r38)))) (fun K35 => if x30.1 = 0 then K35 (x30.2 36 0 p1) else if x30.1 = 1 then K35 (x30.2 37 0 p1) else K35 (x30.2 38 0 p1))
theorem f12_apply_lp166_s (p1 : Int32) (K31 : Cm → Cm) (n32 : Nat) (x30 : Int32 × Cm) : f12_apply_lp166 p1 K31 (n32 + 1) x30 = if (x30.2 42 0 p1) ≤ x30.1 then K31 x30.2 else jn (fun (v34 : Int32) => bnd (f12_bind x30.2 (x30.2 43 0 ((3 * p1) + x30.1)) v34) (fun (r38 : Cm) => bnd (x30.1 + 1) (fun (v40 : Int32) => f12_apply_lp166 p1 K31 n32 (v40, r38)))) (fun K35 => if x30.1 = 0 then K35 (x30.2 36 0 p1) else if x30.1 = 1 then K35 (x30.2 37 0 p1) else K35 (x30.2 38 0 p1)) := rfl
def f12_apply (m : Cm) (p1 : Int32) : Cm := bnd ((m 33 0 p1)) (fun (v1 : Int32) => jn (fun (v2 : Int32) => bnd (u3 m 36 0 p1 v2) (fun (m5 : Cm) => jn (fun (v7 : Int32) => bnd (u3 m5 37 0 p1 v7) (fun (m10 : Cm) => jn (fun (v12 : Int32) => bnd (u3 m10 38 0 p1 v12) (fun (m15 : Cm) => if (m 42 0 p1) ≤ v1 then if v1 = (m 42 0 p1) then bnd (u3 m15 39 0 p1 (m 0 0 48)) (fun (m24 : Cm) => bnd (u3 m24 40 0 p1 (m 0 0 49)) (fun (m26 : Cm) => bnd (u3 m26 0 0 48 (m 0 0 49)) (fun (m28 : Cm) => jn (fun (y41 : Cm) => bnd (u3 y41 0 0 59 1) (fun (m42 : Cm) => bnd (u3 m42 0 0 60 (y41 44 0 p1)) (fun (m44 : Cm) => bnd (u3 m44 0 0 61 (y41 45 0 p1)) (fun (m46 : Cm) => m46)))) (fun K31 => f12_apply_lp166 p1 K31 5 (0, m28))))) else bnd (u3 m15 0 0 48 (m 39 0 p1)) (fun (m19 : Cm) => bnd (u3 m19 0 0 49 (m 40 0 p1)) (fun (m21 : Cm) => bnd (f12_finish m21 (m 0 0 62)) (fun (r23 : Cm) => r23))) else jn (fun (v48 : Int32) => bnd (f12_valueNext m15 p1 v48) (fun (r52 : Cm) => r52)) (fun K49 => if v1 = 0 then K49 (m 35 0 p1) else bnd (f12_following m15 (m 31 0 p1) (m 34 0 p1)) (fun (r51 : Int32) => K49 r51)))) (fun K13 => if v1 = 3 then K13 (m 0 0 62) else K13 (m 38 0 p1)))) (fun K8 => if v1 = 2 then K8 (m 0 0 62) else K8 (m 37 0 p1)))) (fun K3 => if v1 = 1 then K3 (m 0 0 62) else K3 (m 36 0 p1)))
def f12_runScript (m : Cm) (p1 : Int32) : Cm := if (m 33 0 p1) = 0 then bnd (f12_valueNext m p1 (m 35 0 p1)) (fun (r45 : Cm) => r45) else if (m 33 0 p1) = 1 then bnd (f12_isScript (m 0 0 62)) (fun (r16 : Bool) => if r16 = true then bnd (f12_faultOf m (m 0 0 62)) (fun (r20 : Int32) => if r20 = (-1) then bnd (u3 m 41 0 p1 (m 0 0 62)) (fun (m22 : Cm) => bnd (u3 m22 39 0 p1 (m 0 0 48)) (fun (m24 : Cm) => bnd (u3 m24 0 0 48 (m 0 0 49)) (fun (m26 : Cm) => bnd (f12_nextAt m26 (m 0 0 62) 0) (fun (r28 : Int32) => bnd (u3 m26 34 0 p1 r28) (fun (m29 : Cm) => bnd (u3 m29 0 0 62 0) (fun (m31 : Cm) => if (m29 34 0 p1) = (-1) then bnd (u3 m31 0 0 48 (m24 39 0 p1)) (fun (m40 : Cm) => bnd (f12_finish m40 0) (fun (r42 : Cm) => r42)) else bnd (u3 m31 0 0 59 1) (fun (m34 : Cm) => bnd (u3 m34 0 0 60 (m22 41 0 p1)) (fun (m36 : Cm) => bnd (u3 m36 0 0 61 (m29 34 0 p1)) (fun (m38 : Cm) => m38))))))))) else bnd (u3 m 0 0 63 6) (fun (m43 : Cm) => m43)) else bnd (u3 m 0 0 63 6) (fun (m18 : Cm) => m18)) else bnd (f12_following m (m 41 0 p1) (m 34 0 p1)) (fun (r3 : Int32) => bnd (u3 m 34 0 p1 r3) (fun (m4 : Cm) => if (m4 34 0 p1) = (-1) then bnd (u3 m4 0 0 48 (m 39 0 p1)) (fun (m13 : Cm) => bnd (f12_finish m13 (m 0 0 62)) (fun (r15 : Cm) => r15)) else bnd (u3 m4 0 0 59 1) (fun (m7 : Cm) => bnd (u3 m7 0 0 60 (m 41 0 p1)) (fun (m9 : Cm) => bnd (u3 m9 0 0 61 (m4 34 0 p1)) (fun (m11 : Cm) => m11)))))
