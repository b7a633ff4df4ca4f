theorem i32_nle {a b : Int32} (h : ¬ b ≤ a) : a < b := by simp only [i32le, i32lt] at *; omega
theorem bnd_c {α β : Type} {a b : α} {f g : α → β} (h : a = b) (k : ∀ x, f x = g x) : bnd a f = bnd b g := by subst h; exact k a
theorem jn_c {α β : Type} {f f' : α → β} {g : (α → β) → β} (k : ∀ x, f x = f' x) : jn f g = jn f' g := by rw [funext k]
theorem fn_inc {x : Int32} {b : Bool} (h0 : 0 ≤ x.toInt) (h8 : x.toInt ≤ 8) (h : b = true → x.toInt ≤ 7) : 0 ≤ (x + b2i b).toInt ∧ (x + b2i b).toInt ≤ 8 := by
  cases b with
  | true => have := h rfl; show 0 ≤ (x + 1).toInt ∧ (x + 1).toInt ≤ 8; rw [inc_t h0 (by omega)]; omega
  | false => show 0 ≤ (x + 0).toInt ∧ (x + 0).toInt ≤ 8; rw [Int32.add_zero]; exact ⟨h0, h8⟩
theorem nextAt_fr {m m' : Cm} (h : m' 2 = m 2 ∧ m' 3 = m 3) (s i : Int32) : f12_nextAt m' s i = f12_nextAt m s i := by
  have key : ∀ (K : Int32 → Int32) (k : Nat) (x : Int32), f12_nextAt_lp2 m' s K k x = f12_nextAt_lp2 m s K k x := by
    intro K k
    induction k with
    | zero => intro x; rfl
    | succ k ih => intro x; rw [f12_nextAt_lp2_s, f12_nextAt_lp2_s, signAt_fr h]; simp only [bnd, ih]
  unfold f12_nextAt
  simp only [jn, bnd, key, signAt_fr h]
theorem endOf_fr {m m' : Cm} (h : m' 2 = m 2 ∧ m' 3 = m 3) (s i : Int32) : f12_endOf m' s i = f12_endOf m s i := by
  have key : ∀ (k : Nat) (x : Bool × Int32 × Int32), f12_endOf_lp8 m' s k x = f12_endOf_lp8 m s k x := by
    intro k
    induction k with
    | zero => intro x; rfl
    | succ k ih =>
      intro x
      rw [f12_endOf_lp8_s, f12_endOf_lp8_s]
      by_cases c : x.1 = true
      · rw [if_pos c, if_pos c]
        exact bnd_c (signAt_fr h _ _) fun r4 => jn_c fun v5 => bnd_c rfl fun v9 => bnd_c rfl fun v10 => bnd_c (signAt_fr h _ _) fun r11 => bnd_c rfl fun r12 => jn_c fun v13 => jn_c fun v18 => ih _
      · rw [if_neg c, if_neg c]
  unfold f12_endOf
  exact key _ _
theorem following_fr {m m' : Cm} (h : m' 2 = m 2 ∧ m' 3 = m 3) (s i : Int32) : f12_following m' s i = f12_following m s i := by
  unfold f12_following
  simp only [bnd, endOf_fr h, nextAt_fr h]
theorem countFrom_fr {m m' : Cm} (h : m' 2 = m 2 ∧ m' 3 = m 3) (s i : Int32) : f12_countFrom m' s i = f12_countFrom m s i := by
  have key : ∀ (k : Nat) (x : Int32 × Int32), f12_countFrom_lp5 m' s k x = f12_countFrom_lp5 m s k x := by
    intro k
    induction k with
    | zero => intro x; rfl
    | succ k ih => intro x; rw [f12_countFrom_lp5_s, f12_countFrom_lp5_s]; simp only [bnd, ih, following_fr h]
  unfold f12_countFrom
  exact key _ _
theorem isName_fr {m m' : Cm} (h : m' 2 = m 2 ∧ m' 3 = m 3) (s i : Int32) : f12_isName m' s i = f12_isName m s i := by
  unfold f12_isName
  simp only [bnd, signAt_fr h]
theorem nameAt_fr {m m' : Cm} (h : m' 2 = m 2 ∧ m' 3 = m 3) (s i : Int32) : f12_nameAt m' s i = f12_nameAt m s i := by
  have key : ∀ (k : Nat) (x : Int32 × Int32), f12_nameAt_lp5 m' s k x = f12_nameAt_lp5 m s k x := by
    intro k
    induction k with
    | zero => intro x; rfl
    | succ k ih => intro x; rw [f12_nameAt_lp5_s, f12_nameAt_lp5_s]; simp only [bnd, ih, signAt_fr h]
  unfold f12_nameAt
  exact key _ _
theorem numberAt_fr {m m' : Cm} (h : m' 2 = m 2 ∧ m' 3 = m 3) (s i : Int32) : f12_numberAt m' s i = f12_numberAt m s i := by
  have key : ∀ (K : Int32 → Int32) (k : Nat) (x : Int32 × Int32), f12_numberAt_lp34 m' s K k x = f12_numberAt_lp34 m s K k x := by
    intro K k
    induction k with
    | zero => intro x; rfl
    | succ k ih => intro x; rw [f12_numberAt_lp34_s, f12_numberAt_lp34_s]; simp only [bnd, ih, signAt_fr h]
  unfold f12_numberAt
  simp only [jn, bnd, key, signAt_fr h]
theorem goodAt_fr {m m' : Cm} (h : m' 2 = m 2 ∧ m' 3 = m 3) (s i : Int32) : f12_goodAt m' s i = f12_goodAt m s i := by
  unfold f12_goodAt
  simp only [bnd, jn, isName_fr h, nameAt_fr h]
theorem faultOf_fr {m m' : Cm} (h : m' 2 = m 2 ∧ m' 3 = m 3) (s : Int32) : f12_faultOf m' s = f12_faultOf m s := by
  have key : ∀ (K : Int32 × Int32 → Int32) (k : Nat) (x : Int32 × Int32 × Int32), f12_faultOf_lp7 m' s K k x = f12_faultOf_lp7 m s K k x := by
    intro K k
    induction k with
    | zero => intro x; rfl
    | succ k ih => intro x; rw [f12_faultOf_lp7_s, f12_faultOf_lp7_s]; simp only [bnd, jn, ih, signAt_fr h, h.2]
  unfold f12_faultOf
  simp only [jn, bnd, key, h.2]
/-- how many expressions there are from one on -/
def cn12 (m : Cm) (s : Int32) : Nat → Int32 → Nat
  | 0, _ => 0
  | k + 1, i => if i = -1 then 0 else cn12 m s k (f12_following m s i) + 1
def CN12 (m : Cm) (s i : Int32) : Nat := cn12 m s 123 i
theorem cn12_fuel {m : Cm} {s : Int32} (hk : Ok12 m) (hs : vp_in s 8) (hT : Tx12 m s) : ∀ (k k' : Nat) (i : Int32), Nx12 m s i → mu12 i < k → mu12 i < k' → cn12 m s k i = cn12 m s k' i := by
  intro k
  induction k with
  | zero => intro k' i _ h; omega
  | succ k ih =>
    intro k' i hN h h'
    cases k' with
    | zero => omega
    | succ k' =>
      unfold cn12
      by_cases c : i = -1
      · rw [if_pos c, if_pos c]
      · rw [if_neg c, if_neg c]
        have hI := hN.resolve_left c
        have := mu12_lt hk hs hT hI
        rw [ih k' _ (following_n hk hs hT hI) (by omega) (by omega)]
theorem CN12_none (m : Cm) (s : Int32) : CN12 m s (-1) = 0 := by
  show cn12 m s (122 + 1) (-1) = 0
  rw [cn12, if_pos rfl]
theorem CN12_s {m : Cm} {s i : Int32} (hk : Ok12 m) (hs : vp_in s 8) (hT : Tx12 m s) (hI : Ix12 m s i) : CN12 m s i = CN12 m s (f12_following m s i) + 1 := by
  have hi : ¬ i = -1 := by intro z; rw [z] at hI; exact absurd hI.1 (by decide)
  have h1 := mu12_lt hk hs hT hI
  have h2 := mu12_le (m := m) (s := s) (Or.inr hI)
  show cn12 m s (122 + 1) i = _
  rw [cn12, if_neg hi, cn12_fuel hk hs hT 122 123 _ (following_n hk hs hT hI) (by omega) (by omega)]
  rfl
theorem cn12_mu {m : Cm} {s : Int32} (hk : Ok12 m) (hs : vp_in s 8) (hT : Tx12 m s) : ∀ (k : Nat) (i : Int32), Nx12 m s i → cn12 m s k i ≤ mu12 i := by
  intro k
  induction k with
  | zero => intro i _; exact Nat.zero_le _
  | succ k ih =>
    intro i hN
    unfold cn12
    by_cases c : i = -1
    · rw [if_pos c]; exact Nat.zero_le _
    · rw [if_neg c]
      have hI := hN.resolve_left c
      have := mu12_lt hk hs hT hI
      have := ih _ (following_n hk hs hT hI)
      omega
theorem CN12_lt {m : Cm} {s i : Int32} (hk : Ok12 m) (hs : vp_in s 8) (hT : Tx12 m s) (hN : Nx12 m s i) : CN12 m s i < 123 := by
  have := cn12_mu hk hs hT 123 i hN
  have := mu12_le hN
  unfold CN12; omega
theorem countFrom_eq {m : Cm} {s i : Int32} (hk : Ok12 m) (hs : vp_in s 8) (hT : Tx12 m s) (hN : Nx12 m s i) : (f12_countFrom m s i).toInt = (CN12 m s i : Int) := by
  have key : ∀ (k : Nat) (x : Int32 × Int32), Nx12 m s x.1 → mu12 x.1 < k → 0 ≤ x.2.toInt → x.2.toInt + (CN12 m s x.1 : Int) ≤ 1000 → (f12_countFrom_lp5 m s k x).toInt = x.2.toInt + (CN12 m s x.1 : Int) := by
    intro k
    induction k with
    | zero => intro x _ h; omega
    | succ k ih =>
      intro x hN hk' h0 h1
      rw [f12_countFrom_lp5_s]
      by_cases c : x.1 = -1
      · rw [if_pos c, c, CN12_none]; simp
      · rw [if_neg c]
        have hI := hN.resolve_left c
        have hm := mu12_lt hk hs hT hI
        have hc := CN12_s hk hs hT hI
        simp only [bnd]
        have e1 : (x.2 + 1).toInt = x.2.toInt + 1 := inc_t h0 (by omega)
        rw [ih (f12_following m s x.1, x.2 + 1) (following_n hk hs hT hI) (by show mu12 (f12_following m s x.1) < k; omega) (by show 0 ≤ (x.2 + 1).toInt; omega) (by show (x.2 + 1).toInt + (CN12 m s (f12_following m s x.1) : Int) ≤ 1000; omega)]
        dsimp only
        omega
  have := CN12_lt hk hs hT hN
  unfold f12_countFrom
  rw [key 123 (i, 0) hN (mu12_le hN) (by show 0 ≤ (0 : Int32).toInt; decide) (by show (0 : Int32).toInt + (CN12 m s i : Int) ≤ 1000; rw [t32_0]; show (0 : Int) + (CN12 m s i : Int) ≤ 1000; omega), t32_0]
  show (0 : Int) + (CN12 m s i : Int) = _
  omega
theorem cn12_fr {m m' : Cm} (h : m' 2 = m 2 ∧ m' 3 = m 3) (s : Int32) : ∀ (k : Nat) (i : Int32), cn12 m' s k i = cn12 m s k i := by
  intro k
  induction k with
  | zero => intro i; rfl
  | succ k ih => intro i; unfold cn12; rw [following_fr h, ih]
theorem CN12_fr {m m' : Cm} (h : m' 2 = m 2 ∧ m' 3 = m 3) (s i : Int32) : CN12 m' s i = CN12 m s i := cn12_fr h s 123 i
theorem bind_31 (m : Cm) (a b : Int32) : f12_bind m a b 31 = m 31 := by
  unfold f12_bind; simp only [bnd]; rw [u3_ne _ _ _ (by decide), u3_ne _ _ _ (by decide), u3_ne _ _ _ (by decide)]
theorem bind_34 (m : Cm) (a b : Int32) : f12_bind m a b 34 = m 34 := by
  unfold f12_bind; simp only [bnd]; rw [u3_ne _ _ _ (by decide), u3_ne _ _ _ (by decide), u3_ne _ _ _ (by decide)]
theorem bind_42 (m : Cm) (a b : Int32) : f12_bind m a b 42 = m 42 := by
  unfold f12_bind; simp only [bnd]; rw [u3_ne _ _ _ (by decide), u3_ne _ _ _ (by decide), u3_ne _ _ _ (by decide)]
theorem bind_49 (m : Cm) (a b : Int32) : f12_bind m a b 0 0 49 = m 0 0 49 + 1 := rfl
theorem okT_f12_valueNext {m0 m : Cm} (h : OkT m0 m) (a b : Int32) (ha : vp_in a 32) : OkT m0 (f12_valueNext m a b) := by
  unfold f12_valueNext
  refine bnd_I (P := OkT m0) (fun m1 e1 => bnd_I (P := OkT m0) (fun m2 e2 => bnd_I (P := OkT m0) (fun m3 e3 => bnd_I (P := OkT m0) (fun m4 e4 => ?_))))
  rw [e4, e3, e2, e1]
  exact okT_put0 (okT_s60 (okT_put0 (okT_putA h (by decide)) (by decide)) (h.1.pS _ ha)) (by decide)
theorem okT_f12_makeOrder {m0 m : Cm} (h : OkT m0 m) (a b c d : Int32) (ha : vp_in a 4) (hb : vp_in b 8) (ho : (m 0 0 11).toInt < 60) : OkT m0 (f12_makeOrder m a b c d).2 := by
  have h0 := h.1.o0
  unfold f12_makeOrder
  simp only [bnd]
  refine okT_s11 (okT_putA (okT_putA (okT_putA (okT_g14 (okT_g13 h ha) hb) (by decide)) (by decide)) (by decide)) ?_
  rw [inc_t h0 (by omega)]; omega
def f12_goThrough (m : Cm) (p1 : Int32) : Cm := jn (fun (v1 : Bool) => if (m 33 0 p1) = 0 then bnd (u3 m 40 0 p1 (m 0 0 49)) (fun (m18 : Cm) => jn (fun (v20 : Int32) => bnd (f12_valueNext m18 p1 v20) (fun (r24 : Cm) => r24)) (fun K21 => if v1 = true then bnd (f12_following m18 (m 31 0 p1) (m 35 0 p1)) (fun (r23 : Int32) => K21 r23) else K21 (m 35 0 p1))) else jn (fun (v5 : Cm) => bnd (f12_following v5 (v5 31 0 p1) (v5 34 0 p1)) (fun (r12 : Int32) => if r12 = (-1) then bnd (u3 v5 0 0 49 (v5 40 0 p1)) (fun (m15 : Cm) => bnd (f12_finish m15 (v5 0 0 62)) (fun (r17 : Cm) => r17)) else bnd (f12_valueNext v5 p1 r12) (fun (r14 : Cm) => r14))) (fun K6 => if v1 = true then if (m 33 0 p1) = 1 then bnd (f12_nameAt m (m 31 0 p1) (m 35 0 p1)) (fun (r9 : Int32) => bnd (f12_bind m r9 (m 0 0 62)) (fun (r10 : Cm) => K6 r10)) else K6 m else K6 m)) (fun K2 => if (m 32 0 p1) = 15 then K2 true else K2 false)
set_option maxHeartbeats 4000000 in
set_option maxRecDepth 100000 in
theorem mc_X12_goThrough (l : Launch) (D : va_G) (ta : wTa) (ad : wAd) (M : Wm) (p1 : Int32) (hok : Ok12 (M 12)) (hp1 : vp_in p1 32) (hT : Tx12 (M 12) ((M 12) 31 0 p1)) (hF : ((M 12) 32 0 p1) = 15 → Ix12 (M 12) ((M 12) 31 0 p1) ((M 12) 35 0 p1)) (hn : ¬ ((M 12) 33 0 p1) = 0 → Ix12 (M 12) ((M 12) 31 0 p1) ((M 12) 34 0 p1)) (ht : ((M 12) 0 0 49).toInt < 100) : MC l D ta ad yX12_goThrough cX12_goThrough 4 none 4 [.ref (ad 12 0 0), .int p1] M (fvc M 12 (f12_goThrough (M 12) p1)) := by
  refine MC.of (fvc M 12) (f12_goThrough (M 12) p1) rfl (by decide) (Nat.le_of_ble_eq_true rfl) (fun p e s m args below meth c cx hr => ?_)
  unfold f12_goThrough
  refine mw_sub (lv' := [(0, .ref (ad 12 0 0)), (1, .int p1)]) [0, 1] rfl ?_
  refine mw_eqM (uW_self M 12) ?_
  have ok0 : OkT (M 12) (M 12) := ⟨hok, rfl, rfl⟩
  refine mw_aload_n cx (q := 1) 0 rfl rfl dX12_goThrough_0 rfl ?_
  refine mw_get cx (q := 4) (v := .ref (ad 12 32 0)) gf_X12_101 rfl rfl vi_12_0 dX12_goThrough_1 rfl ?_
  refine mw_iload_n cx (q := 5) 1 rfl rfl dX12_goThrough_4 rfl ?_
  refine mw_iald cx (q := 6) (w := ((M 12) 32 0 p1)) rfl (fun _ => rfl) vi_12_32 hp1 dX12_goThrough_5 rfl ?_
  refine mw_bipush cx (q := 8) (v := 15) dX12_goThrough_6 rfl rfl ?_
  refine mw_jnP (P := fun (v1 : Bool) => (v1 = true → ((M 12) 32 0 p1) = 15)) (Mj := fun (v1 : Bool) => (uW M 12 (M 12))) (pj := 16) (lj := fun (v1 : Bool) => [(0, .ref (ad 12 0 0)), (1, .int p1)]) (sj := fun (v1 : Bool) => [.int (b2i v1)]) (fun v1 jv1 => ?_) (fun K2 hK2 => ?_)
  · have jv1_0 := jv1
    refine mw_istore_n cx (q := 17) (lv' := [(2, .int (b2i v1)), (0, .ref (ad 12 0 0)), (1, .int p1)]) rfl rfl (by decide) dX12_goThrough_16 rfl ?_
    refine mw_aload_n cx (q := 18) 1 rfl rfl dX12_goThrough_17 rfl ?_
    refine mw_get cx (q := 21) (v := .ref (ad 12 33 0)) gf_X12_104 rfl rfl vi_12_0 dX12_goThrough_18 rfl ?_
    refine mw_iload_n cx (q := 22) 2 rfl rfl dX12_goThrough_21 rfl ?_
    refine mw_iald cx (q := 23) (w := ((M 12) 33 0 p1)) rfl (fun _ => rfl) vi_12_33 hp1 dX12_goThrough_22 rfl ?_
    refine mw_if_ne cx (tgt := 71) (q := 26) dX12_goThrough_23 (by decide) rfl (fun h4 => ?_) (fun h4 => ?_)
    · refine mw_iload_n cx (q := 72) 0 rfl rfl dX12_goThrough_71 rfl ?_
      refine mw_jnP (P := fun (v5 : Cm) => (v5 31 = (M 12) 31) ∧ (v5 34 = (M 12) 34) ∧ (OkT (M 12) v5)) (Mj := fun (v5 : Cm) => (uW M 12 v5)) (pj := 109) (lj := fun (v5 : Cm) => [(0, .ref (ad 12 0 0)), (1, .int p1)]) (sj := fun (v5 : Cm) => []) (fun v5 jv5 => ?_) (fun K6 hK6 => ?_)
      · obtain ⟨jv5_0, jv5_1, jv5_2⟩ := jv5
        refine mw_aload_n cx (q := 110) 0 rfl rfl dX12_goThrough_109 rfl ?_
        refine mw_aload_n cx (q := 111) 0 rfl rfl dX12_goThrough_110 rfl ?_
        refine mw_get cx (q := 114) (v := .ref (ad 12 31 0)) gf_X12_98 rfl rfl vi_12_0 dX12_goThrough_111 rfl ?_
        refine mw_iload_n cx (q := 115) 1 rfl rfl dX12_goThrough_114 rfl ?_
        refine mw_iald cx (q := 116) (w := (v5 31 0 p1)) rfl (fun _ => rfl) vi_12_31 hp1 dX12_goThrough_115 rfl ?_
        refine mw_aload_n cx (q := 117) 0 rfl rfl dX12_goThrough_116 rfl ?_
        refine mw_get cx (q := 120) (v := .ref (ad 12 34 0)) gf_X12_107 rfl rfl vi_12_0 dX12_goThrough_117 rfl ?_
        refine mw_iload_n cx (q := 121) 1 rfl rfl dX12_goThrough_120 rfl ?_
        refine mw_iald cx (q := 122) (w := (v5 34 0 p1)) rfl (fun _ => rfl) vi_12_34 hp1 dX12_goThrough_121 rfl ?_
        refine mw_bnd (fun r12 er12 => ?_)
        refine mw_callV cx (q := 125) (d := 3) (As := [.int (v5 31 0 p1), .int (v5 34 0 p1)]) (z := fip (uW M 12 v5) r12) (st := []) (st1 := [.int r12]) (M' := (uW M 12 v5)) (by rw [er12]; exact mc_X12_following l D ta ad (uW M 12 v5) (v5 31 0 p1) (v5 34 0 p1) (jv5_2.1) (jv5_2.1.pS _ hp1) (by rw [jv5_0]; exact Tx12.fr jv5_2.2 hT) (by rw [jv5_0, jv5_1]; exact Ix12.fr jv5_2.2 (hn h4))) cv_X12_201 rfl rfl rfl vi_12_0 ⟨Nat.le_of_ble_eq_true rfl, Nat.le_of_ble_eq_true rfl⟩ ⟨Nat.le_refl _, Nat.le_refl _⟩ (by simp [Value.category]) rfl rfl rfl dX12_goThrough_122 rfl ?_
        have qr120 : Nx12 v5 (v5 31 0 p1) r12 := (by rw [er12]; exact following_n (jv5_2.1) (jv5_2.1.pS _ hp1) (by rw [jv5_0]; exact Tx12.fr jv5_2.2 hT) (by rw [jv5_0, jv5_1]; exact Ix12.fr jv5_2.2 (hn h4)))
        refine mw_istore_n cx (q := 126) (lv' := [(3, .int r12), (0, .ref (ad 12 0 0)), (1, .int p1)]) rfl rfl (by decide) dX12_goThrough_125 rfl ?_
        refine mw_iload_n cx (q := 127) 0 rfl rfl dX12_goThrough_126 rfl ?_
        refine mw_iconst cx (q := 128) (v := (-1)) dX12_goThrough_127 rfl rfl ?_
        refine mw_icmp_ne cx (tgt := 152) (q := 131) dX12_goThrough_128 (by decide) rfl (fun h13 => ?_) (fun h13 => ?_)
        · refine mw_aload_n cx (q := 153) 1 rfl rfl dX12_goThrough_152 rfl ?_
          refine mw_iload_n cx (q := 154) 2 rfl rfl dX12_goThrough_153 rfl ?_
          refine mw_iload_n cx (q := 155) 0 rfl rfl dX12_goThrough_154 rfl ?_
          refine mw_bnd (fun r14 er14 => ?_)
          refine mw_callV cx (q := 158) (d := 0) (As := [.int p1, .int r12]) (z := fvc (uW M 12 v5) 12 r14) (st := []) (st1 := []) (M' := uW M 12 r14) (by rw [er14]; exact mc_X12_valueNext l D ta ad (uW M 12 v5) p1 r12 hp1) cv_X12_323 rfl rfl rfl vi_12_0 ⟨Nat.le_of_ble_eq_true rfl, Nat.le_of_ble_eq_true rfl⟩ ⟨Nat.le_refl _, Nat.le_refl _⟩ (by simp [Value.category]) rfl rfl (by exact uW_uW _ _ _ _) dX12_goThrough_155 rfl ?_
          exact mw_vret cx hr rfl dX12_goThrough_158
        · refine mw_aload_n cx (q := 132) 1 rfl rfl dX12_goThrough_131 rfl ?_
          refine mw_aload_n cx (q := 133) 1 rfl rfl dX12_goThrough_132 rfl ?_
          refine mw_get cx (q := 136) (v := .ref (ad 12 40 0)) gf_X12_125 rfl rfl vi_12_0 dX12_goThrough_133 rfl ?_
          refine mw_iload_n cx (q := 137) 2 rfl rfl dX12_goThrough_136 rfl ?_
          refine mw_iald cx (q := 138) (w := (v5 40 0 p1)) rfl (fun _ => rfl) vi_12_40 hp1 dX12_goThrough_137 rfl ?_
          refine mw_putC cx (q := 141) 49 gf_X12_251 pf_X12_49 (int_fit _) rfl (Nat.le_of_ble_eq_true rfl) rfl vi_12_0 (by decide) dX12_goThrough_138 rfl (fun m15 em15 => ?_)
          have ok16 : OkT (M 12) m15 := (by rw [em15]; exact okT_s49 jv5_2 ⟨(jv5_2.1.pt _ hp1).1, (jv5_2.1.pt _ hp1).2⟩)
          refine mw_aload_n cx (q := 142) 1 rfl rfl dX12_goThrough_141 rfl ?_
          refine mw_aload_n cx (q := 143) 1 rfl rfl dX12_goThrough_142 rfl ?_
          refine mw_get cx (q := 146) (v := .int (v5 0 0 62)) gf_X12_232 rfl (by rw [em15]; rfl) vi_12_0 dX12_goThrough_143 rfl ?_
          refine mw_bnd (fun r17 er17 => ?_)
          refine mw_callV cx (q := 149) (d := 0) (As := [.int (v5 0 0 62)]) (z := fvc (uW M 12 m15) 12 r17) (st := []) (st1 := []) (M' := uW M 12 r17) (by rw [er17]; exact mc_X12_finish l D ta ad (uW M 12 m15) (v5 0 0 62)) cv_X12_330 rfl rfl rfl vi_12_0 ⟨Nat.le_of_ble_eq_true rfl, Nat.le_of_ble_eq_true rfl⟩ ⟨Nat.le_refl _, Nat.le_refl _⟩ (by simp [Value.category]) rfl rfl (by exact uW_uW _ _ _ _) dX12_goThrough_146 rfl ?_
          refine mw_goto cx (tgt := 158) dX12_goThrough_149 (by decide) ?_
          exact mw_vret cx hr rfl dX12_goThrough_158
      · refine mw_ifb_eq cx (tgt := 109) (q := 75) dX12_goThrough_72 (by decide) rfl (fun h7 => ?_) (fun h7 => ?_)
        · refine mw_sub [1, 2] rfl ?_
          exact hK6 (M 12) ⟨rfl, rfl, ok0⟩
        · refine mw_aload_n cx (q := 76) 1 rfl rfl dX12_goThrough_75 rfl ?_
          refine mw_get cx (q := 79) (v := .ref (ad 12 33 0)) gf_X12_104 rfl rfl vi_12_0 dX12_goThrough_76 rfl ?_
          refine mw_iload_n cx (q := 80) 2 rfl rfl dX12_goThrough_79 rfl ?_
          refine mw_iald cx (q := 81) (w := ((M 12) 33 0 p1)) rfl (fun _ => rfl) vi_12_33 hp1 dX12_goThrough_80 rfl ?_
          refine mw_iconst cx (q := 82) (v := 1) dX12_goThrough_81 rfl rfl ?_
          refine mw_icmp_ne cx (tgt := 109) (q := 85) dX12_goThrough_82 (by decide) rfl (fun h8 => ?_) (fun h8 => ?_)
          · refine mw_sub [1, 2] rfl ?_
            exact hK6 (M 12) ⟨rfl, rfl, ok0⟩
          · refine mw_aload_n cx (q := 86) 1 rfl rfl dX12_goThrough_85 rfl ?_
            refine mw_aload_n cx (q := 87) 1 rfl rfl dX12_goThrough_86 rfl ?_
            refine mw_aload_n cx (q := 88) 1 rfl rfl dX12_goThrough_87 rfl ?_
            refine mw_get cx (q := 91) (v := .ref (ad 12 31 0)) gf_X12_98 rfl rfl vi_12_0 dX12_goThrough_88 rfl ?_
            refine mw_iload_n cx (q := 92) 2 rfl rfl dX12_goThrough_91 rfl ?_
            refine mw_iald cx (q := 93) (w := ((M 12) 31 0 p1)) rfl (fun _ => rfl) vi_12_31 hp1 dX12_goThrough_92 rfl ?_
            refine mw_aload_n cx (q := 94) 1 rfl rfl dX12_goThrough_93 rfl ?_
            refine mw_get cx (q := 97) (v := .ref (ad 12 35 0)) gf_X12_110 rfl rfl vi_12_0 dX12_goThrough_94 rfl ?_
            refine mw_iload_n cx (q := 98) 2 rfl rfl dX12_goThrough_97 rfl ?_
            refine mw_iald cx (q := 99) (w := ((M 12) 35 0 p1)) rfl (fun _ => rfl) vi_12_35 hp1 dX12_goThrough_98 rfl ?_
            refine mw_bnd (fun r9 er9 => ?_)
            refine mw_callV cx (q := 102) (d := 2) (As := [.int ((M 12) 31 0 p1), .int ((M 12) 35 0 p1)]) (z := fip (uW M 12 (M 12)) r9) (st := [.ref (ad 12 0 0)]) (st1 := [.int r9, .ref (ad 12 0 0)]) (M' := (uW M 12 (M 12))) (by rw [er9]; exact mc_X12_nameAt l D ta ad (uW M 12 (M 12)) ((M 12) 31 0 p1) ((M 12) 35 0 p1) (ok0.1) (ok0.1.pS _ hp1) (hF (jv1_0 h7))) cv_X12_211 rfl rfl rfl vi_12_0 ⟨Nat.le_of_ble_eq_true rfl, Nat.le_of_ble_eq_true rfl⟩ ⟨Nat.le_refl _, Nat.le_refl _⟩ (by simp [Value.category]) rfl rfl rfl dX12_goThrough_99 rfl ?_
            refine mw_aload_n cx (q := 103) 1 rfl rfl dX12_goThrough_102 rfl ?_
            refine mw_get cx (q := 106) (v := .int ((M 12) 0 0 62)) gf_X12_232 rfl rfl vi_12_0 dX12_goThrough_103 rfl ?_
            refine mw_bnd (fun r10 er10 => ?_)
            refine mw_callV cx (q := 109) (d := 0) (As := [.int r9, .int ((M 12) 0 0 62)]) (z := fvc (uW M 12 (M 12)) 12 r10) (st := []) (st1 := []) (M' := uW M 12 r10) (by rw [er10]; exact mc_X12_bind l D ta ad (uW M 12 (M 12)) r9 ((M 12) 0 0 62) (ok0.1) ht) cv_X12_333 rfl rfl rfl vi_12_0 ⟨Nat.le_of_ble_eq_true rfl, Nat.le_of_ble_eq_true rfl⟩ ⟨Nat.le_refl _, Nat.le_refl _⟩ (by simp [Value.category]) rfl rfl (by exact uW_uW _ _ _ _) dX12_goThrough_106 rfl ?_
            have ok11 : OkT (M 12) r10 := (by rw [er10]; exact okT_f12_bind ok0 r9 ((M 12) 0 0 62) ht)
            have hb31 : r10 31 = (M 12) 31 := (by rw [er10]; exact bind_31 _ _ _)
            have hb34 : r10 34 = (M 12) 34 := (by rw [er10]; exact bind_34 _ _ _)
            refine mw_sub [1, 2] rfl ?_
            exact hK6 r10 ⟨hb31, hb34, ok11⟩
    · refine mw_aload_n cx (q := 27) 1 rfl rfl dX12_goThrough_26 rfl ?_
      refine mw_get cx (q := 30) (v := .ref (ad 12 40 0)) gf_X12_125 rfl rfl vi_12_0 dX12_goThrough_27 rfl ?_
      refine mw_iload_n cx (q := 31) 2 rfl rfl dX12_goThrough_30 rfl ?_
      refine mw_aload_n cx (q := 32) 1 rfl rfl dX12_goThrough_31 rfl ?_
      refine mw_get cx (q := 35) (v := .int ((M 12) 0 0 49)) gf_X12_251 rfl rfl vi_12_0 dX12_goThrough_32 rfl ?_
      refine mw_iastC cx (q := 36) (fun _ => rfl) (by decide) vi_12_40 hp1 (by decide) dX12_goThrough_35 rfl (fun m18 em18 => ?_)
      have ok19 : OkT (M 12) m18 := (by rw [em18]; exact okT_g40 ok0 ⟨hok.t0, hok.t1⟩)
      refine mw_aload_n cx (q := 37) 1 rfl rfl dX12_goThrough_36 rfl ?_
      refine mw_iload_n cx (q := 38) 2 rfl rfl dX12_goThrough_37 rfl ?_
      refine mw_iload_n cx (q := 39) 0 rfl rfl dX12_goThrough_38 rfl ?_
      refine mw_jn (Mj := fun (v20 : Int32) => (uW M 12 m18)) (pj := 67) (lj := fun (v20 : Int32) => []) (sj := fun (v20 : Int32) => [.int v20, .int p1, .ref (ad 12 0 0)]) (fun v20 => ?_) (fun K21 hK21 => ?_)
      · refine mw_bnd (fun r24 er24 => ?_)
        refine mw_callV cx (q := 70) (d := 0) (As := [.int p1, .int v20]) (z := fvc (uW M 12 m18) 12 r24) (st := []) (st1 := []) (M' := uW M 12 r24) (by rw [er24]; exact mc_X12_valueNext l D ta ad (uW M 12 m18) p1 v20 hp1) cv_X12_323 rfl rfl rfl vi_12_0 ⟨Nat.le_of_ble_eq_true rfl, Nat.le_of_ble_eq_true rfl⟩ ⟨Nat.le_refl _, Nat.le_refl _⟩ (by simp [Value.category]) rfl rfl (by exact uW_uW _ _ _ _) dX12_goThrough_67 rfl ?_
        exact mw_vret cx hr rfl dX12_goThrough_70
      · refine mw_ifb_eq cx (tgt := 61) (q := 42) dX12_goThrough_39 (by decide) rfl (fun h22 => ?_) (fun h22 => ?_)
        · refine mw_aload_n cx (q := 62) 1 rfl rfl dX12_goThrough_61 rfl ?_
          refine mw_get cx (q := 65) (v := .ref (ad 12 35 0)) gf_X12_110 rfl rfl vi_12_0 dX12_goThrough_62 rfl ?_
          refine mw_iload_n cx (q := 66) 2 rfl rfl dX12_goThrough_65 rfl ?_
          refine mw_iald cx (q := 67) (w := ((M 12) 35 0 p1)) (by rw [em18]; rfl) (fun _ => rfl) vi_12_35 hp1 dX12_goThrough_66 rfl ?_
          refine mw_sub [] rfl ?_
          exact hK21 ((M 12) 35 0 p1)
        · refine mw_aload_n cx (q := 43) 1 rfl rfl dX12_goThrough_42 rfl ?_
          refine mw_aload_n cx (q := 44) 1 rfl rfl dX12_goThrough_43 rfl ?_
          refine mw_get cx (q := 47) (v := .ref (ad 12 31 0)) gf_X12_98 rfl rfl vi_12_0 dX12_goThrough_44 rfl ?_
          refine mw_iload_n cx (q := 48) 2 rfl rfl dX12_goThrough_47 rfl ?_
          refine mw_iald cx (q := 49) (w := ((M 12) 31 0 p1)) (by rw [em18]; rfl) (fun _ => rfl) vi_12_31 hp1 dX12_goThrough_48 rfl ?_
          refine mw_aload_n cx (q := 50) 1 rfl rfl dX12_goThrough_49 rfl ?_
          refine mw_get cx (q := 53) (v := .ref (ad 12 35 0)) gf_X12_110 rfl rfl vi_12_0 dX12_goThrough_50 rfl ?_
          refine mw_iload_n cx (q := 54) 2 rfl rfl dX12_goThrough_53 rfl ?_
          refine mw_iald cx (q := 55) (w := ((M 12) 35 0 p1)) (by rw [em18]; rfl) (fun _ => rfl) vi_12_35 hp1 dX12_goThrough_54 rfl ?_
          refine mw_bnd (fun r23 er23 => ?_)
          refine mw_callV cx (q := 58) (d := 3) (As := [.int ((M 12) 31 0 p1), .int ((M 12) 35 0 p1)]) (z := fip (uW M 12 m18) r23) (st := [.int p1, .ref (ad 12 0 0)]) (st1 := [.int r23, .int p1, .ref (ad 12 0 0)]) (M' := (uW M 12 m18)) (by rw [er23]; exact mc_X12_following l D ta ad (uW M 12 m18) ((M 12) 31 0 p1) ((M 12) 35 0 p1) (ok19.1) (ok0.1.pS _ hp1) (Tx12.fr ok19.2 hT) (Ix12.fr ok19.2 (hF (jv1_0 h22)))) cv_X12_201 rfl rfl rfl vi_12_0 ⟨Nat.le_of_ble_eq_true rfl, Nat.le_of_ble_eq_true rfl⟩ ⟨Nat.le_refl _, Nat.le_refl _⟩ (by simp [Value.category]) rfl rfl rfl dX12_goThrough_55 rfl ?_
          have qr230 : Nx12 m18 ((M 12) 31 0 p1) r23 := (by rw [er23]; exact following_n (ok19.1) (ok0.1.pS _ hp1) (Tx12.fr ok19.2 hT) (Ix12.fr ok19.2 (hF (jv1_0 h22))))
          refine mw_goto cx (tgt := 67) dX12_goThrough_58 (by decide) ?_
          refine mw_sub [] rfl ?_
          exact hK21 r23
  · refine mw_icmp_ne cx (tgt := 15) (q := 11) dX12_goThrough_8 (by decide) rfl (fun h3 => ?_) (fun h3 => ?_)
    · refine mw_iconst cx (q := 16) (v := 0) dX12_goThrough_15 rfl rfl ?_
      exact hK2 false (by intro hz; first | exact absurd hz (by decide) | exact (by (try simp only [vp_in_iff, i32lt, i32le, i32eq, i32add, i32sub, i32mul, i32neg, t32_0, t32_15, t32_31, t32_32, t32_33, t32_34, t32_35] at hp1 hT hF hn ok0 h3 hok ⊢); omega))
    · refine mw_iconst cx (q := 12) (v := 1) dX12_goThrough_11 rfl rfl ?_
      refine mw_goto cx (tgt := 16) dX12_goThrough_12 (by decide) ?_
      exact hK2 true (by intro hz; first | exact absurd hz (by decide) | exact h3)
def f12_manage (m : Cm) (p1 : Int32) : Cm := bnd ((m 32 0 p1)) (fun (v1 : Int32) => bnd ((m 33 0 p1)) (fun (v2 : Int32) => if v1 = 24 then jn (fun (v4 : Int32) => bnd (f12_finish m v4) (fun (r7 : Cm) => r7)) (fun K5 => if v1 = 24 then K5 (m 6 0 (m 0 0 57)) else K5 (m 0 0 10)) else if v1 = 25 then jn (fun (v51 : Int32) => bnd (f12_finish m v51) (fun (r54 : Cm) => r54)) (fun K52 => if v1 = 24 then K52 (m 6 0 (m 0 0 57)) else K52 (m 0 0 10)) else if v2 = 0 then bnd (f12_valueNext m p1 (m 35 0 p1)) (fun (r50 : Cm) => r50) else if v1 = 23 then if 0 ≤ (m 0 0 62) then jn (fun (v43 : Int32) => bnd (f12_buyFuel m (m 0 0 57) v43) (fun (r46 : Int32 × Cm) => bnd (f12_finish r46.2 r46.1) (fun (r47 : Cm) => r47))) (fun K44 => if (m 5 0 (m 0 0 57)) ≤ (m 0 0 62) then K44 (m 5 0 (m 0 0 57)) else K44 (m 0 0 62)) else bnd (u3 m 0 0 63 6) (fun (m48 : Cm) => m48) else if 3 ≤ v2 then bnd (f12_in (m 36 0 p1) 1 100) (fun (r12 : Bool) => if r12 = true then bnd (f12_isScript (m 37 0 p1)) (fun (r16 : Bool) => if r16 = true then bnd (f12_in (m 0 0 62) 1 1000) (fun (r20 : Bool) => if r20 = true then jn (fun (v22 : Int32 × Cm) => bnd (f12_finish v22.2 v22.1) (fun (r27 : Cm) => r27)) (fun K23 => if (m 0 0 11) = 60 then K23 ((-1), m) else bnd (f12_makeOrder m (m 0 0 57) (m 37 0 p1) ((m 0 0 10) + (m 36 0 p1)) (m 0 0 62)) (fun (r25 : Int32 × Cm) => K23 (r25.1, r25.2))) else bnd (u3 m 0 0 63 6) (fun (m28 : Cm) => m28)) else bnd (u3 m 0 0 63 6) (fun (m18 : Cm) => m18)) else bnd (u3 m 0 0 63 6) (fun (m14 : Cm) => m14)) else jn (fun (v30 : Int32) => bnd (u3 m 36 0 p1 v30) (fun (m33 : Cm) => jn (fun (v35 : Int32) => bnd (u3 m33 37 0 p1 v35) (fun (m38 : Cm) => bnd (f12_following m38 (m 31 0 p1) (m 34 0 p1)) (fun (r40 : Int32) => bnd (f12_valueNext m38 p1 r40) (fun (r41 : Cm) => r41)))) (fun K36 => if v2 = 2 then K36 (m 0 0 62) else K36 (m 37 0 p1)))) (fun K31 => if v2 = 1 then K31 (m 0 0 62) else K31 (m 36 0 p1))))
set_option maxHeartbeats 4000000 in
set_option maxRecDepth 100000 in
theorem mc_X12_manage (l : Launch) (D : va_G) (ta : wTa) (ad : wAd) (M : Wm) (p1 : Int32) (hok : Ok12 (M 12)) (hp1 : vp_in p1 32) (hT : Tx12 (M 12) ((M 12) 31 0 p1)) (hn : ¬ ((M 12) 33 0 p1) = 0 → Ix12 (M 12) ((M 12) 31 0 p1) ((M 12) 34 0 p1)) : MC l D ta ad yX12_manage cX12_manage 4 none 4 [.ref (ad 12 0 0), .int p1] M (fvc M 12 (f12_manage (M 12) p1)) := by
  refine MC.of (fvc M 12) (f12_manage (M 12) p1) rfl (by decide) (Nat.le_of_ble_eq_true rfl) (fun p e s m args below meth c cx hr => ?_)
  unfold f12_manage
  refine mw_sub (lv' := [(0, .ref (ad 12 0 0)), (1, .int p1)]) [0, 1] rfl ?_
  refine mw_eqM (uW_self M 12) ?_
  have ok0 : OkT (M 12) (M 12) := ⟨hok, rfl, rfl⟩
  refine mw_aload_n cx (q := 1) 0 rfl rfl dX12_manage_0 rfl ?_
  refine mw_get cx (q := 4) (v := .ref (ad 12 32 0)) gf_X12_101 rfl rfl vi_12_0 dX12_manage_1 rfl ?_
  refine mw_iload_n cx (q := 5) 1 rfl rfl dX12_manage_4 rfl ?_
  refine mw_iald cx (q := 6) (w := ((M 12) 32 0 p1)) rfl (fun _ => rfl) vi_12_32 hp1 dX12_manage_5 rfl ?_
  refine mw_bndT (fun v1 ev1 => ?_)
  refine mw_istore_n cx (q := 7) (lv' := [(2, .int v1), (0, .ref (ad 12 0 0)), (1, .int p1)]) rfl rfl (by decide) dX12_manage_6 rfl ?_
  refine mw_aload_n cx (q := 8) 1 rfl rfl dX12_manage_7 rfl ?_
  refine mw_get cx (q := 11) (v := .ref (ad 12 33 0)) gf_X12_104 rfl rfl vi_12_0 dX12_manage_8 rfl ?_
  refine mw_iload_n cx (q := 12) 2 rfl rfl dX12_manage_11 rfl ?_
  refine mw_iald cx (q := 13) (w := ((M 12) 33 0 p1)) rfl (fun _ => rfl) vi_12_33 hp1 dX12_manage_12 rfl ?_
  refine mw_bndT (fun v2 ev2 => ?_)
  refine mw_istore_n cx (q := 14) (lv' := [(3, .int v2), (2, .int v1), (0, .ref (ad 12 0 0)), (1, .int p1)]) rfl rfl (by decide) dX12_manage_13 rfl ?_
  have hnv : ¬ v2 = 0 → Ix12 (M 12) ((M 12) 31 0 p1) ((M 12) 34 0 p1) := (by rw [ev2]; exact hn)
  refine mw_iload_n cx (q := 15) 1 rfl rfl dX12_manage_14 rfl ?_
  refine mw_bipush cx (q := 17) (v := 24) dX12_manage_15 rfl rfl ?_
  refine mw_icmp_eq cx (tgt := 26) (q := 20) dX12_manage_17 (by decide) rfl (fun h3 => ?_) (fun h3 => ?_)
  · refine mw_aload_n cx (q := 27) 2 rfl rfl dX12_manage_26 rfl ?_
    refine mw_iload_n cx (q := 28) 1 rfl rfl dX12_manage_27 rfl ?_
    refine mw_bipush cx (q := 30) (v := 24) dX12_manage_28 rfl rfl ?_
    refine mw_jn (Mj := fun (v4 : Int32) => (uW M 12 (M 12))) (pj := 49) (lj := fun (v4 : Int32) => []) (sj := fun (v4 : Int32) => [.int v4, .ref (ad 12 0 0)]) (fun v4 => ?_) (fun K5 hK5 => ?_)
    · refine mw_bnd (fun r7 er7 => ?_)
      refine mw_callV cx (q := 52) (d := 0) (As := [.int v4]) (z := fvc (uW M 12 (M 12)) 12 r7) (st := []) (st1 := []) (M' := uW M 12 r7) (by rw [er7]; exact mc_X12_finish l D ta ad (uW M 12 (M 12)) v4) cv_X12_330 rfl rfl rfl vi_12_0 ⟨Nat.le_of_ble_eq_true rfl, Nat.le_of_ble_eq_true rfl⟩ ⟨Nat.le_refl _, Nat.le_refl _⟩ (by simp [Value.category]) rfl rfl (by exact uW_uW _ _ _ _) dX12_manage_49 rfl ?_
      refine mw_goto cx (tgt := 315) dX12_manage_52 (by decide) ?_
      exact mw_vret cx hr rfl dX12_manage_315
    · refine mw_icmp_ne cx (tgt := 45) (q := 33) dX12_manage_30 (by decide) rfl (fun h6 => ?_) (fun h6 => ?_)
      · refine mw_aload_n cx (q := 46) 2 rfl rfl dX12_manage_45 rfl ?_
        refine mw_get cx (q := 49) (v := .int ((M 12) 0 0 10)) gf_X12_349 rfl rfl vi_12_0 dX12_manage_46 rfl ?_
        refine mw_sub [] rfl ?_
        exact hK5 ((M 12) 0 0 10)
      · refine mw_aload_n cx (q := 34) 2 rfl rfl dX12_manage_33 rfl ?_
        refine mw_get cx (q := 37) (v := .ref (ad 12 6 0)) gf_X12_22 rfl rfl vi_12_0 dX12_manage_34 rfl ?_
        refine mw_aload_n cx (q := 38) 2 rfl rfl dX12_manage_37 rfl ?_
        refine mw_get cx (q := 41) (v := .int ((M 12) 0 0 57)) gf_X12_223 rfl rfl vi_12_0 dX12_manage_38 rfl ?_
        refine mw_iald cx (q := 42) (w := ((M 12) 6 0 ((M 12) 0 0 57))) rfl (fun _ => rfl) vi_12_6 (ok0.1.cmp) dX12_manage_41 rfl ?_
        refine mw_goto cx (tgt := 49) dX12_manage_42 (by decide) ?_
        refine mw_sub [] rfl ?_
        exact hK5 ((M 12) 6 0 ((M 12) 0 0 57))
  · refine mw_iload_n cx (q := 21) 1 rfl rfl dX12_manage_20 rfl ?_
    refine mw_bipush cx (q := 23) (v := 25) dX12_manage_21 rfl rfl ?_
    refine mw_icmp_ne cx (tgt := 55) (q := 26) dX12_manage_23 (by decide) rfl (fun h8 => ?_) (fun h8 => ?_)
    · refine mw_iload_n cx (q := 56) 0 rfl rfl dX12_manage_55 rfl ?_
      refine mw_if_ne cx (tgt := 73) (q := 59) dX12_manage_56 (by decide) rfl (fun h9 => ?_) (fun h9 => ?_)
      · refine mw_iload_n cx (q := 74) 1 rfl rfl dX12_manage_73 rfl ?_
        refine mw_bipush cx (q := 76) (v := 23) dX12_manage_74 rfl rfl ?_
        refine mw_icmp_ne cx (tgt := 142) (q := 79) dX12_manage_76 (by decide) rfl (fun h10 => ?_) (fun h10 => ?_)
        · refine mw_iload_n cx (q := 143) 0 rfl rfl dX12_manage_142 rfl ?_
          refine mw_iconst cx (q := 144) (v := 3) dX12_manage_143 rfl rfl ?_
          refine mw_icmp_ge cx (tgt := 219) (q := 147) dX12_manage_144 (by decide) rfl (fun h11 => ?_) (fun h11 => ?_)
          · refine mw_aload_n cx (q := 220) 2 rfl rfl dX12_manage_219 rfl ?_
            refine mw_get cx (q := 223) (v := .ref (ad 12 36 0)) gf_X12_113 rfl rfl vi_12_0 dX12_manage_220 rfl ?_
            refine mw_iload_n cx (q := 224) 3 rfl rfl dX12_manage_223 rfl ?_
            refine mw_iald cx (q := 225) (w := ((M 12) 36 0 p1)) rfl (fun _ => rfl) vi_12_36 hp1 dX12_manage_224 rfl ?_
            refine mw_iconst cx (q := 226) (v := 1) dX12_manage_225 rfl rfl ?_
            refine mw_bipush cx (q := 228) (v := 100) dX12_manage_226 rfl rfl ?_
            refine mw_bnd (fun r12 er12 => ?_)
            refine mw_callS cx (q := 231) (d := 0) (As := [.int ((M 12) 36 0 p1), .int 1, .int 100]) (z := fzp (uW M 12 (M 12)) r12) (st := []) (st1 := [.int (b2i r12)]) (M' := (uW M 12 (M 12))) (by rw [er12]; exact mc_X12_in l D ta ad (uW M 12 (M 12)) ((M 12) 36 0 p1) 1 100) cv_X12_167 ⟨Nat.le_of_ble_eq_true rfl, Nat.le_of_ble_eq_true rfl⟩ ⟨Nat.le_refl _, Nat.le_refl _⟩ (by simp [Value.category]) rfl rfl rfl dX12_manage_228 rfl ?_
            have qr120 : r12 = true → 1 ≤ ((M 12) 36 0 p1).toInt ∧ ((M 12) 36 0 p1).toInt ≤ 100 := (fun hq => in_i (er12.symm.trans hq))
            refine mw_ifb_eq cx (tgt := 260) (q := 234) dX12_manage_231 (by decide) rfl (fun h13 => ?_) (fun h13 => ?_)
            · refine mw_aload_n cx (q := 261) 2 rfl rfl dX12_manage_260 rfl ?_
              refine mw_bipush cx (q := 263) (v := 6) dX12_manage_261 rfl rfl ?_
              refine mw_putC cx (q := 266) 63 gf_X12_257 pf_X12_63 (int_fit _) rfl (Nat.le_of_ble_eq_true rfl) rfl vi_12_0 (by decide) dX12_manage_263 rfl (fun m14 em14 => ?_)
              have ok15 : OkT (M 12) m14 := (by rw [em14]; exact okT_put0 ok0 (by decide))
              refine mw_goto cx (tgt := 315) dX12_manage_266 (by decide) ?_
              exact mw_vret cx hr rfl dX12_manage_315
            · refine mw_aload_n cx (q := 235) 2 rfl rfl dX12_manage_234 rfl ?_
              refine mw_get cx (q := 238) (v := .ref (ad 12 37 0)) gf_X12_116 rfl rfl vi_12_0 dX12_manage_235 rfl ?_
              refine mw_iload_n cx (q := 239) 3 rfl rfl dX12_manage_238 rfl ?_
              refine mw_iald cx (q := 240) (w := ((M 12) 37 0 p1)) rfl (fun _ => rfl) vi_12_37 hp1 dX12_manage_239 rfl ?_
              refine mw_bnd (fun r16 er16 => ?_)
              refine mw_callS cx (q := 243) (d := 1) (As := [.int ((M 12) 37 0 p1)]) (z := fzp (uW M 12 (M 12)) r16) (st := []) (st1 := [.int (b2i r16)]) (M' := (uW M 12 (M 12))) (by rw [er16]; exact mc_X12_isScript l D ta ad (uW M 12 (M 12)) ((M 12) 37 0 p1)) cv_X12_178 ⟨Nat.le_of_ble_eq_true rfl, Nat.le_of_ble_eq_true rfl⟩ ⟨Nat.le_refl _, Nat.le_refl _⟩ (by simp [Value.category]) rfl rfl rfl dX12_manage_240 rfl ?_
              have qr160 : r16 = true → vp_in ((M 12) 37 0 p1) 8 := (fun hq => isScript_t (er16.symm.trans hq))
              refine mw_ifb_eq cx (tgt := 260) (q := 246) dX12_manage_243 (by decide) rfl (fun h17 => ?_) (fun h17 => ?_)
              · refine mw_aload_n cx (q := 261) 2 rfl rfl dX12_manage_260 rfl ?_
                refine mw_bipush cx (q := 263) (v := 6) dX12_manage_261 rfl rfl ?_
                refine mw_putC cx (q := 266) 63 gf_X12_257 pf_X12_63 (int_fit _) rfl (Nat.le_of_ble_eq_true rfl) rfl vi_12_0 (by decide) dX12_manage_263 rfl (fun m18 em18 => ?_)
                have ok19 : OkT (M 12) m18 := (by rw [em18]; exact okT_put0 ok0 (by decide))
                refine mw_goto cx (tgt := 315) dX12_manage_266 (by decide) ?_
                exact mw_vret cx hr rfl dX12_manage_315
              · refine mw_aload_n cx (q := 247) 2 rfl rfl dX12_manage_246 rfl ?_
                refine mw_get cx (q := 250) (v := .int ((M 12) 0 0 62)) gf_X12_232 rfl rfl vi_12_0 dX12_manage_247 rfl ?_
                refine mw_iconst cx (q := 251) (v := 1) dX12_manage_250 rfl rfl ?_
                refine mw_sipush cx (q := 254) (v := 1000) dX12_manage_251 rfl rfl ?_
                refine mw_bnd (fun r20 er20 => ?_)
                refine mw_callS cx (q := 257) (d := 0) (As := [.int ((M 12) 0 0 62), .int 1, .int 1000]) (z := fzp (uW M 12 (M 12)) r20) (st := []) (st1 := [.int (b2i r20)]) (M' := (uW M 12 (M 12))) (by rw [er20]; exact mc_X12_in l D ta ad (uW M 12 (M 12)) ((M 12) 0 0 62) 1 1000) cv_X12_167 ⟨Nat.le_of_ble_eq_true rfl, Nat.le_of_ble_eq_true rfl⟩ ⟨Nat.le_refl _, Nat.le_refl _⟩ (by simp [Value.category]) rfl rfl rfl dX12_manage_254 rfl ?_
                have qr200 : r20 = true → 1 ≤ ((M 12) 0 0 62).toInt ∧ ((M 12) 0 0 62).toInt ≤ 1000 := (fun hq => in_i (er20.symm.trans hq))
                refine mw_ifb_ne cx (tgt := 269) (q := 260) dX12_manage_257 (by decide) rfl (fun h21 => ?_) (fun h21 => ?_)
                · refine mw_aload_n cx (q := 270) 2 rfl rfl dX12_manage_269 rfl ?_
                  refine mw_aload_n cx (q := 271) 2 rfl rfl dX12_manage_270 rfl ?_
                  refine mw_get cx (q := 274) (v := .int ((M 12) 0 0 11)) gf_X12_352 rfl rfl vi_12_0 dX12_manage_271 rfl ?_
                  refine mw_bipush cx (q := 276) (v := 60) dX12_manage_274 rfl rfl ?_
                  refine mw_jnP (P := fun (v22 : Int32 × Cm) => (OkT (M 12) v22.2)) (Mj := fun (v22 : Int32 × Cm) => (uW M 12 v22.2)) (pj := 312) (lj := fun (v22 : Int32 × Cm) => []) (sj := fun (v22 : Int32 × Cm) => [.int v22.1, .ref (ad 12 0 0)]) (fun v22 jv22 => ?_) (fun K23 hK23 => ?_)
                  · have jv22_0 := jv22
                    refine mw_bnd (fun r27 er27 => ?_)
                    refine mw_callV cx (q := 315) (d := 0) (As := [.int v22.1]) (z := fvc (uW M 12 v22.2) 12 r27) (st := []) (st1 := []) (M' := uW M 12 r27) (by rw [er27]; exact mc_X12_finish l D ta ad (uW M 12 v22.2) v22.1) cv_X12_330 rfl rfl rfl vi_12_0 ⟨Nat.le_of_ble_eq_true rfl, Nat.le_of_ble_eq_true rfl⟩ ⟨Nat.le_refl _, Nat.le_refl _⟩ (by simp [Value.category]) rfl rfl (by exact uW_uW _ _ _ _) dX12_manage_312 rfl ?_
                    exact mw_vret cx hr rfl dX12_manage_315
                  · refine mw_icmp_ne cx (tgt := 283) (q := 279) dX12_manage_276 (by decide) rfl (fun h24 => ?_) (fun h24 => ?_)
                    · refine mw_aload_n cx (q := 284) 2 rfl rfl dX12_manage_283 rfl ?_
                      refine mw_aload_n cx (q := 285) 2 rfl rfl dX12_manage_284 rfl ?_
                      refine mw_get cx (q := 288) (v := .int ((M 12) 0 0 57)) gf_X12_223 rfl rfl vi_12_0 dX12_manage_285 rfl ?_
                      refine mw_aload_n cx (q := 289) 2 rfl rfl dX12_manage_288 rfl ?_
                      refine mw_get cx (q := 292) (v := .ref (ad 12 37 0)) gf_X12_116 rfl rfl vi_12_0 dX12_manage_289 rfl ?_
                      refine mw_iload_n cx (q := 293) 3 rfl rfl dX12_manage_292 rfl ?_
                      refine mw_iald cx (q := 294) (w := ((M 12) 37 0 p1)) rfl (fun _ => rfl) vi_12_37 hp1 dX12_manage_293 rfl ?_
                      refine mw_aload_n cx (q := 295) 2 rfl rfl dX12_manage_294 rfl ?_
                      refine mw_get cx (q := 298) (v := .int ((M 12) 0 0 10)) gf_X12_349 rfl rfl vi_12_0 dX12_manage_295 rfl ?_
                      refine mw_aload_n cx (q := 299) 2 rfl rfl dX12_manage_298 rfl ?_
                      refine mw_get cx (q := 302) (v := .ref (ad 12 36 0)) gf_X12_113 rfl rfl vi_12_0 dX12_manage_299 rfl ?_
                      refine mw_iload_n cx (q := 303) 3 rfl rfl dX12_manage_302 rfl ?_
                      refine mw_iald cx (q := 304) (w := ((M 12) 36 0 p1)) rfl (fun _ => rfl) vi_12_36 hp1 dX12_manage_303 rfl ?_
                      refine mw_iadd cx (q := 305) dX12_manage_304 rfl ?_
                      refine mw_aload_n cx (q := 306) 2 rfl rfl dX12_manage_305 rfl ?_
                      refine mw_get cx (q := 309) (v := .int ((M 12) 0 0 62)) gf_X12_232 rfl rfl vi_12_0 dX12_manage_306 rfl ?_
                      refine mw_bnd (fun r25 er25 => ?_)
                      refine mw_callV cx (q := 312) (d := 0) (As := [.int ((M 12) 0 0 57), .int ((M 12) 37 0 p1), .int (((M 12) 0 0 10) + ((M 12) 36 0 p1)), .int ((M 12) 0 0 62)]) (z := fic (uW M 12 (M 12)) 12 r25) (st := [.ref (ad 12 0 0)]) (st1 := [.int r25.1, .ref (ad 12 0 0)]) (M' := uW M 12 r25.2) (by rw [er25]; exact mc_X12_makeOrder l D ta ad (uW M 12 (M 12)) ((M 12) 0 0 57) ((M 12) 37 0 p1) (((M 12) 0 0 10) + ((M 12) 36 0 p1)) ((M 12) 0 0 62) (ok0.1) (by show ((M 12) 0 0 11).toInt < 60; have h1 := hok.o1; have hn := h24; simp only [i32eq, t32_60] at hn; omega)) cv_X12_355 rfl rfl rfl vi_12_0 ⟨Nat.le_of_ble_eq_true rfl, Nat.le_of_ble_eq_true rfl⟩ ⟨Nat.le_refl _, Nat.le_refl _⟩ (by simp [Value.category]) rfl rfl (by exact uW_uW _ _ _ _) dX12_manage_309 rfl ?_
                      have ok26 : OkT (M 12) r25.2 := (by rw [er25]; exact okT_f12_makeOrder ok0 ((M 12) 0 0 57) ((M 12) 37 0 p1) (((M 12) 0 0 10) + ((M 12) 36 0 p1)) ((M 12) 0 0 62) (ok0.1.cmp) (qr160 h17) (by have h1 := hok.o1; have hn := h24; simp only [i32eq, t32_60] at hn; omega))
                      refine mw_sub [] rfl ?_
                      exact hK23 (r25.1, r25.2) ok26
                    · refine mw_iconst cx (q := 280) (v := (-1)) dX12_manage_279 rfl rfl ?_
                      refine mw_goto cx (tgt := 312) dX12_manage_280 (by decide) ?_
                      refine mw_sub [] rfl ?_
                      exact hK23 ((-1), (M 12)) ok0
                · refine mw_aload_n cx (q := 261) 2 rfl rfl dX12_manage_260 rfl ?_
                  refine mw_bipush cx (q := 263) (v := 6) dX12_manage_261 rfl rfl ?_
                  refine mw_putC cx (q := 266) 63 gf_X12_257 pf_X12_63 (int_fit _) rfl (Nat.le_of_ble_eq_true rfl) rfl vi_12_0 (by decide) dX12_manage_263 rfl (fun m28 em28 => ?_)
                  have ok29 : OkT (M 12) m28 := (by rw [em28]; exact okT_put0 ok0 (by decide))
                  refine mw_goto cx (tgt := 315) dX12_manage_266 (by decide) ?_
                  exact mw_vret cx hr rfl dX12_manage_315
          · refine mw_aload_n cx (q := 148) 2 rfl rfl dX12_manage_147 rfl ?_
            refine mw_get cx (q := 151) (v := .ref (ad 12 36 0)) gf_X12_113 rfl rfl vi_12_0 dX12_manage_148 rfl ?_
            refine mw_iload_n cx (q := 152) 3 rfl rfl dX12_manage_151 rfl ?_
            refine mw_iload_n cx (q := 153) 0 rfl rfl dX12_manage_152 rfl ?_
            refine mw_iconst cx (q := 154) (v := 1) dX12_manage_153 rfl rfl ?_
            refine mw_jn (Mj := fun (v30 : Int32) => (uW M 12 (M 12))) (pj := 170) (lj := fun (v30 : Int32) => [(0, .ref (ad 12 0 0)), (1, .int p1), (3, .int v2)]) (sj := fun (v30 : Int32) => [.int v30, .int p1, .ref (ad 12 36 0)]) (fun v30 => ?_) (fun K31 hK31 => ?_)
            · refine mw_iastC cx (q := 171) (fun _ => rfl) (by decide) vi_12_36 hp1 (by decide) dX12_manage_170 rfl (fun m33 em33 => ?_)
              have ok34 : OkT (M 12) m33 := (by rw [em33]; exact okT_putA ok0 (by decide))
              refine mw_aload_n cx (q := 172) 0 rfl rfl dX12_manage_171 rfl ?_
              refine mw_get cx (q := 175) (v := .ref (ad 12 37 0)) gf_X12_116 rfl rfl vi_12_0 dX12_manage_172 rfl ?_
              refine mw_iload_n cx (q := 176) 1 rfl rfl dX12_manage_175 rfl ?_
              refine mw_iload_n cx (q := 177) 2 rfl rfl dX12_manage_176 rfl ?_
              refine mw_iconst cx (q := 178) (v := 2) dX12_manage_177 rfl rfl ?_
              refine mw_jn (Mj := fun (v35 : Int32) => (uW M 12 m33)) (pj := 194) (lj := fun (v35 : Int32) => [(0, .ref (ad 12 0 0)), (1, .int p1)]) (sj := fun (v35 : Int32) => [.int v35, .int p1, .ref (ad 12 37 0)]) (fun v35 => ?_) (fun K36 hK36 => ?_)
              · refine mw_iastC cx (q := 195) (fun _ => rfl) (by decide) vi_12_37 hp1 (by decide) dX12_manage_194 rfl (fun m38 em38 => ?_)
                have ok39 : OkT (M 12) m38 := (by rw [em38]; exact okT_putA ok34 (by decide))
                refine mw_aload_n cx (q := 196) 0 rfl rfl dX12_manage_195 rfl ?_
                refine mw_iload_n cx (q := 197) 1 rfl rfl dX12_manage_196 rfl ?_
                refine mw_aload_n cx (q := 198) 0 rfl rfl dX12_manage_197 rfl ?_
                refine mw_aload_n cx (q := 199) 0 rfl rfl dX12_manage_198 rfl ?_
                refine mw_get cx (q := 202) (v := .ref (ad 12 31 0)) gf_X12_98 rfl rfl vi_12_0 dX12_manage_199 rfl ?_
                refine mw_iload_n cx (q := 203) 1 rfl rfl dX12_manage_202 rfl ?_
                refine mw_iald cx (q := 204) (w := ((M 12) 31 0 p1)) (by rw [em38, em33]; rfl) (fun _ => rfl) vi_12_31 hp1 dX12_manage_203 rfl ?_
                refine mw_aload_n cx (q := 205) 0 rfl rfl dX12_manage_204 rfl ?_
                refine mw_get cx (q := 208) (v := .ref (ad 12 34 0)) gf_X12_107 rfl rfl vi_12_0 dX12_manage_205 rfl ?_
                refine mw_iload_n cx (q := 209) 1 rfl rfl dX12_manage_208 rfl ?_
                refine mw_iald cx (q := 210) (w := ((M 12) 34 0 p1)) (by rw [em38, em33]; rfl) (fun _ => rfl) vi_12_34 hp1 dX12_manage_209 rfl ?_
                refine mw_bnd (fun r40 er40 => ?_)
                refine mw_callV cx (q := 213) (d := 3) (As := [.int ((M 12) 31 0 p1), .int ((M 12) 34 0 p1)]) (z := fip (uW M 12 m38) r40) (st := [.int p1, .ref (ad 12 0 0)]) (st1 := [.int r40, .int p1, .ref (ad 12 0 0)]) (M' := (uW M 12 m38)) (by rw [er40]; exact mc_X12_following l D ta ad (uW M 12 m38) ((M 12) 31 0 p1) ((M 12) 34 0 p1) (ok39.1) (ok0.1.pS _ hp1) (Tx12.fr ok39.2 hT) (Ix12.fr ok39.2 (hnv h9))) cv_X12_201 rfl rfl rfl vi_12_0 ⟨Nat.le_of_ble_eq_true rfl, Nat.le_of_ble_eq_true rfl⟩ ⟨Nat.le_refl _, Nat.le_refl _⟩ (by simp [Value.category]) rfl rfl rfl dX12_manage_210 rfl ?_
                have qr400 : Nx12 m38 ((M 12) 31 0 p1) r40 := (by rw [er40]; exact following_n (ok39.1) (ok0.1.pS _ hp1) (Tx12.fr ok39.2 hT) (Ix12.fr ok39.2 (hnv h9)))
                refine mw_bnd (fun r41 er41 => ?_)
                refine mw_callV cx (q := 216) (d := 0) (As := [.int p1, .int r40]) (z := fvc (uW M 12 m38) 12 r41) (st := []) (st1 := []) (M' := uW M 12 r41) (by rw [er41]; exact mc_X12_valueNext l D ta ad (uW M 12 m38) p1 r40 hp1) cv_X12_323 rfl rfl rfl vi_12_0 ⟨Nat.le_of_ble_eq_true rfl, Nat.le_of_ble_eq_true rfl⟩ ⟨Nat.le_refl _, Nat.le_refl _⟩ (by simp [Value.category]) rfl rfl (by exact uW_uW _ _ _ _) dX12_manage_213 rfl ?_
                refine mw_goto cx (tgt := 315) dX12_manage_216 (by decide) ?_
                exact mw_vret cx hr rfl dX12_manage_315
              · refine mw_icmp_ne cx (tgt := 188) (q := 181) dX12_manage_178 (by decide) rfl (fun h37 => ?_) (fun h37 => ?_)
                · refine mw_aload_n cx (q := 189) 0 rfl rfl dX12_manage_188 rfl ?_
                  refine mw_get cx (q := 192) (v := .ref (ad 12 37 0)) gf_X12_116 rfl rfl vi_12_0 dX12_manage_189 rfl ?_
                  refine mw_iload_n cx (q := 193) 1 rfl rfl dX12_manage_192 rfl ?_
                  refine mw_iald cx (q := 194) (w := ((M 12) 37 0 p1)) (by rw [em33]; rfl) (fun _ => rfl) vi_12_37 hp1 dX12_manage_193 rfl ?_
                  refine mw_sub [0, 1] rfl ?_
                  exact hK36 ((M 12) 37 0 p1)
                · refine mw_aload_n cx (q := 182) 0 rfl rfl dX12_manage_181 rfl ?_
                  refine mw_get cx (q := 185) (v := .int ((M 12) 0 0 62)) gf_X12_232 rfl (by rw [em33]; rfl) vi_12_0 dX12_manage_182 rfl ?_
                  refine mw_goto cx (tgt := 194) dX12_manage_185 (by decide) ?_
                  refine mw_sub [0, 1] rfl ?_
                  exact hK36 ((M 12) 0 0 62)
            · refine mw_icmp_ne cx (tgt := 164) (q := 157) dX12_manage_154 (by decide) rfl (fun h32 => ?_) (fun h32 => ?_)
              · refine mw_aload_n cx (q := 165) 2 rfl rfl dX12_manage_164 rfl ?_
                refine mw_get cx (q := 168) (v := .ref (ad 12 36 0)) gf_X12_113 rfl rfl vi_12_0 dX12_manage_165 rfl ?_
                refine mw_iload_n cx (q := 169) 3 rfl rfl dX12_manage_168 rfl ?_
                refine mw_iald cx (q := 170) (w := ((M 12) 36 0 p1)) rfl (fun _ => rfl) vi_12_36 hp1 dX12_manage_169 rfl ?_
                refine mw_sub [2, 3, 0] rfl ?_
                exact hK31 ((M 12) 36 0 p1)
              · refine mw_aload_n cx (q := 158) 2 rfl rfl dX12_manage_157 rfl ?_
                refine mw_get cx (q := 161) (v := .int ((M 12) 0 0 62)) gf_X12_232 rfl rfl vi_12_0 dX12_manage_158 rfl ?_
                refine mw_goto cx (tgt := 170) dX12_manage_161 (by decide) ?_
                refine mw_sub [2, 3, 0] rfl ?_
                exact hK31 ((M 12) 0 0 62)
        · refine mw_aload_n cx (q := 80) 2 rfl rfl dX12_manage_79 rfl ?_
          refine mw_get cx (q := 83) (v := .int ((M 12) 0 0 62)) gf_X12_232 rfl rfl vi_12_0 dX12_manage_80 rfl ?_
          refine mw_if_ge cx (tgt := 95) (q := 86) dX12_manage_83 (by decide) rfl (fun h42 => ?_) (fun h42 => ?_)
          · refine mw_aload_n cx (q := 96) 2 rfl rfl dX12_manage_95 rfl ?_
            refine mw_aload_n cx (q := 97) 2 rfl rfl dX12_manage_96 rfl ?_
            refine mw_aload_n cx (q := 98) 2 rfl rfl dX12_manage_97 rfl ?_
            refine mw_get cx (q := 101) (v := .int ((M 12) 0 0 57)) gf_X12_223 rfl rfl vi_12_0 dX12_manage_98 rfl ?_
            refine mw_aload_n cx (q := 102) 2 rfl rfl dX12_manage_101 rfl ?_
            refine mw_get cx (q := 105) (v := .int ((M 12) 0 0 62)) gf_X12_232 rfl rfl vi_12_0 dX12_manage_102 rfl ?_
            refine mw_aload_n cx (q := 106) 2 rfl rfl dX12_manage_105 rfl ?_
            refine mw_get cx (q := 109) (v := .ref (ad 12 5 0)) gf_X12_19 rfl rfl vi_12_0 dX12_manage_106 rfl ?_
            refine mw_aload_n cx (q := 110) 2 rfl rfl dX12_manage_109 rfl ?_
            refine mw_get cx (q := 113) (v := .int ((M 12) 0 0 57)) gf_X12_223 rfl rfl vi_12_0 dX12_manage_110 rfl ?_
            refine mw_iald cx (q := 114) (w := ((M 12) 5 0 ((M 12) 0 0 57))) rfl (fun _ => rfl) vi_12_5 (ok0.1.cmp) dX12_manage_113 rfl ?_
            refine mw_jn (Mj := fun (v43 : Int32) => (uW M 12 (M 12))) (pj := 133) (lj := fun (v43 : Int32) => []) (sj := fun (v43 : Int32) => [.int v43, .int ((M 12) 0 0 57), .ref (ad 12 0 0), .ref (ad 12 0 0)]) (fun v43 => ?_) (fun K44 hK44 => ?_)
            · refine mw_bnd (fun r46 er46 => ?_)
              refine mw_callV cx (q := 136) (d := 0) (As := [.int ((M 12) 0 0 57), .int v43]) (z := fic (uW M 12 (M 12)) 12 r46) (st := [.ref (ad 12 0 0)]) (st1 := [.int r46.1, .ref (ad 12 0 0)]) (M' := uW M 12 r46.2) (by rw [er46]; exact mc_X12_buyFuel l D ta ad (uW M 12 (M 12)) ((M 12) 0 0 57) v43 (ok0.1.cmp)) cv_X12_226 rfl rfl rfl vi_12_0 ⟨Nat.le_of_ble_eq_true rfl, Nat.le_of_ble_eq_true rfl⟩ ⟨Nat.le_refl _, Nat.le_refl _⟩ (by simp [Value.category]) rfl rfl (by exact uW_uW _ _ _ _) dX12_manage_133 rfl ?_
              refine mw_bnd (fun r47 er47 => ?_)
              refine mw_callV cx (q := 139) (d := 0) (As := [.int r46.1]) (z := fvc (uW M 12 r46.2) 12 r47) (st := []) (st1 := []) (M' := uW M 12 r47) (by rw [er47]; exact mc_X12_finish l D ta ad (uW M 12 r46.2) r46.1) cv_X12_330 rfl rfl rfl vi_12_0 ⟨Nat.le_of_ble_eq_true rfl, Nat.le_of_ble_eq_true rfl⟩ ⟨Nat.le_refl _, Nat.le_refl _⟩ (by simp [Value.category]) rfl rfl (by exact uW_uW _ _ _ _) dX12_manage_136 rfl ?_
              refine mw_goto cx (tgt := 315) dX12_manage_139 (by decide) ?_
              exact mw_vret cx hr rfl dX12_manage_315
            · refine mw_icmp_ge cx (tgt := 124) (q := 117) dX12_manage_114 (by decide) rfl (fun h45 => ?_) (fun h45 => ?_)
              · refine mw_aload_n cx (q := 125) 2 rfl rfl dX12_manage_124 rfl ?_
                refine mw_get cx (q := 128) (v := .ref (ad 12 5 0)) gf_X12_19 rfl rfl vi_12_0 dX12_manage_125 rfl ?_
                refine mw_aload_n cx (q := 129) 2 rfl rfl dX12_manage_128 rfl ?_
                refine mw_get cx (q := 132) (v := .int ((M 12) 0 0 57)) gf_X12_223 rfl rfl vi_12_0 dX12_manage_129 rfl ?_
                refine mw_iald cx (q := 133) (w := ((M 12) 5 0 ((M 12) 0 0 57))) rfl (fun _ => rfl) vi_12_5 (ok0.1.cmp) dX12_manage_132 rfl ?_
                refine mw_sub [] rfl ?_
                exact hK44 ((M 12) 5 0 ((M 12) 0 0 57))
              · refine mw_aload_n cx (q := 118) 2 rfl rfl dX12_manage_117 rfl ?_
                refine mw_get cx (q := 121) (v := .int ((M 12) 0 0 62)) gf_X12_232 rfl rfl vi_12_0 dX12_manage_118 rfl ?_
                refine mw_goto cx (tgt := 133) dX12_manage_121 (by decide) ?_
                refine mw_sub [] rfl ?_
                exact hK44 ((M 12) 0 0 62)
          · refine mw_aload_n cx (q := 87) 2 rfl rfl dX12_manage_86 rfl ?_
            refine mw_bipush cx (q := 89) (v := 6) dX12_manage_87 rfl rfl ?_
            refine mw_putC cx (q := 92) 63 gf_X12_257 pf_X12_63 (int_fit _) rfl (Nat.le_of_ble_eq_true rfl) rfl vi_12_0 (by decide) dX12_manage_89 rfl (fun m48 em48 => ?_)
            have ok49 : OkT (M 12) m48 := (by rw [em48]; exact okT_put0 ok0 (by decide))
            refine mw_goto cx (tgt := 315) dX12_manage_92 (by decide) ?_
            exact mw_vret cx hr rfl dX12_manage_315
      · refine mw_aload_n cx (q := 60) 2 rfl rfl dX12_manage_59 rfl ?_
        refine mw_iload_n cx (q := 61) 3 rfl rfl dX12_manage_60 rfl ?_
        refine mw_aload_n cx (q := 62) 2 rfl rfl dX12_manage_61 rfl ?_
        refine mw_get cx (q := 65) (v := .ref (ad 12 35 0)) gf_X12_110 rfl rfl vi_12_0 dX12_manage_62 rfl ?_
        refine mw_iload_n cx (q := 66) 3 rfl rfl dX12_manage_65 rfl ?_
        refine mw_iald cx (q := 67) (w := ((M 12) 35 0 p1)) rfl (fun _ => rfl) vi_12_35 hp1 dX12_manage_66 rfl ?_
        refine mw_bnd (fun r50 er50 => ?_)
        refine mw_callV cx (q := 70) (d := 0) (As := [.int p1, .int ((M 12) 35 0 p1)]) (z := fvc (uW M 12 (M 12)) 12 r50) (st := []) (st1 := []) (M' := uW M 12 r50) (by rw [er50]; exact mc_X12_valueNext l D ta ad (uW M 12 (M 12)) p1 ((M 12) 35 0 p1) hp1) cv_X12_323 rfl rfl rfl vi_12_0 ⟨Nat.le_of_ble_eq_true rfl, Nat.le_of_ble_eq_true rfl⟩ ⟨Nat.le_refl _, Nat.le_refl _⟩ (by simp [Value.category]) rfl rfl (by exact uW_uW _ _ _ _) dX12_manage_67 rfl ?_
        refine mw_goto cx (tgt := 315) dX12_manage_70 (by decide) ?_
        exact mw_vret cx hr rfl dX12_manage_315
    · refine mw_aload_n cx (q := 27) 2 rfl rfl dX12_manage_26 rfl ?_
      refine mw_iload_n cx (q := 28) 1 rfl rfl dX12_manage_27 rfl ?_
      refine mw_bipush cx (q := 30) (v := 24) dX12_manage_28 rfl rfl ?_
      refine mw_jn (Mj := fun (v51 : Int32) => (uW M 12 (M 12))) (pj := 49) (lj := fun (v51 : Int32) => []) (sj := fun (v51 : Int32) => [.int v51, .ref (ad 12 0 0)]) (fun v51 => ?_) (fun K52 hK52 => ?_)
      · refine mw_bnd (fun r54 er54 => ?_)
        refine mw_callV cx (q := 52) (d := 0) (As := [.int v51]) (z := fvc (uW M 12 (M 12)) 12 r54) (st := []) (st1 := []) (M' := uW M 12 r54) (by rw [er54]; exact mc_X12_finish l D ta ad (uW M 12 (M 12)) v51) cv_X12_330 rfl rfl rfl vi_12_0 ⟨Nat.le_of_ble_eq_true rfl, Nat.le_of_ble_eq_true rfl⟩ ⟨Nat.le_refl _, Nat.le_refl _⟩ (by simp [Value.category]) rfl rfl (by exact uW_uW _ _ _ _) dX12_manage_49 rfl ?_
        refine mw_goto cx (tgt := 315) dX12_manage_52 (by decide) ?_
        exact mw_vret cx hr rfl dX12_manage_315
      · refine mw_icmp_ne cx (tgt := 45) (q := 33) dX12_manage_30 (by decide) rfl (fun h53 => ?_) (fun h53 => ?_)
        · refine mw_aload_n cx (q := 46) 2 rfl rfl dX12_manage_45 rfl ?_
          refine mw_get cx (q := 49) (v := .int ((M 12) 0 0 10)) gf_X12_349 rfl rfl vi_12_0 dX12_manage_46 rfl ?_
          refine mw_sub [] rfl ?_
          exact hK52 ((M 12) 0 0 10)
        · refine mw_aload_n cx (q := 34) 2 rfl rfl dX12_manage_33 rfl ?_
          refine mw_get cx (q := 37) (v := .ref (ad 12 6 0)) gf_X12_22 rfl rfl vi_12_0 dX12_manage_34 rfl ?_
          refine mw_aload_n cx (q := 38) 2 rfl rfl dX12_manage_37 rfl ?_
          refine mw_get cx (q := 41) (v := .int ((M 12) 0 0 57)) gf_X12_223 rfl rfl vi_12_0 dX12_manage_38 rfl ?_
          refine mw_iald cx (q := 42) (w := ((M 12) 6 0 ((M 12) 0 0 57))) rfl (fun _ => rfl) vi_12_6 (ok0.1.cmp) dX12_manage_41 rfl ?_
          refine mw_goto cx (tgt := 49) dX12_manage_42 (by decide) ?_
          refine mw_sub [] rfl ?_
          exact hK52 ((M 12) 6 0 ((M 12) 0 0 57))
def f12_define_lp82 (v1 : Int32) (v4 : Int32) (K12 : (Int32 × Cm) → Cm) : Nat → (Int32 × Int32 × Cm) → Cm
  | 0, x11 => x11.2.2
  | n13 + 1, x11 => if x11.1 = (-1) then K12 (x11.2.1, x11.2.2) else bnd (f12_nameAt x11.2.2 v1 x11.1) (fun (r15 : Int32) => bnd (u3 x11.2.2 54 0 ((3 * v4) + x11.2.1) r15) (fun (m16 : Cm) => bnd (x11.2.1 + 1) (fun (v18 : Int32) => bnd (f12_following m16 v1 x11.1) (fun (r19 : Int32) => f12_define_lp82 v1 v4 K12 n13 (r19, v18, m16)))))
theorem f12_define_lp82_s (v1 : Int32) (v4 : Int32) (K12 : (Int32 × Cm) → Cm) (n13 : Nat) (x11 : Int32 × Int32 × Cm) : f12_define_lp82 v1 v4 K12 (n13 + 1) x11 = if x11.1 = (-1) then K12 (x11.2.1, x11.2.2) else bnd (f12_nameAt x11.2.2 v1 x11.1) (fun (r15 : Int32) => bnd (u3 x11.2.2 54 0 ((3 * v4) + x11.2.1) r15) (fun (m16 : Cm) => bnd (x11.2.1 + 1) (fun (v18 : Int32) => bnd (f12_following m16 v1 x11.1) (fun (r19 : Int32) => f12_define_lp82 v1 v4 K12 n13 (r19, v18, m16))))) := rfl
def f12_define (m : Cm) (p1 : Int32) : Cm := bnd ((m 31 0 p1)) (fun (v1 : Int32) => bnd (f12_nameAt m v1 (m 35 0 p1)) (fun (r2 : Int32) => bnd (f12_functionOf m r2) (fun (r3 : Int32) => jn (fun (v4 : Int32) => if v4 = 8 then bnd (u3 m 0 0 63 2) (fun (m36 : Cm) => m36) else bnd (f12_following m v1 (m 35 0 p1)) (fun (r9 : Int32) => bnd (f12_nextAt m v1 (r9 + 1)) (fun (r10 : Int32) => jn (fun (y20 : Int32 × Cm) => bnd (u3 y20.2 52 0 v4 r2) (fun (m21 : Cm) => bnd (u3 m21 53 0 v4 y20.1) (fun (m23 : Cm) => bnd (u3 m23 55 0 v4 v1) (fun (m25 : Cm) => bnd (f12_following m25 v1 r9) (fun (r27 : Int32) => bnd (u3 m25 56 0 v4 r27) (fun (m28 : Cm) => jn (fun (v30 : Bool) => bnd (u3 m28 0 0 50 ((y20.2 0 0 50) + (b2i v30))) (fun (m33 : Cm) => bnd (f12_finish m33 0) (fun (r35 : Cm) => r35))) (fun K31 => if v4 = (y20.2 0 0 50) then K31 true else K31 false))))))) (fun K12 => f12_define_lp82 v1 v4 K12 123 (r10, 0, m))))) (fun K5 => if r3 = (-1) then K5 (m 0 0 50) else bnd (f12_functionOf m r2) (fun (r7 : Int32) => K5 r7)))))
set_option maxHeartbeats 4000000 in
set_option maxRecDepth 100000 in
theorem mc_X12_define (l : Launch) (D : va_G) (ta : wTa) (ad : wAd) (M : Wm) (p1 : Int32) (hok : Ok12 (M 12)) (hp1 : vp_in p1 32) (hT : Tx12 (M 12) ((M 12) 31 0 p1)) (hF : Ix12 (M 12) ((M 12) 31 0 p1) ((M 12) 35 0 p1)) (hL : Ix12 (M 12) ((M 12) 31 0 p1) (f12_following (M 12) ((M 12) 31 0 p1) ((M 12) 35 0 p1))) (hC : CN12 (M 12) ((M 12) 31 0 p1) (f12_nextAt (M 12) ((M 12) 31 0 p1) ((f12_following (M 12) ((M 12) 31 0 p1) ((M 12) 35 0 p1)) + 1)) ≤ 3) : MC l D ta ad yX12_define cX12_define 8 none 4 [.ref (ad 12 0 0), .int p1] M (fvc M 12 (f12_define (M 12) p1)) := by
  refine MC.of (fvc M 12) (f12_define (M 12) p1) rfl (by decide) (Nat.le_of_ble_eq_true rfl) (fun p e s m args below meth c cx hr => ?_)
  unfold f12_define
  refine mw_sub (lv' := [(0, .ref (ad 12 0 0)), (1, .int p1)]) [0, 1] rfl ?_
  refine mw_eqM (uW_self M 12) ?_
  have u_f0 : 0 ≤ ((M 12) 0 0 50).toInt := hok.f0
  have u_f1 : ((M 12) 0 0 50).toInt ≤ 8 := hok.f1
  have ok0 : OkT (M 12) (M 12) := ⟨hok, rfl, rfl⟩
  refine mw_aload_n cx (q := 1) 0 rfl rfl dX12_define_0 rfl ?_
  refine mw_get cx (q := 4) (v := .ref (ad 12 31 0)) gf_X12_98 rfl rfl vi_12_0 dX12_define_1 rfl ?_
  refine mw_iload_n cx (q := 5) 1 rfl rfl dX12_define_4 rfl ?_
  refine mw_iald cx (q := 6) (w := ((M 12) 31 0 p1)) rfl (fun _ => rfl) vi_12_31 hp1 dX12_define_5 rfl ?_
  refine mw_bndT (fun v1 ev1 => ?_)
  refine mw_istore_n cx (q := 7) (lv' := [(2, .int v1), (0, .ref (ad 12 0 0)), (1, .int p1)]) rfl rfl (by decide) dX12_define_6 rfl ?_
  have hsv : vp_in v1 8 := (by rw [ev1]; exact hok.pS _ hp1)
  have hTv : Tx12 (M 12) v1 := (by rw [ev1]; exact hT)
  have hFv : Ix12 (M 12) v1 ((M 12) 35 0 p1) := (by rw [ev1]; exact hF)
  have hLv : Ix12 (M 12) v1 (f12_following (M 12) v1 ((M 12) 35 0 p1)) := (by rw [ev1]; exact hL)
  have hCv : CN12 (M 12) v1 (f12_nextAt (M 12) v1 ((f12_following (M 12) v1 ((M 12) 35 0 p1)) + 1)) ≤ 3 := (by rw [ev1]; exact hC)
  refine mw_aload_n cx (q := 8) 1 rfl rfl dX12_define_7 rfl ?_
  refine mw_iload_n cx (q := 9) 0 rfl rfl dX12_define_8 rfl ?_
  refine mw_aload_n cx (q := 10) 1 rfl rfl dX12_define_9 rfl ?_
  refine mw_get cx (q := 13) (v := .ref (ad 12 35 0)) gf_X12_110 rfl rfl vi_12_0 dX12_define_10 rfl ?_
  refine mw_iload_n cx (q := 14) 2 rfl rfl dX12_define_13 rfl ?_
  refine mw_iald cx (q := 15) (w := ((M 12) 35 0 p1)) rfl (fun _ => rfl) vi_12_35 hp1 dX12_define_14 rfl ?_
  refine mw_bnd (fun r2 er2 => ?_)
  refine mw_callV cx (q := 18) (d := 2) (As := [.int v1, .int ((M 12) 35 0 p1)]) (z := fip (uW M 12 (M 12)) r2) (st := []) (st1 := [.int r2]) (M' := (uW M 12 (M 12))) (by rw [er2]; exact mc_X12_nameAt l D ta ad (uW M 12 (M 12)) v1 ((M 12) 35 0 p1) (ok0.1) hsv hFv) cv_X12_211 rfl rfl rfl vi_12_0 ⟨Nat.le_of_ble_eq_true rfl, Nat.le_of_ble_eq_true rfl⟩ ⟨Nat.le_refl _, Nat.le_refl _⟩ (by simp [Value.category]) rfl rfl rfl dX12_define_15 rfl ?_
  refine mw_istore_n cx (q := 19) (lv' := [(3, .int r2), (2, .int v1), (0, .ref (ad 12 0 0)), (1, .int p1)]) rfl rfl (by decide) dX12_define_18 rfl ?_
  refine mw_aload_n cx (q := 20) 2 rfl rfl dX12_define_19 rfl ?_
  refine mw_iload_n cx (q := 21) 0 rfl rfl dX12_define_20 rfl ?_
  refine mw_bnd (fun r3 er3 => ?_)
  refine mw_callV cx (q := 24) (d := 0) (As := [.int r2]) (z := fip (uW M 12 (M 12)) r3) (st := []) (st1 := [.int r3]) (M' := (uW M 12 (M 12))) (by rw [er3]; exact mc_X12_functionOf l D ta ad (uW M 12 (M 12)) r2 (ok0.1)) cv_X12_283 rfl rfl rfl vi_12_0 ⟨Nat.le_of_ble_eq_true rfl, Nat.le_of_ble_eq_true rfl⟩ ⟨Nat.le_refl _, Nat.le_refl _⟩ (by simp [Value.category]) rfl rfl rfl dX12_define_21 rfl ?_
  have qr30 : ¬ r3 = (-1) → vp_in r3 8 := (by rw [er3]; exact functionOf_in ok0.1)
  have hff : ¬ r3 = (-1) → vp_in (f12_functionOf (M 12) r2) 8 := (fun hz => functionOf_in hok (by rw [← er3]; exact hz))
  refine mw_iconst cx (q := 25) (v := (-1)) dX12_define_24 rfl rfl ?_
  refine mw_jnP (P := fun (v4 : Int32) => (0 ≤ (v4).toInt) ∧ ((v4).toInt ≤ 8)) (Mj := fun (v4 : Int32) => (uW M 12 (M 12))) (pj := 40) (lj := fun (v4 : Int32) => [(0, .ref (ad 12 0 0)), (1, .int p1), (2, .int v1), (3, .int r2)]) (sj := fun (v4 : Int32) => [.int v4]) (fun v4 jv4 => ?_) (fun K5 hK5 => ?_)
  · obtain ⟨jv4_0, jv4_1⟩ := jv4
    refine mw_istore cx (q := 42) (lv' := [(4, .int v4), (0, .ref (ad 12 0 0)), (1, .int p1), (2, .int v1), (3, .int r2)]) rfl (by decide) dX12_define_40 rfl ?_
    refine mw_iload cx (q := 44) 0 rfl dX12_define_42 rfl ?_
    refine mw_bipush cx (q := 46) (v := 8) dX12_define_44 rfl rfl ?_
    refine mw_icmp_ne cx (tgt := 55) (q := 49) dX12_define_46 (by decide) rfl (fun h8 => ?_) (fun h8 => ?_)
    · refine mw_aload_n cx (q := 56) 1 rfl rfl dX12_define_55 rfl ?_
      refine mw_iload_n cx (q := 57) 3 rfl rfl dX12_define_56 rfl ?_
      refine mw_aload_n cx (q := 58) 1 rfl rfl dX12_define_57 rfl ?_
      refine mw_get cx (q := 61) (v := .ref (ad 12 35 0)) gf_X12_110 rfl rfl vi_12_0 dX12_define_58 rfl ?_
      refine mw_iload_n cx (q := 62) 2 rfl rfl dX12_define_61 rfl ?_
      refine mw_iald cx (q := 63) (w := ((M 12) 35 0 p1)) rfl (fun _ => rfl) vi_12_35 hp1 dX12_define_62 rfl ?_
      refine mw_bnd (fun r9 er9 => ?_)
      refine mw_callV cx (q := 66) (d := 3) (As := [.int v1, .int ((M 12) 35 0 p1)]) (z := fip (uW M 12 (M 12)) r9) (st := []) (st1 := [.int r9]) (M' := (uW M 12 (M 12))) (by rw [er9]; exact mc_X12_following l D ta ad (uW M 12 (M 12)) v1 ((M 12) 35 0 p1) (ok0.1) hsv hTv hFv) cv_X12_201 rfl rfl rfl vi_12_0 ⟨Nat.le_of_ble_eq_true rfl, Nat.le_of_ble_eq_true rfl⟩ ⟨Nat.le_refl _, Nat.le_refl _⟩ (by simp [Value.category]) rfl rfl rfl dX12_define_63 rfl ?_
      have qr90 : Nx12 (M 12) v1 r9 := (by rw [er9]; exact following_n (ok0.1) hsv hTv hFv)
      have hLr : Ix12 (M 12) v1 r9 := (by rw [er9]; exact hLv)
      have hCr : CN12 (M 12) v1 (f12_nextAt (M 12) v1 (r9 + 1)) ≤ 3 := (by rw [er9]; exact hCv)
      refine mw_istore cx (q := 68) (lv' := [(5, .int r9), (4, .int v4), (0, .ref (ad 12 0 0)), (1, .int p1), (2, .int v1), (3, .int r2)]) rfl (by decide) dX12_define_66 rfl ?_
      refine mw_iconst cx (q := 69) (v := 0) dX12_define_68 rfl rfl ?_
      refine mw_istore cx (q := 71) (lv' := [(6, .int 0), (5, .int r9), (4, .int v4), (0, .ref (ad 12 0 0)), (1, .int p1), (2, .int v1), (3, .int r2)]) rfl (by decide) dX12_define_69 rfl ?_
      refine mw_aload_n cx (q := 72) 3 rfl rfl dX12_define_71 rfl ?_
      refine mw_iload_n cx (q := 73) 5 rfl rfl dX12_define_72 rfl ?_
      refine mw_iload cx (q := 75) 1 rfl dX12_define_73 rfl ?_
      refine mw_iconst cx (q := 76) (v := 1) dX12_define_75 rfl rfl ?_
      refine mw_iadd cx (q := 77) dX12_define_76 rfl ?_
      refine mw_bnd (fun r10 er10 => ?_)
      refine mw_callV cx (q := 80) (d := 1) (As := [.int v1, .int (r9 + 1)]) (z := fip (uW M 12 (M 12)) r10) (st := []) (st1 := [.int r10]) (M' := (uW M 12 (M 12))) (by rw [er10]; exact mc_X12_nextAt l D ta ad (uW M 12 (M 12)) v1 (r9 + 1) (ok0.1) hsv (by have h1 := hLr.1; have h2 := hLr.2; have h3 := (hok.len _ hsv).2; rw [inc_t h1 (by omega)]; omega) (by have h1 := hLr.1; have h2 := hLr.2; have h3 := (hok.len _ hsv).2; rw [inc_t h1 (by omega)]; omega)) cv_X12_198 rfl rfl rfl vi_12_0 ⟨Nat.le_of_ble_eq_true rfl, Nat.le_of_ble_eq_true rfl⟩ ⟨Nat.le_refl _, Nat.le_refl _⟩ (by simp [Value.category]) rfl rfl rfl dX12_define_77 rfl ?_
      have qr100 : Nx12 (M 12) v1 r10 := (by rw [er10]; exact nextAt_n (ok0.1) hsv (by have h1 := hLr.1; have h2 := hLr.2; have h3 := (hok.len _ hsv).2; rw [inc_t h1 (by omega)]; omega) (by have h1 := hLr.1; have h2 := hLr.2; have h3 := (hok.len _ hsv).2; rw [inc_t h1 (by omega)]; omega))
      have hCn : (0 : Int32).toInt + (CN12 (M 12) v1 r10 : Int) ≤ 3 := (by rw [er10, t32_0]; have := hCr; omega)
      refine mw_istore cx (q := 82) (lv' := [(7, .int r10), (6, .int 0), (5, .int r9), (4, .int v4), (0, .ref (ad 12 0 0)), (1, .int p1), (2, .int v1), (3, .int r2)]) rfl (by decide) dX12_define_80 rfl ?_
      refine mw_jnP (P := fun (y20 : Int32 × Cm) => (0 ≤ (y20.1).toInt) ∧ ((y20.1).toInt ≤ 3) ∧ (OkT (M 12) y20.2)) (Mj := fun (y20 : Int32 × Cm) => (uW M 12 y20.2)) (pj := 122) (lj := fun (y20 : Int32 × Cm) => [(6, .int y20.1), (5, .int r9), (4, .int v4), (0, .ref (ad 12 0 0)), (2, .int v1), (3, .int r2)]) (sj := fun (y20 : Int32 × Cm) => []) (fun y20 jy20 => ?_) (fun K12 hK12 => ?_)
      · obtain ⟨jy20_0, jy20_1, jy20_2⟩ := jy20
        refine mw_aload_n cx (q := 123) 3 rfl rfl dX12_define_122 rfl ?_
        refine mw_get cx (q := 126) (v := .ref (ad 12 52 0)) gf_X12_149 rfl rfl vi_12_0 dX12_define_123 rfl ?_
        refine mw_iload cx (q := 128) 2 rfl dX12_define_126 rfl ?_
        refine mw_iload_n cx (q := 129) 5 rfl rfl dX12_define_128 rfl ?_
        refine mw_iastC cx (q := 130) (fun _ => rfl) (by decide) vi_12_52 (by (try simp only [vp_in_iff, i32lt, i32le, i32eq, i32add, i32sub, i32mul, i32neg, t32_0, t32_8] at jv4_0 jv4_1 h8 ⊢); omega) (by decide) dX12_define_129 rfl (fun m21 em21 => ?_)
        have ok22 : OkT (M 12) m21 := (by rw [em21]; exact okT_putA jy20_2 (by decide))
        refine mw_aload_n cx (q := 131) 3 rfl rfl dX12_define_130 rfl ?_
        refine mw_get cx (q := 134) (v := .ref (ad 12 53 0)) gf_X12_152 rfl rfl vi_12_0 dX12_define_131 rfl ?_
        refine mw_iload cx (q := 136) 2 rfl dX12_define_134 rfl ?_
        refine mw_iload cx (q := 138) 0 rfl dX12_define_136 rfl ?_
        refine mw_iastC cx (q := 139) (fun _ => rfl) (by decide) vi_12_53 (by (try simp only [vp_in_iff, i32lt, i32le, i32eq, i32add, i32sub, i32mul, i32neg, t32_0, t32_8] at jv4_0 jv4_1 h8 ⊢); omega) (by decide) dX12_define_138 rfl (fun m23 em23 => ?_)
        have ok24 : OkT (M 12) m23 := (by rw [em23]; exact okT_g53 ok22 (by (try simp only [vp_in_iff, i32lt, i32le, i32eq, i32add, i32sub, i32mul, i32neg, t32_0, t32_3, t32_4] at jy20_0 jy20_1 ⊢); omega))
        refine mw_aload_n cx (q := 140) 3 rfl rfl dX12_define_139 rfl ?_
        refine mw_get cx (q := 143) (v := .ref (ad 12 55 0)) gf_X12_158 rfl rfl vi_12_0 dX12_define_140 rfl ?_
        refine mw_iload cx (q := 145) 2 rfl dX12_define_143 rfl ?_
        refine mw_iload_n cx (q := 146) 4 rfl rfl dX12_define_145 rfl ?_
        refine mw_iastC cx (q := 147) (fun _ => rfl) (by decide) vi_12_55 (by (try simp only [vp_in_iff, i32lt, i32le, i32eq, i32add, i32sub, i32mul, i32neg, t32_0, t32_8] at jv4_0 jv4_1 h8 ⊢); omega) (by decide) dX12_define_146 rfl (fun m25 em25 => ?_)
        have ok26 : OkT (M 12) m25 := (by rw [em25]; exact okT_g55 ok24 hsv)
        refine mw_aload_n cx (q := 148) 3 rfl rfl dX12_define_147 rfl ?_
        refine mw_get cx (q := 151) (v := .ref (ad 12 56 0)) gf_X12_161 rfl rfl vi_12_0 dX12_define_148 rfl ?_
        refine mw_iload cx (q := 153) 2 rfl dX12_define_151 rfl ?_
        refine mw_aload_n cx (q := 154) 3 rfl rfl dX12_define_153 rfl ?_
        refine mw_iload_n cx (q := 155) 4 rfl rfl dX12_define_154 rfl ?_
        refine mw_iload cx (q := 157) 1 rfl dX12_define_155 rfl ?_
        refine mw_bnd (fun r27 er27 => ?_)
        refine mw_callV cx (q := 160) (d := 3) (As := [.int v1, .int r9]) (z := fip (uW M 12 m25) r27) (st := [.int v4, .ref (ad 12 56 0)]) (st1 := [.int r27, .int v4, .ref (ad 12 56 0)]) (M' := (uW M 12 m25)) (by rw [er27]; exact mc_X12_following l D ta ad (uW M 12 m25) v1 r9 (ok26.1) hsv (Tx12.fr ok26.2 hTv) (Ix12.fr ok26.2 hLr)) cv_X12_201 rfl rfl rfl vi_12_0 ⟨Nat.le_of_ble_eq_true rfl, Nat.le_of_ble_eq_true rfl⟩ ⟨Nat.le_refl _, Nat.le_refl _⟩ (by simp [Value.category]) rfl rfl rfl dX12_define_157 rfl ?_
        have qr270 : Nx12 m25 v1 r27 := (by rw [er27]; exact following_n (ok26.1) hsv (Tx12.fr ok26.2 hTv) (Ix12.fr ok26.2 hLr))
        refine mw_iastC cx (q := 161) (fun _ => rfl) (by decide) vi_12_56 (by (try simp only [vp_in_iff, i32lt, i32le, i32eq, i32add, i32sub, i32mul, i32neg, t32_0, t32_8] at jv4_0 jv4_1 h8 ⊢); omega) (by decide) dX12_define_160 rfl (fun m28 em28 => ?_)
        have ok29 : OkT (M 12) m28 := (by rw [em28]; exact okT_putA ok26 (by decide))
        refine mw_aload_n cx (q := 162) 3 rfl rfl dX12_define_161 rfl ?_
        refine mw_dup cx (q := 163) dX12_define_162 rfl rfl ?_
        refine mw_get cx (q := 166) (v := .int (y20.2 0 0 50)) gf_X12_214 rfl (by rw [em28, em25, em23, em21]; rfl) vi_12_0 dX12_define_163 rfl ?_
        refine mw_iload cx (q := 168) 2 rfl dX12_define_166 rfl ?_
        refine mw_aload_n cx (q := 169) 3 rfl rfl dX12_define_168 rfl ?_
        refine mw_get cx (q := 172) (v := .int (y20.2 0 0 50)) gf_X12_214 rfl (by rw [em28, em25, em23, em21]; rfl) vi_12_0 dX12_define_169 rfl ?_
        refine mw_jnP (P := fun (v30 : Bool) => (v30 = true → (y20.2 0 0 50).toInt ≤ 7)) (Mj := fun (v30 : Bool) => (uW M 12 m28)) (pj := 180) (lj := fun (v30 : Bool) => [(0, .ref (ad 12 0 0))]) (sj := fun (v30 : Bool) => [.int (b2i v30), .int (y20.2 0 0 50), .ref (ad 12 0 0)]) (fun v30 jv30 => ?_) (fun K31 hK31 => ?_)
        · have jv30_0 := jv30
          refine mw_iadd cx (q := 181) dX12_define_180 rfl ?_
          refine mw_putC cx (q := 184) 50 gf_X12_214 pf_X12_50 (int_fit _) rfl (Nat.le_of_ble_eq_true rfl) rfl vi_12_0 (by decide) dX12_define_181 rfl (fun m33 em33 => ?_)
          have ok34 : OkT (M 12) m33 := (by rw [em33]; exact okT_s50 ok29 (fn_inc (Ok12.f0 (show OkT (M 12) _ by assumption).1) (Ok12.f1 (show OkT (M 12) _ by assumption).1) (by assumption)))
          refine mw_aload_n cx (q := 185) 0 rfl rfl dX12_define_184 rfl ?_
          refine mw_iconst cx (q := 186) (v := 0) dX12_define_185 rfl rfl ?_
          refine mw_bnd (fun r35 er35 => ?_)
          refine mw_callV cx (q := 189) (d := 0) (As := [.int 0]) (z := fvc (uW M 12 m33) 12 r35) (st := []) (st1 := []) (M' := uW M 12 r35) (by rw [er35]; exact mc_X12_finish l D ta ad (uW M 12 m33) 0) cv_X12_330 rfl rfl rfl vi_12_0 ⟨Nat.le_of_ble_eq_true rfl, Nat.le_of_ble_eq_true rfl⟩ ⟨Nat.le_refl _, Nat.le_refl _⟩ (by simp [Value.category]) rfl rfl (by exact uW_uW _ _ _ _) dX12_define_186 rfl ?_
          exact mw_vret cx hr rfl dX12_define_189
        · refine mw_icmp_ne cx (tgt := 179) (q := 175) dX12_define_172 (by decide) rfl (fun h32 => ?_) (fun h32 => ?_)
          · refine mw_iconst cx (q := 180) (v := 0) dX12_define_179 rfl rfl ?_
            refine mw_sub [3] rfl ?_
            exact hK31 false (by intro hz; first | exact absurd hz (by decide) | exact (by (try simp only [vp_in_iff, i32lt, i32le, i32eq, i32add, i32sub, i32mul, i32neg, t32_0, t32_1, t32_3, t32_7, t32_8, t32_31, t32_32, t32_35, t32_50] at jy20_2 ok22 ok24 ok26 qr270 ok29 h32 hT hF hL hC ok0 ev1 hsv hTv hFv hLv hCv hff jv4_0 jv4_1 h8 qr90 hLr hCr qr100 hCn hok hp1 qr30 ⊢); omega))
          · refine mw_iconst cx (q := 176) (v := 1) dX12_define_175 rfl rfl ?_
            refine mw_goto cx (tgt := 180) dX12_define_176 (by decide) ?_
            refine mw_sub [3] rfl ?_
            exact hK31 true (by intro hz; first | exact absurd hz (by decide) | exact (by (try simp only [vp_in_iff, i32lt, i32le, i32eq, i32add, i32sub, i32mul, i32neg, t32_0, t32_1, t32_3, t32_7, t32_8, t32_31, t32_32, t32_35, t32_50] at jy20_2 ok22 ok24 ok26 qr270 ok29 h32 hT hF hL hC ok0 ev1 hsv hTv hFv hLv hCv hff jv4_0 jv4_1 h8 qr90 hLr hCr qr100 hCn hok hp1 qr30 ⊢); omega))
      · refine mw_sub [0, 1, 2, 3, 4, 6, 7] rfl ?_
        refine mw_loop (F := f12_define_lp82 v1 v4 K12) (I := fun (x11 : Int32 × Int32 × Cm) => (Nx12 (M 12) v1 x11.1) ∧ (0 ≤ (x11.2.1).toInt) ∧ ((x11.2.1).toInt + (CN12 (M 12) v1 x11.1 : Int) ≤ 3) ∧ (OkT (M 12) x11.2.2)) (μ := fun (x11 : Int32 × Int32 × Cm) => mu12 (x11.1)) (Mx := fun (x11 : Int32 × Int32 × Cm) => (uW M 12 x11.2.2)) (px := 82) (lx := fun (x11 : Int32 × Int32 × Cm) => [(7, .int x11.1), (6, .int x11.2.1), (5, .int r9), (4, .int v4), (0, .ref (ad 12 0 0)), (2, .int v1), (3, .int r2)]) (fun n13 x11 ivx11 ih => ?_) 123 (r10, 0, (M 12)) ⟨qr100, (by (try simp only [vp_in_iff, i32lt, i32le, i32eq, i32add, i32sub, i32mul, i32neg, t32_0, t32_1, t32_3, t32_8, t32_31, t32_32, t32_35] at hCn hT hF hL hC ok0 ev1 hsv hTv hFv hLv hCv hff qr90 hLr hCr qr100 hok hp1 qr30 ⊢); omega), (hCn), ok0⟩ (mu12_le qr100)
        obtain ⟨ivx11_0, ivx11_1, ivx11_2, ivx11_3⟩ := ivx11
        refine mw_eqS (f12_define_lp82_s v1 v4 K12 n13 x11) ?_
        refine mw_iload cx (q := 84) 0 rfl dX12_define_82 rfl ?_
        refine mw_iconst cx (q := 85) (v := (-1)) dX12_define_84 rfl rfl ?_
        refine mw_icmp_eq cx (tgt := 122) (q := 88) dX12_define_85 (by decide) rfl (fun h14 => ?_) (fun h14 => ?_)
        · refine mw_sub [1, 2, 3, 4, 5, 6] rfl ?_
          exact hK12 (x11.2.1, x11.2.2) ⟨ivx11_1, (by (try simp only [vp_in_iff, i32lt, i32le, i32eq, i32add, i32sub, i32mul, i32neg, t32_0, t32_1, t32_3, t32_8, t32_31, t32_32, t32_35] at ivx11_1 ivx11_2 ivx11_3 h14 hT hF hL hC ok0 ev1 hsv hTv hFv hLv hCv hff qr90 hLr hCr qr100 hCn ivx11_0 hok hp1 qr30 ⊢); omega), ivx11_3⟩
        · refine mw_aload_n cx (q := 89) 4 rfl rfl dX12_define_88 rfl ?_
          refine mw_get cx (q := 92) (v := .ref (ad 12 54 0)) gf_X12_155 rfl rfl vi_12_0 dX12_define_89 rfl ?_
          refine mw_iconst cx (q := 93) (v := 3) dX12_define_92 rfl rfl ?_
          refine mw_iload cx (q := 95) 3 rfl dX12_define_93 rfl ?_
          refine mw_imul cx (q := 96) dX12_define_95 rfl ?_
          refine mw_iload cx (q := 98) 1 rfl dX12_define_96 rfl ?_
          refine mw_iadd cx (q := 99) dX12_define_98 rfl ?_
          refine mw_aload_n cx (q := 100) 4 rfl rfl dX12_define_99 rfl ?_
          refine mw_iload_n cx (q := 101) 5 rfl rfl dX12_define_100 rfl ?_
          refine mw_iload cx (q := 103) 0 rfl dX12_define_101 rfl ?_
          refine mw_bnd (fun r15 er15 => ?_)
          refine mw_callV cx (q := 106) (d := 2) (As := [.int v1, .int x11.1]) (z := fip (uW M 12 x11.2.2) r15) (st := [.int ((3 * v4) + x11.2.1), .ref (ad 12 54 0)]) (st1 := [.int r15, .int ((3 * v4) + x11.2.1), .ref (ad 12 54 0)]) (M' := (uW M 12 x11.2.2)) (by rw [er15]; exact mc_X12_nameAt l D ta ad (uW M 12 x11.2.2) v1 x11.1 (ivx11_3.1) hsv (Ix12.fr ivx11_3.2 (ivx11_0.resolve_left h14))) cv_X12_211 rfl rfl rfl vi_12_0 ⟨Nat.le_of_ble_eq_true rfl, Nat.le_of_ble_eq_true rfl⟩ ⟨Nat.le_refl _, Nat.le_refl _⟩ (by simp [Value.category]) rfl rfl rfl dX12_define_103 rfl ?_
          refine mw_iastC cx (q := 107) (fun _ => rfl) (by decide) vi_12_54 (idx3_24 (by (try simp only [vp_in_iff, i32lt, i32le, i32eq, i32add, i32sub, i32mul, i32neg, t32_0, t32_8] at jv4_0 jv4_1 h8 ⊢); omega) (by have hc := CN12_s hok hsv hTv (ivx11_0.resolve_left (by assumption)); have h0 := ivx11_1; have h1 := ivx11_2; rw [vp_in_iff]; omega)) (by decide) dX12_define_106 rfl (fun m16 em16 => ?_)
          have ok17 : OkT (M 12) m16 := (by rw [em16]; exact okT_putA ivx11_3 (by decide))
          refine mw_bnd (fun v18 ev18 => ?_)
          refine mw_iinc cx (q := 110) (v := v18) (lv' := [(6, .int v18), (7, .int x11.1), (5, .int r9), (4, .int v4), (0, .ref (ad 12 0 0)), (2, .int v1), (3, .int r2)]) 1 rfl (by rw [ev18]; rfl) rfl (by decide) dX12_define_107 rfl ?_
          refine mw_aload_n cx (q := 111) 4 rfl rfl dX12_define_110 rfl ?_
          refine mw_iload_n cx (q := 112) 5 rfl rfl dX12_define_111 rfl ?_
          refine mw_iload cx (q := 114) 1 rfl dX12_define_112 rfl ?_
          refine mw_bnd (fun r19 er19 => ?_)
          refine mw_callV cx (q := 117) (d := 3) (As := [.int v1, .int x11.1]) (z := fip (uW M 12 m16) r19) (st := []) (st1 := [.int r19]) (M' := (uW M 12 m16)) (by rw [er19]; exact mc_X12_following l D ta ad (uW M 12 m16) v1 x11.1 (ok17.1) hsv (Tx12.fr ok17.2 hTv) (Ix12.fr ok17.2 (ivx11_0.resolve_left h14))) cv_X12_201 rfl rfl rfl vi_12_0 ⟨Nat.le_of_ble_eq_true rfl, Nat.le_of_ble_eq_true rfl⟩ ⟨Nat.le_refl _, Nat.le_refl _⟩ (by simp [Value.category]) rfl rfl rfl dX12_define_114 rfl ?_
          have qr190 : Nx12 m16 v1 r19 := (by rw [er19]; exact following_n (ok17.1) hsv (Tx12.fr ok17.2 hTv) (Ix12.fr ok17.2 (ivx11_0.resolve_left h14)))
          refine mw_istore cx (q := 119) (lv' := [(7, .int r19), (6, .int v18), (5, .int r9), (4, .int v4), (0, .ref (ad 12 0 0)), (2, .int v1), (3, .int r2)]) rfl (by decide) dX12_define_117 rfl ?_
          refine mw_goto cx (tgt := 82) dX12_define_119 (by decide) ?_
          exact ih (r19, v18, m16) ⟨(by rw [er19, following_fr ok17.2]; exact following_n hok hsv hTv (ivx11_0.resolve_left (by assumption))), (by have h0 := ivx11_1; have h1 := ivx11_2; rw [ev18, inc_t h0 (by omega)]; omega), (by have hc := CN12_s hok hsv hTv (ivx11_0.resolve_left (by assumption)); have h0 := ivx11_1; have h1 := ivx11_2; rw [ev18, inc_t h0 (by omega), er19, following_fr ok17.2]; dsimp only; omega), ok17⟩ (by rw [er19, following_fr ok17.2]; exact mu12_lt hok hsv hTv (ivx11_0.resolve_left (by assumption)))
    · refine mw_aload_n cx (q := 50) 1 rfl rfl dX12_define_49 rfl ?_
      refine mw_iconst cx (q := 51) (v := 2) dX12_define_50 rfl rfl ?_
      refine mw_putC cx (q := 54) 63 gf_X12_257 pf_X12_63 (int_fit _) rfl (Nat.le_of_ble_eq_true rfl) rfl vi_12_0 (by decide) dX12_define_51 rfl (fun m36 em36 => ?_)
      have ok37 : OkT (M 12) m36 := (by rw [em36]; exact okT_put0 ok0 (by decide))
      exact mw_vret cx hr rfl dX12_define_54
  · refine mw_icmp_ne cx (tgt := 35) (q := 28) dX12_define_25 (by decide) rfl (fun h6 => ?_) (fun h6 => ?_)
    · refine mw_aload_n cx (q := 36) 2 rfl rfl dX12_define_35 rfl ?_
      refine mw_iload_n cx (q := 37) 0 rfl rfl dX12_define_36 rfl ?_
      refine mw_bnd (fun r7 er7 => ?_)
      refine mw_callV cx (q := 40) (d := 0) (As := [.int r2]) (z := fip (uW M 12 (M 12)) r7) (st := []) (st1 := [.int r7]) (M' := (uW M 12 (M 12))) (by rw [er7]; exact mc_X12_functionOf l D ta ad (uW M 12 (M 12)) r2 (ok0.1)) cv_X12_283 rfl rfl rfl vi_12_0 ⟨Nat.le_of_ble_eq_true rfl, Nat.le_of_ble_eq_true rfl⟩ ⟨Nat.le_refl _, Nat.le_refl _⟩ (by simp [Value.category]) rfl rfl rfl dX12_define_37 rfl ?_
      have qr70 : ¬ r7 = (-1) → vp_in r7 8 := (by rw [er7]; exact functionOf_in ok0.1)
      have hf2 : vp_in r7 8 := (by rw [er7]; exact hff (by assumption))
      refine mw_sub [2, 3, 1, 0] rfl ?_
      exact hK5 r7 ⟨(by (try simp only [vp_in_iff, i32lt, i32le, i32eq, i32add, i32sub, i32mul, i32neg, t32_0, t32_1, t32_8] at qr70 hf2 ⊢); omega), (by (try simp only [vp_in_iff, i32lt, i32le, i32eq, i32add, i32sub, i32mul, i32neg, t32_1, t32_8] at qr70 hf2 ⊢); omega)⟩
    · refine mw_aload_n cx (q := 29) 2 rfl rfl dX12_define_28 rfl ?_
      refine mw_get cx (q := 32) (v := .int ((M 12) 0 0 50)) gf_X12_214 rfl rfl vi_12_0 dX12_define_29 rfl ?_
      refine mw_goto cx (tgt := 40) dX12_define_32 (by decide) ?_
      refine mw_sub [2, 3, 1, 0] rfl ?_
      exact hK5 ((M 12) 0 0 50) ⟨(by (try simp only [vp_in_iff, i32lt, i32le, i32eq, i32add, i32sub, i32mul, i32neg, t32_0, t32_8, t32_50] at u_f0 u_f1 ⊢); omega), (by (try simp only [vp_in_iff, i32lt, i32le, i32eq, i32add, i32sub, i32mul, i32neg, t32_0, t32_8, t32_50] at u_f0 u_f1 ⊢); omega)⟩
def f12_tell (m : Cm) (p1 : Int32) : Cm := if (m 32 0 p1) = 17 then bnd (f12_define m p1) (fun (r13 : Cm) => r13) else if (m 33 0 p1) = 0 then bnd (f12_following m (m 31 0 p1) (m 35 0 p1)) (fun (r11 : Int32) => bnd (f12_valueNext m p1 r11) (fun (r12 : Cm) => r12)) else bnd (f12_nameAt m (m 31 0 p1) (m 35 0 p1)) (fun (r3 : Int32) => bnd (f12_bindingOf m r3) (fun (r4 : Int32) => if r4 = (-1) then bnd (u3 m 0 0 63 3) (fun (m9 : Cm) => m9) else bnd (u3 m 48 0 r4 (m 0 0 62)) (fun (m6 : Cm) => bnd (f12_finish m6 (m 0 0 62)) (fun (r8 : Cm) => r8))))
set_option maxHeartbeats 4000000 in
set_option maxRecDepth 100000 in
theorem mc_X12_tell (l : Launch) (D : va_G) (ta : wTa) (ad : wAd) (M : Wm) (p1 : Int32) (hok : Ok12 (M 12)) (hp1 : vp_in p1 32) (hT : Tx12 (M 12) ((M 12) 31 0 p1)) (hF : Ix12 (M 12) ((M 12) 31 0 p1) ((M 12) 35 0 p1)) (hD : ((M 12) 32 0 p1) = 17 → Ix12 (M 12) ((M 12) 31 0 p1) (f12_following (M 12) ((M 12) 31 0 p1) ((M 12) 35 0 p1)) ∧ CN12 (M 12) ((M 12) 31 0 p1) (f12_nextAt (M 12) ((M 12) 31 0 p1) ((f12_following (M 12) ((M 12) 31 0 p1) ((M 12) 35 0 p1)) + 1)) ≤ 3) : MC l D ta ad yX12_tell cX12_tell 3 none 5 [.ref (ad 12 0 0), .int p1] M (fvc M 12 (f12_tell (M 12) p1)) := by
  refine MC.of (fvc M 12) (f12_tell (M 12) p1) rfl (by decide) (Nat.le_of_ble_eq_true rfl) (fun p e s m args below meth c cx hr => ?_)
  unfold f12_tell
  refine mw_sub (lv' := [(0, .ref (ad 12 0 0)), (1, .int p1)]) [0, 1] rfl ?_
  refine mw_eqM (uW_self M 12) ?_
  have ok0 : OkT (M 12) (M 12) := ⟨hok, rfl, rfl⟩
  refine mw_aload_n cx (q := 1) 0 rfl rfl dX12_tell_0 rfl ?_
  refine mw_get cx (q := 4) (v := .ref (ad 12 32 0)) gf_X12_101 rfl rfl vi_12_0 dX12_tell_1 rfl ?_
  refine mw_iload_n cx (q := 5) 1 rfl rfl dX12_tell_4 rfl ?_
  refine mw_iald cx (q := 6) (w := ((M 12) 32 0 p1)) rfl (fun _ => rfl) vi_12_32 hp1 dX12_tell_5 rfl ?_
  refine mw_bipush cx (q := 8) (v := 17) dX12_tell_6 rfl rfl ?_
  refine mw_icmp_ne cx (tgt := 19) (q := 11) dX12_tell_8 (by decide) rfl (fun h1 => ?_) (fun h1 => ?_)
  · refine mw_aload_n cx (q := 20) 0 rfl rfl dX12_tell_19 rfl ?_
    refine mw_get cx (q := 23) (v := .ref (ad 12 33 0)) gf_X12_104 rfl rfl vi_12_0 dX12_tell_20 rfl ?_
    refine mw_iload_n cx (q := 24) 1 rfl rfl dX12_tell_23 rfl ?_
    refine mw_iald cx (q := 25) (w := ((M 12) 33 0 p1)) rfl (fun _ => rfl) vi_12_33 hp1 dX12_tell_24 rfl ?_
    refine mw_if_ne cx (tgt := 52) (q := 28) dX12_tell_25 (by decide) rfl (fun h2 => ?_) (fun h2 => ?_)
    · refine mw_aload_n cx (q := 53) 0 rfl rfl dX12_tell_52 rfl ?_
      refine mw_aload_n cx (q := 54) 0 rfl rfl dX12_tell_53 rfl ?_
      refine mw_aload_n cx (q := 55) 0 rfl rfl dX12_tell_54 rfl ?_
      refine mw_get cx (q := 58) (v := .ref (ad 12 31 0)) gf_X12_98 rfl rfl vi_12_0 dX12_tell_55 rfl ?_
      refine mw_iload_n cx (q := 59) 1 rfl rfl dX12_tell_58 rfl ?_
      refine mw_iald cx (q := 60) (w := ((M 12) 31 0 p1)) rfl (fun _ => rfl) vi_12_31 hp1 dX12_tell_59 rfl ?_
      refine mw_aload_n cx (q := 61) 0 rfl rfl dX12_tell_60 rfl ?_
      refine mw_get cx (q := 64) (v := .ref (ad 12 35 0)) gf_X12_110 rfl rfl vi_12_0 dX12_tell_61 rfl ?_
      refine mw_iload_n cx (q := 65) 1 rfl rfl dX12_tell_64 rfl ?_
      refine mw_iald cx (q := 66) (w := ((M 12) 35 0 p1)) rfl (fun _ => rfl) vi_12_35 hp1 dX12_tell_65 rfl ?_
      refine mw_bnd (fun r3 er3 => ?_)
      refine mw_callV cx (q := 69) (d := 2) (As := [.int ((M 12) 31 0 p1), .int ((M 12) 35 0 p1)]) (z := fip (uW M 12 (M 12)) r3) (st := [.ref (ad 12 0 0)]) (st1 := [.int r3, .ref (ad 12 0 0)]) (M' := (uW M 12 (M 12))) (by rw [er3]; exact mc_X12_nameAt l D ta ad (uW M 12 (M 12)) ((M 12) 31 0 p1) ((M 12) 35 0 p1) (ok0.1) (ok0.1.pS _ hp1) hF) cv_X12_211 rfl rfl rfl vi_12_0 ⟨Nat.le_of_ble_eq_true rfl, Nat.le_of_ble_eq_true rfl⟩ ⟨Nat.le_refl _, Nat.le_refl _⟩ (by simp [Value.category]) rfl rfl rfl dX12_tell_66 rfl ?_
      refine mw_bnd (fun r4 er4 => ?_)
      refine mw_callV cx (q := 72) (d := 0) (As := [.int r3]) (z := fip (uW M 12 (M 12)) r4) (st := []) (st1 := [.int r4]) (M' := (uW M 12 (M 12))) (by rw [er4]; exact mc_X12_bindingOf l D ta ad (uW M 12 (M 12)) r3 (ok0.1)) cv_X12_254 rfl rfl rfl vi_12_0 ⟨Nat.le_of_ble_eq_true rfl, Nat.le_of_ble_eq_true rfl⟩ ⟨Nat.le_refl _, Nat.le_refl _⟩ (by simp [Value.category]) rfl rfl rfl dX12_tell_69 rfl ?_
      have qr40 : ¬ r4 = (-1) → vp_in r4 100 := (by rw [er4]; exact bindingOf_in ok0.1)
      refine mw_istore_n cx (q := 73) (lv' := [(2, .int r4), (0, .ref (ad 12 0 0)), (1, .int p1)]) rfl rfl (by decide) dX12_tell_72 rfl ?_
      refine mw_iload_n cx (q := 74) 0 rfl rfl dX12_tell_73 rfl ?_
      refine mw_iconst cx (q := 75) (v := (-1)) dX12_tell_74 rfl rfl ?_
      refine mw_icmp_ne cx (tgt := 86) (q := 78) dX12_tell_75 (by decide) rfl (fun h5 => ?_) (fun h5 => ?_)
      · refine mw_aload_n cx (q := 87) 1 rfl rfl dX12_tell_86 rfl ?_
        refine mw_get cx (q := 90) (v := .ref (ad 12 48 0)) gf_X12_146 rfl rfl vi_12_0 dX12_tell_87 rfl ?_
        refine mw_iload_n cx (q := 91) 0 rfl rfl dX12_tell_90 rfl ?_
        refine mw_aload_n cx (q := 92) 1 rfl rfl dX12_tell_91 rfl ?_
        refine mw_get cx (q := 95) (v := .int ((M 12) 0 0 62)) gf_X12_232 rfl rfl vi_12_0 dX12_tell_92 rfl ?_
        refine mw_iastC cx (q := 96) (fun _ => rfl) (by decide) vi_12_48 (qr40 h5) (by decide) dX12_tell_95 rfl (fun m6 em6 => ?_)
        have ok7 : OkT (M 12) m6 := (by rw [em6]; exact okT_putA ok0 (by decide))
        refine mw_aload_n cx (q := 97) 1 rfl rfl dX12_tell_96 rfl ?_
        refine mw_aload_n cx (q := 98) 1 rfl rfl dX12_tell_97 rfl ?_
        refine mw_get cx (q := 101) (v := .int ((M 12) 0 0 62)) gf_X12_232 rfl (by rw [em6]; rfl) vi_12_0 dX12_tell_98 rfl ?_
        refine mw_bnd (fun r8 er8 => ?_)
        refine mw_callV cx (q := 104) (d := 0) (As := [.int ((M 12) 0 0 62)]) (z := fvc (uW M 12 m6) 12 r8) (st := []) (st1 := []) (M' := uW M 12 r8) (by rw [er8]; exact mc_X12_finish l D ta ad (uW M 12 m6) ((M 12) 0 0 62)) cv_X12_330 rfl rfl rfl vi_12_0 ⟨Nat.le_of_ble_eq_true rfl, Nat.le_of_ble_eq_true rfl⟩ ⟨Nat.le_refl _, Nat.le_refl _⟩ (by simp [Value.category]) rfl rfl (by exact uW_uW _ _ _ _) dX12_tell_101 rfl ?_
        exact mw_vret cx hr rfl dX12_tell_104
      · refine mw_aload_n cx (q := 79) 1 rfl rfl dX12_tell_78 rfl ?_
        refine mw_iconst cx (q := 80) (v := 3) dX12_tell_79 rfl rfl ?_
        refine mw_putC cx (q := 83) 63 gf_X12_257 pf_X12_63 (int_fit _) rfl (Nat.le_of_ble_eq_true rfl) rfl vi_12_0 (by decide) dX12_tell_80 rfl (fun m9 em9 => ?_)
        have ok10 : OkT (M 12) m9 := (by rw [em9]; exact okT_put0 ok0 (by decide))
        refine mw_goto cx (tgt := 104) dX12_tell_83 (by decide) ?_
        exact mw_vret cx hr rfl dX12_tell_104
    · refine mw_aload_n cx (q := 29) 0 rfl rfl dX12_tell_28 rfl ?_
      refine mw_iload_n cx (q := 30) 1 rfl rfl dX12_tell_29 rfl ?_
      refine mw_aload_n cx (q := 31) 0 rfl rfl dX12_tell_30 rfl ?_
      refine mw_aload_n cx (q := 32) 0 rfl rfl dX12_tell_31 rfl ?_
      refine mw_get cx (q := 35) (v := .ref (ad 12 31 0)) gf_X12_98 rfl rfl vi_12_0 dX12_tell_32 rfl ?_
      refine mw_iload_n cx (q := 36) 1 rfl rfl dX12_tell_35 rfl ?_
      refine mw_iald cx (q := 37) (w := ((M 12) 31 0 p1)) rfl (fun _ => rfl) vi_12_31 hp1 dX12_tell_36 rfl ?_
      refine mw_aload_n cx (q := 38) 0 rfl rfl dX12_tell_37 rfl ?_
      refine mw_get cx (q := 41) (v := .ref (ad 12 35 0)) gf_X12_110 rfl rfl vi_12_0 dX12_tell_38 rfl ?_
      refine mw_iload_n cx (q := 42) 1 rfl rfl dX12_tell_41 rfl ?_
      refine mw_iald cx (q := 43) (w := ((M 12) 35 0 p1)) rfl (fun _ => rfl) vi_12_35 hp1 dX12_tell_42 rfl ?_
      refine mw_bnd (fun r11 er11 => ?_)
      refine mw_callV cx (q := 46) (d := 3) (As := [.int ((M 12) 31 0 p1), .int ((M 12) 35 0 p1)]) (z := fip (uW M 12 (M 12)) r11) (st := [.int p1, .ref (ad 12 0 0)]) (st1 := [.int r11, .int p1, .ref (ad 12 0 0)]) (M' := (uW M 12 (M 12))) (by rw [er11]; exact mc_X12_following l D ta ad (uW M 12 (M 12)) ((M 12) 31 0 p1) ((M 12) 35 0 p1) (ok0.1) (ok0.1.pS _ hp1) hT hF) cv_X12_201 rfl rfl rfl vi_12_0 ⟨Nat.le_of_ble_eq_true rfl, Nat.le_of_ble_eq_true rfl⟩ ⟨Nat.le_refl _, Nat.le_refl _⟩ (by simp [Value.category]) rfl rfl rfl dX12_tell_43 rfl ?_
      have qr110 : Nx12 (M 12) ((M 12) 31 0 p1) r11 := (by rw [er11]; exact following_n (ok0.1) (ok0.1.pS _ hp1) hT hF)
      refine mw_bnd (fun r12 er12 => ?_)
      refine mw_callV cx (q := 49) (d := 0) (As := [.int p1, .int r11]) (z := fvc (uW M 12 (M 12)) 12 r12) (st := []) (st1 := []) (M' := uW M 12 r12) (by rw [er12]; exact mc_X12_valueNext l D ta ad (uW M 12 (M 12)) p1 r11 hp1) cv_X12_323 rfl rfl rfl vi_12_0 ⟨Nat.le_of_ble_eq_true rfl, Nat.le_of_ble_eq_true rfl⟩ ⟨Nat.le_refl _, Nat.le_refl _⟩ (by simp [Value.category]) rfl rfl (by exact uW_uW _ _ _ _) dX12_tell_46 rfl ?_
      refine mw_goto cx (tgt := 104) dX12_tell_49 (by decide) ?_
      exact mw_vret cx hr rfl dX12_tell_104
  · refine mw_aload_n cx (q := 12) 0 rfl rfl dX12_tell_11 rfl ?_
    refine mw_iload_n cx (q := 13) 1 rfl rfl dX12_tell_12 rfl ?_
    refine mw_bnd (fun r13 er13 => ?_)
    refine mw_callV cx (q := 16) (d := 4) (As := [.int p1]) (z := fvc (uW M 12 (M 12)) 12 r13) (st := []) (st1 := []) (M' := uW M 12 r13) (by rw [er13]; exact mc_X12_define l D ta ad (uW M 12 (M 12)) p1 (ok0.1) hp1 hT hF (hD (by assumption)).1 (hD (by assumption)).2) cv_X12_336 rfl rfl rfl vi_12_0 ⟨Nat.le_of_ble_eq_true rfl, Nat.le_of_ble_eq_true rfl⟩ ⟨Nat.le_refl _, Nat.le_refl _⟩ (by simp [Value.category]) rfl rfl (by exact uW_uW _ _ _ _) dX12_tell_13 rfl ?_
    refine mw_goto cx (tgt := 104) dX12_tell_16 (by decide) ?_
    exact mw_vret cx hr rfl dX12_tell_104
theorem mv_in {m : Cm} (hk : Ok12 m) (h : ¬ m 0 0 21 = 3000) : vp_in (m 0 0 21) 3000 := by
  have h0 := hk.m0; have h1 := hk.m1
  simp only [i32eq, t32_3000] at h
  rw [vp_in_iff]; omega
def f12_move (m : Cm) (p1 : Int32) (p2 : Int32) (p3 : Int32) (p4 : Int32) : Cm := bnd ((m 4 0 ((8 * p1) + p3))) (fun (v1 : Int32) => jn (fun (v2 : Int32) => if v2 ≤ 0 then jn (fun (v7 : Cm) => bnd (f12_finish v7 v2) (fun (r18 : Cm) => r18)) (fun K8 => if v2 ≤ 0 then K8 m else bnd (u3 m 4 0 ((8 * p1) + p3) ((m 4 0 ((8 * p1) + p3)) - v2)) (fun (m10 : Cm) => bnd (u3 m10 4 0 ((8 * p2) + p3) ((m10 4 0 ((8 * p2) + p3)) + v2)) (fun (m11 : Cm) => bnd (u3 m11 23 0 (m 0 0 21) p1) (fun (m12 : Cm) => bnd (u3 m12 24 0 (m 0 0 21) p2) (fun (m13 : Cm) => bnd (u3 m13 25 0 (m 0 0 21) p3) (fun (m14 : Cm) => bnd (u3 m14 26 0 (m 0 0 21) v2) (fun (m15 : Cm) => bnd (u3 m15 27 0 (m 0 0 21) (m 0 0 56)) (fun (m16 : Cm) => bnd (u3 m16 0 0 21 ((m 0 0 21) + 1)) (fun (m17 : Cm) => K8 m17))))))))) else if (m 0 0 21) = 3000 then bnd (u3 m 0 0 63 2) (fun (m32 : Cm) => m32) else jn (fun (v20 : Cm) => bnd (f12_finish v20 v2) (fun (r31 : Cm) => r31)) (fun K21 => if v2 ≤ 0 then K21 m else bnd (u3 m 4 0 ((8 * p1) + p3) ((m 4 0 ((8 * p1) + p3)) - v2)) (fun (m23 : Cm) => bnd (u3 m23 4 0 ((8 * p2) + p3) ((m23 4 0 ((8 * p2) + p3)) + v2)) (fun (m24 : Cm) => bnd (u3 m24 23 0 (m 0 0 21) p1) (fun (m25 : Cm) => bnd (u3 m25 24 0 (m 0 0 21) p2) (fun (m26 : Cm) => bnd (u3 m26 25 0 (m 0 0 21) p3) (fun (m27 : Cm) => bnd (u3 m27 26 0 (m 0 0 21) v2) (fun (m28 : Cm) => bnd (u3 m28 27 0 (m 0 0 21) (m 0 0 56)) (fun (m29 : Cm) => bnd (u3 m29 0 0 21 ((m 0 0 21) + 1)) (fun (m30 : Cm) => K21 m30)))))))))) (fun K3 => if p1 = p2 then K3 0 else if v1 ≤ p4 then K3 v1 else K3 p4))
set_option maxHeartbeats 4000000 in
set_option maxRecDepth 100000 in
theorem mc_X12_move (l : Launch) (D : va_G) (ta : wTa) (ad : wAd) (M : Wm) (p1 : Int32) (p2 : Int32) (p3 : Int32) (p4 : Int32) (hok : Ok12 (M 12)) (hp1 : vp_in p1 5) (hp2 : vp_in p2 5) (hp3 : vp_in p3 8) : MC l D ta ad yX12_move cX12_move 7 none 1 [.ref (ad 12 0 0), .int p1, .int p2, .int p3, .int p4] M (fvc M 12 (f12_move (M 12) p1 p2 p3 p4)) := by
  refine MC.of (fvc M 12) (f12_move (M 12) p1 p2 p3 p4) rfl (by decide) (Nat.le_of_ble_eq_true rfl) (fun p e s m args below meth c cx hr => ?_)
  unfold f12_move
  refine mw_sub (lv' := [(0, .ref (ad 12 0 0)), (1, .int p1), (2, .int p2), (3, .int p3), (4, .int p4)]) [0, 1, 2, 3, 4] rfl ?_
  refine mw_eqM (uW_self M 12) ?_
  refine mw_aload_n cx (q := 1) 0 rfl rfl dX12_move_0 rfl ?_
  refine mw_get cx (q := 4) (v := .ref (ad 12 4 0)) gf_X12_16 rfl rfl vi_12_0 dX12_move_1 rfl ?_
  refine mw_bipush cx (q := 6) (v := 8) dX12_move_4 rfl rfl ?_
  refine mw_iload_n cx (q := 7) 1 rfl rfl dX12_move_6 rfl ?_
  refine mw_imul cx (q := 8) dX12_move_7 rfl ?_
  refine mw_iload_n cx (q := 9) 3 rfl rfl dX12_move_8 rfl ?_
  refine mw_iadd cx (q := 10) dX12_move_9 rfl ?_
  refine mw_iald cx (q := 11) (w := ((M 12) 4 0 ((8 * p1) + p3))) rfl (fun _ => rfl) vi_12_4 (idx8_40 hp1 hp3) dX12_move_10 rfl ?_
  refine mw_bndT (fun v1 ev1 => ?_)
  refine mw_istore cx (q := 13) (lv' := [(5, .int v1), (0, .ref (ad 12 0 0)), (1, .int p1), (2, .int p2), (3, .int p3), (4, .int p4)]) rfl (by decide) dX12_move_11 rfl ?_
  refine mw_iload_n cx (q := 14) 2 rfl rfl dX12_move_13 rfl ?_
  refine mw_iload_n cx (q := 15) 3 rfl rfl dX12_move_14 rfl ?_
  refine mw_jn (Mj := fun (v2 : Int32) => (uW M 12 (M 12))) (pj := 36) (lj := fun (v2 : Int32) => [(0, .ref (ad 12 0 0)), (1, .int p1), (2, .int p2), (3, .int p3)]) (sj := fun (v2 : Int32) => [.int v2]) (fun v2 => ?_) (fun K3 hK3 => ?_)
  · refine mw_istore cx (q := 38) (lv' := [(6, .int v2), (0, .ref (ad 12 0 0)), (1, .int p1), (2, .int p2), (3, .int p3)]) rfl (by decide) dX12_move_36 rfl ?_
    refine mw_iload cx (q := 40) 0 rfl dX12_move_38 rfl ?_
    refine mw_if_le cx (tgt := 59) (q := 43) dX12_move_40 (by decide) rfl (fun h6 => ?_) (fun h6 => ?_)
    · refine mw_iload cx (q := 61) 0 rfl dX12_move_59 rfl ?_
      refine mw_jn (Mj := fun (v7 : Cm) => (uW M 12 v7)) (pj := 160) (lj := fun (v7 : Cm) => [(0, .ref (ad 12 0 0)), (6, .int v2)]) (sj := fun (v7 : Cm) => []) (fun v7 => ?_) (fun K8 hK8 => ?_)
      · refine mw_aload_n cx (q := 161) 0 rfl rfl dX12_move_160 rfl ?_
        refine mw_iload cx (q := 163) 1 rfl dX12_move_161 rfl ?_
        refine mw_bnd (fun r18 er18 => ?_)
        refine mw_callV cx (q := 166) (d := 0) (As := [.int v2]) (z := fvc (uW M 12 v7) 12 r18) (st := []) (st1 := []) (M' := uW M 12 r18) (by rw [er18]; exact mc_X12_finish l D ta ad (uW M 12 v7) v2) cv_X12_330 rfl rfl rfl vi_12_0 ⟨Nat.le_of_ble_eq_true rfl, Nat.le_of_ble_eq_true rfl⟩ ⟨Nat.le_refl _, Nat.le_refl _⟩ (by simp [Value.category]) rfl rfl (by exact uW_uW _ _ _ _) dX12_move_163 rfl ?_
        exact mw_vret cx hr rfl dX12_move_166
      · refine mw_if_le cx (tgt := 160) (q := 64) dX12_move_61 (by decide) rfl (fun h9 => ?_) (fun h9 => ?_)
        · refine mw_sub [1, 0] rfl ?_
          exact hK8 (M 12)
        · refine mw_aload_n cx (q := 65) 1 rfl rfl dX12_move_64 rfl ?_
          refine mw_get cx (q := 68) (v := .ref (ad 12 4 0)) gf_X12_16 rfl rfl vi_12_0 dX12_move_65 rfl ?_
          refine mw_bipush cx (q := 70) (v := 8) dX12_move_68 rfl rfl ?_
          refine mw_iload_n cx (q := 71) 2 rfl rfl dX12_move_70 rfl ?_
          refine mw_imul cx (q := 72) dX12_move_71 rfl ?_
          refine mw_iload_n cx (q := 73) 4 rfl rfl dX12_move_72 rfl ?_
          refine mw_iadd cx (q := 74) dX12_move_73 rfl ?_
          refine mw_dup2 cx (q := 75) dX12_move_74 rfl rfl rfl ?_
          refine mw_iald cx (q := 76) (w := ((M 12) 4 0 ((8 * p1) + p3))) rfl (fun _ => rfl) vi_12_4 (idx8_40 hp1 hp3) dX12_move_75 rfl ?_
          refine mw_iload cx (q := 78) 0 rfl dX12_move_76 rfl ?_
          refine mw_isub cx (q := 79) dX12_move_78 rfl ?_
          refine mw_iastC cx (q := 80) (fun _ => rfl) (by decide) vi_12_4 (idx8_40 hp1 hp3) (by decide) dX12_move_79 rfl (fun m10 em10 => ?_)
          refine mw_aload_n cx (q := 81) 1 rfl rfl dX12_move_80 rfl ?_
          refine mw_get cx (q := 84) (v := .ref (ad 12 4 0)) gf_X12_16 rfl rfl vi_12_0 dX12_move_81 rfl ?_
          refine mw_bipush cx (q := 86) (v := 8) dX12_move_84 rfl rfl ?_
          refine mw_iload_n cx (q := 87) 3 rfl rfl dX12_move_86 rfl ?_
          refine mw_imul cx (q := 88) dX12_move_87 rfl ?_
          refine mw_iload_n cx (q := 89) 4 rfl rfl dX12_move_88 rfl ?_
          refine mw_iadd cx (q := 90) dX12_move_89 rfl ?_
          refine mw_dup2 cx (q := 91) dX12_move_90 rfl rfl rfl ?_
          refine mw_iald cx (q := 92) (w := (m10 4 0 ((8 * p2) + p3))) rfl (fun _ => rfl) vi_12_4 (idx8_40 hp2 hp3) dX12_move_91 rfl ?_
          refine mw_iload cx (q := 94) 0 rfl dX12_move_92 rfl ?_
          refine mw_iadd cx (q := 95) dX12_move_94 rfl ?_
          refine mw_iastC cx (q := 96) (fun _ => rfl) (by decide) vi_12_4 (idx8_40 hp2 hp3) (by decide) dX12_move_95 rfl (fun m11 em11 => ?_)
          refine mw_aload_n cx (q := 97) 1 rfl rfl dX12_move_96 rfl ?_
          refine mw_get cx (q := 100) (v := .ref (ad 12 23 0)) gf_X12_66 rfl rfl vi_12_0 dX12_move_97 rfl ?_
          refine mw_aload_n cx (q := 101) 1 rfl rfl dX12_move_100 rfl ?_
          refine mw_get cx (q := 104) (v := .int ((M 12) 0 0 21)) gf_X12_346 rfl (by rw [em11, em10]; rfl) vi_12_0 dX12_move_101 rfl ?_
          refine mw_iload_n cx (q := 105) 2 rfl rfl dX12_move_104 rfl ?_
          refine mw_iastC cx (q := 106) (fun _ => rfl) (by decide) vi_12_23 (by first | exact mv_in hok (by assumption) | contradiction) (by decide) dX12_move_105 rfl (fun m12 em12 => ?_)
          refine mw_aload_n cx (q := 107) 1 rfl rfl dX12_move_106 rfl ?_
          refine mw_get cx (q := 110) (v := .ref (ad 12 24 0)) gf_X12_69 rfl rfl vi_12_0 dX12_move_107 rfl ?_
          refine mw_aload_n cx (q := 111) 1 rfl rfl dX12_move_110 rfl ?_
          refine mw_get cx (q := 114) (v := .int ((M 12) 0 0 21)) gf_X12_346 rfl (by rw [em12, em11, em10]; rfl) vi_12_0 dX12_move_111 rfl ?_
          refine mw_iload_n cx (q := 115) 3 rfl rfl dX12_move_114 rfl ?_
          refine mw_iastC cx (q := 116) (fun _ => rfl) (by decide) vi_12_24 (by first | exact mv_in hok (by assumption) | contradiction) (by decide) dX12_move_115 rfl (fun m13 em13 => ?_)
          refine mw_aload_n cx (q := 117) 1 rfl rfl dX12_move_116 rfl ?_
          refine mw_get cx (q := 120) (v := .ref (ad 12 25 0)) gf_X12_72 rfl rfl vi_12_0 dX12_move_117 rfl ?_
          refine mw_aload_n cx (q := 121) 1 rfl rfl dX12_move_120 rfl ?_
          refine mw_get cx (q := 124) (v := .int ((M 12) 0 0 21)) gf_X12_346 rfl (by rw [em13, em12, em11, em10]; rfl) vi_12_0 dX12_move_121 rfl ?_
          refine mw_iload_n cx (q := 125) 4 rfl rfl dX12_move_124 rfl ?_
          refine mw_iastC cx (q := 126) (fun _ => rfl) (by decide) vi_12_25 (by first | exact mv_in hok (by assumption) | contradiction) (by decide) dX12_move_125 rfl (fun m14 em14 => ?_)
          refine mw_aload_n cx (q := 127) 1 rfl rfl dX12_move_126 rfl ?_
          refine mw_get cx (q := 130) (v := .ref (ad 12 26 0)) gf_X12_75 rfl rfl vi_12_0 dX12_move_127 rfl ?_
          refine mw_aload_n cx (q := 131) 1 rfl rfl dX12_move_130 rfl ?_
          refine mw_get cx (q := 134) (v := .int ((M 12) 0 0 21)) gf_X12_346 rfl (by rw [em14, em13, em12, em11, em10]; rfl) vi_12_0 dX12_move_131 rfl ?_
          refine mw_iload cx (q := 136) 0 rfl dX12_move_134 rfl ?_
          refine mw_iastC cx (q := 137) (fun _ => rfl) (by decide) vi_12_26 (by first | exact mv_in hok (by assumption) | contradiction) (by decide) dX12_move_136 rfl (fun m15 em15 => ?_)
          refine mw_aload_n cx (q := 138) 1 rfl rfl dX12_move_137 rfl ?_
          refine mw_get cx (q := 141) (v := .ref (ad 12 27 0)) gf_X12_78 rfl rfl vi_12_0 dX12_move_138 rfl ?_
          refine mw_aload_n cx (q := 142) 1 rfl rfl dX12_move_141 rfl ?_
          refine mw_get cx (q := 145) (v := .int ((M 12) 0 0 21)) gf_X12_346 rfl (by rw [em15, em14, em13, em12, em11, em10]; rfl) vi_12_0 dX12_move_142 rfl ?_
          refine mw_aload_n cx (q := 146) 1 rfl rfl dX12_move_145 rfl ?_
          refine mw_get cx (q := 149) (v := .int ((M 12) 0 0 56)) gf_X12_220 rfl (by rw [em15, em14, em13, em12, em11, em10]; rfl) vi_12_0 dX12_move_146 rfl ?_
          refine mw_iastC cx (q := 150) (fun _ => rfl) (by decide) vi_12_27 (by first | exact mv_in hok (by assumption) | contradiction) (by decide) dX12_move_149 rfl (fun m16 em16 => ?_)
          refine mw_aload_n cx (q := 151) 1 rfl rfl dX12_move_150 rfl ?_
          refine mw_dup cx (q := 152) dX12_move_151 rfl rfl ?_
          refine mw_get cx (q := 155) (v := .int ((M 12) 0 0 21)) gf_X12_346 rfl (by rw [em16, em15, em14, em13, em12, em11, em10]; rfl) vi_12_0 dX12_move_152 rfl ?_
          refine mw_iconst cx (q := 156) (v := 1) dX12_move_155 rfl rfl ?_
          refine mw_iadd cx (q := 157) dX12_move_156 rfl ?_
          refine mw_putC cx (q := 160) 21 gf_X12_346 pf_X12_21 (int_fit _) rfl (Nat.le_of_ble_eq_true rfl) rfl vi_12_0 (by decide) dX12_move_157 rfl (fun m17 em17 => ?_)
          refine mw_sub [1, 0] rfl ?_
          exact hK8 m17
    · refine mw_aload_n cx (q := 44) 1 rfl rfl dX12_move_43 rfl ?_
      refine mw_get cx (q := 47) (v := .int ((M 12) 0 0 21)) gf_X12_346 rfl rfl vi_12_0 dX12_move_44 rfl ?_
      refine mw_sipush cx (q := 50) (v := 3000) dX12_move_47 rfl rfl ?_
      refine mw_icmp_ne cx (tgt := 59) (q := 53) dX12_move_50 (by decide) rfl (fun h19 => ?_) (fun h19 => ?_)
      · refine mw_iload cx (q := 61) 0 rfl dX12_move_59 rfl ?_
        refine mw_jn (Mj := fun (v20 : Cm) => (uW M 12 v20)) (pj := 160) (lj := fun (v20 : Cm) => [(0, .ref (ad 12 0 0)), (6, .int v2)]) (sj := fun (v20 : Cm) => []) (fun v20 => ?_) (fun K21 hK21 => ?_)
        · refine mw_aload_n cx (q := 161) 0 rfl rfl dX12_move_160 rfl ?_
          refine mw_iload cx (q := 163) 1 rfl dX12_move_161 rfl ?_
          refine mw_bnd (fun r31 er31 => ?_)
          refine mw_callV cx (q := 166) (d := 0) (As := [.int v2]) (z := fvc (uW M 12 v20) 12 r31) (st := []) (st1 := []) (M' := uW M 12 r31) (by rw [er31]; exact mc_X12_finish l D ta ad (uW M 12 v20) v2) cv_X12_330 rfl rfl rfl vi_12_0 ⟨Nat.le_of_ble_eq_true rfl, Nat.le_of_ble_eq_true rfl⟩ ⟨Nat.le_refl _, Nat.le_refl _⟩ (by simp [Value.category]) rfl rfl (by exact uW_uW _ _ _ _) dX12_move_163 rfl ?_
          exact mw_vret cx hr rfl dX12_move_166
        · refine mw_if_le cx (tgt := 160) (q := 64) dX12_move_61 (by decide) rfl (fun h22 => ?_) (fun h22 => ?_)
          · refine mw_sub [1, 0] rfl ?_
            exact hK21 (M 12)
          · refine mw_aload_n cx (q := 65) 1 rfl rfl dX12_move_64 rfl ?_
            refine mw_get cx (q := 68) (v := .ref (ad 12 4 0)) gf_X12_16 rfl rfl vi_12_0 dX12_move_65 rfl ?_
            refine mw_bipush cx (q := 70) (v := 8) dX12_move_68 rfl rfl ?_
            refine mw_iload_n cx (q := 71) 2 rfl rfl dX12_move_70 rfl ?_
            refine mw_imul cx (q := 72) dX12_move_71 rfl ?_
            refine mw_iload_n cx (q := 73) 4 rfl rfl dX12_move_72 rfl ?_
            refine mw_iadd cx (q := 74) dX12_move_73 rfl ?_
            refine mw_dup2 cx (q := 75) dX12_move_74 rfl rfl rfl ?_
            refine mw_iald cx (q := 76) (w := ((M 12) 4 0 ((8 * p1) + p3))) rfl (fun _ => rfl) vi_12_4 (idx8_40 hp1 hp3) dX12_move_75 rfl ?_
            refine mw_iload cx (q := 78) 0 rfl dX12_move_76 rfl ?_
            refine mw_isub cx (q := 79) dX12_move_78 rfl ?_
            refine mw_iastC cx (q := 80) (fun _ => rfl) (by decide) vi_12_4 (idx8_40 hp1 hp3) (by decide) dX12_move_79 rfl (fun m23 em23 => ?_)
            refine mw_aload_n cx (q := 81) 1 rfl rfl dX12_move_80 rfl ?_
            refine mw_get cx (q := 84) (v := .ref (ad 12 4 0)) gf_X12_16 rfl rfl vi_12_0 dX12_move_81 rfl ?_
            refine mw_bipush cx (q := 86) (v := 8) dX12_move_84 rfl rfl ?_
            refine mw_iload_n cx (q := 87) 3 rfl rfl dX12_move_86 rfl ?_
            refine mw_imul cx (q := 88) dX12_move_87 rfl ?_
            refine mw_iload_n cx (q := 89) 4 rfl rfl dX12_move_88 rfl ?_
            refine mw_iadd cx (q := 90) dX12_move_89 rfl ?_
            refine mw_dup2 cx (q := 91) dX12_move_90 rfl rfl rfl ?_
            refine mw_iald cx (q := 92) (w := (m23 4 0 ((8 * p2) + p3))) rfl (fun _ => rfl) vi_12_4 (idx8_40 hp2 hp3) dX12_move_91 rfl ?_
            refine mw_iload cx (q := 94) 0 rfl dX12_move_92 rfl ?_
            refine mw_iadd cx (q := 95) dX12_move_94 rfl ?_
            refine mw_iastC cx (q := 96) (fun _ => rfl) (by decide) vi_12_4 (idx8_40 hp2 hp3) (by decide) dX12_move_95 rfl (fun m24 em24 => ?_)
            refine mw_aload_n cx (q := 97) 1 rfl rfl dX12_move_96 rfl ?_
            refine mw_get cx (q := 100) (v := .ref (ad 12 23 0)) gf_X12_66 rfl rfl vi_12_0 dX12_move_97 rfl ?_
            refine mw_aload_n cx (q := 101) 1 rfl rfl dX12_move_100 rfl ?_
            refine mw_get cx (q := 104) (v := .int ((M 12) 0 0 21)) gf_X12_346 rfl (by rw [em24, em23]; rfl) vi_12_0 dX12_move_101 rfl ?_
            refine mw_iload_n cx (q := 105) 2 rfl rfl dX12_move_104 rfl ?_
            refine mw_iastC cx (q := 106) (fun _ => rfl) (by decide) vi_12_23 (by first | exact mv_in hok (by assumption) | contradiction) (by decide) dX12_move_105 rfl (fun m25 em25 => ?_)
            refine mw_aload_n cx (q := 107) 1 rfl rfl dX12_move_106 rfl ?_
            refine mw_get cx (q := 110) (v := .ref (ad 12 24 0)) gf_X12_69 rfl rfl vi_12_0 dX12_move_107 rfl ?_
            refine mw_aload_n cx (q := 111) 1 rfl rfl dX12_move_110 rfl ?_
            refine mw_get cx (q := 114) (v := .int ((M 12) 0 0 21)) gf_X12_346 rfl (by rw [em25, em24, em23]; rfl) vi_12_0 dX12_move_111 rfl ?_
            refine mw_iload_n cx (q := 115) 3 rfl rfl dX12_move_114 rfl ?_
            refine mw_iastC cx (q := 116) (fun _ => rfl) (by decide) vi_12_24 (by first | exact mv_in hok (by assumption) | contradiction) (by decide) dX12_move_115 rfl (fun m26 em26 => ?_)
            refine mw_aload_n cx (q := 117) 1 rfl rfl dX12_move_116 rfl ?_
            refine mw_get cx (q := 120) (v := .ref (ad 12 25 0)) gf_X12_72 rfl rfl vi_12_0 dX12_move_117 rfl ?_
            refine mw_aload_n cx (q := 121) 1 rfl rfl dX12_move_120 rfl ?_
            refine mw_get cx (q := 124) (v := .int ((M 12) 0 0 21)) gf_X12_346 rfl (by rw [em26, em25, em24, em23]; rfl) vi_12_0 dX12_move_121 rfl ?_
            refine mw_iload_n cx (q := 125) 4 rfl rfl dX12_move_124 rfl ?_
            refine mw_iastC cx (q := 126) (fun _ => rfl) (by decide) vi_12_25 (by first | exact mv_in hok (by assumption) | contradiction) (by decide) dX12_move_125 rfl (fun m27 em27 => ?_)
            refine mw_aload_n cx (q := 127) 1 rfl rfl dX12_move_126 rfl ?_
            refine mw_get cx (q := 130) (v := .ref (ad 12 26 0)) gf_X12_75 rfl rfl vi_12_0 dX12_move_127 rfl ?_
            refine mw_aload_n cx (q := 131) 1 rfl rfl dX12_move_130 rfl ?_
            refine mw_get cx (q := 134) (v := .int ((M 12) 0 0 21)) gf_X12_346 rfl (by rw [em27, em26, em25, em24, em23]; rfl) vi_12_0 dX12_move_131 rfl ?_
            refine mw_iload cx (q := 136) 0 rfl dX12_move_134 rfl ?_
            refine mw_iastC cx (q := 137) (fun _ => rfl) (by decide) vi_12_26 (by first | exact mv_in hok (by assumption) | contradiction) (by decide) dX12_move_136 rfl (fun m28 em28 => ?_)
            refine mw_aload_n cx (q := 138) 1 rfl rfl dX12_move_137 rfl ?_
            refine mw_get cx (q := 141) (v := .ref (ad 12 27 0)) gf_X12_78 rfl rfl vi_12_0 dX12_move_138 rfl ?_
            refine mw_aload_n cx (q := 142) 1 rfl rfl dX12_move_141 rfl ?_
            refine mw_get cx (q := 145) (v := .int ((M 12) 0 0 21)) gf_X12_346 rfl (by rw [em28, em27, em26, em25, em24, em23]; rfl) vi_12_0 dX12_move_142 rfl ?_
            refine mw_aload_n cx (q := 146) 1 rfl rfl dX12_move_145 rfl ?_
            refine mw_get cx (q := 149) (v := .int ((M 12) 0 0 56)) gf_X12_220 rfl (by rw [em28, em27, em26, em25, em24, em23]; rfl) vi_12_0 dX12_move_146 rfl ?_
            refine mw_iastC cx (q := 150) (fun _ => rfl) (by decide) vi_12_27 (by first | exact mv_in hok (by assumption) | contradiction) (by decide) dX12_move_149 rfl (fun m29 em29 => ?_)
            refine mw_aload_n cx (q := 151) 1 rfl rfl dX12_move_150 rfl ?_
            refine mw_dup cx (q := 152) dX12_move_151 rfl rfl ?_
            refine mw_get cx (q := 155) (v := .int ((M 12) 0 0 21)) gf_X12_346 rfl (by rw [em29, em28, em27, em26, em25, em24, em23]; rfl) vi_12_0 dX12_move_152 rfl ?_
            refine mw_iconst cx (q := 156) (v := 1) dX12_move_155 rfl rfl ?_
            refine mw_iadd cx (q := 157) dX12_move_156 rfl ?_
            refine mw_putC cx (q := 160) 21 gf_X12_346 pf_X12_21 (int_fit _) rfl (Nat.le_of_ble_eq_true rfl) rfl vi_12_0 (by decide) dX12_move_157 rfl (fun m30 em30 => ?_)
            refine mw_sub [1, 0] rfl ?_
            exact hK21 m30
      · refine mw_aload_n cx (q := 54) 1 rfl rfl dX12_move_53 rfl ?_
        refine mw_iconst cx (q := 55) (v := 2) dX12_move_54 rfl rfl ?_
        refine mw_putC cx (q := 58) 63 gf_X12_257 pf_X12_63 (int_fit _) rfl (Nat.le_of_ble_eq_true rfl) rfl vi_12_0 (by decide) dX12_move_55 rfl (fun m32 em32 => ?_)
        exact mw_vret cx hr rfl dX12_move_58
  · refine mw_icmp_ne cx (tgt := 22) (q := 18) dX12_move_15 (by decide) rfl (fun h4 => ?_) (fun h4 => ?_)
    · refine mw_iload cx (q := 24) 5 rfl dX12_move_22 rfl ?_
      refine mw_iload cx (q := 26) 0 rfl dX12_move_24 rfl ?_
      refine mw_icmp_ge cx (tgt := 34) (q := 29) dX12_move_26 (by decide) rfl (fun h5 => ?_) (fun h5 => ?_)
      · refine mw_iload cx (q := 36) 0 rfl dX12_move_34 rfl ?_
        refine mw_sub [1, 2, 3, 4] rfl ?_
        exact hK3 v1
      · refine mw_iload cx (q := 31) 5 rfl dX12_move_29 rfl ?_
        refine mw_goto cx (tgt := 36) dX12_move_31 (by decide) ?_
        refine mw_sub [1, 2, 3, 4] rfl ?_
        exact hK3 p4
    · refine mw_iconst cx (q := 19) (v := 0) dX12_move_18 rfl rfl ?_
      refine mw_goto cx (tgt := 36) dX12_move_19 (by decide) ?_
      refine mw_sub [1, 2, 3, 4] rfl ?_
      exact hK3 0
def f12_trade (m : Cm) (p1 : Int32) : Cm := bnd ((m 32 0 p1)) (fun (v1 : Int32) => bnd ((m 31 0 p1)) (fun (v2 : Int32) => bnd (f12_following m v2 (m 35 0 p1)) (fun (r3 : Int32) => if (m 33 0 p1) = 0 then jn (fun (v53 : Int32) => bnd (f12_valueNext m p1 v53) (fun (r56 : Cm) => r56)) (fun K54 => if v1 = 20 then K54 (m 35 0 p1) else K54 r3) else if v1 = 20 then if (m 33 0 p1) = 1 then bnd (u3 m 36 0 p1 (m 0 0 62)) (fun (m49 : Cm) => bnd (f12_following m49 v2 r3) (fun (r51 : Int32) => bnd (f12_valueNext m49 p1 r51) (fun (r52 : Cm) => r52))) else jn (fun (v28 : Int32) => bnd (f12_goodAt m v2 v28) (fun (r31 : Int32) => jn (fun (v32 : Int32) => jn (fun (v35 : Int32) => if (m 0 0 62) < 0 then bnd (u3 m 0 0 63 6) (fun (m40 : Cm) => m40) else if v1 = 20 then bnd (f12_isCompany v35) (fun (r44 : Bool) => if r44 = true then bnd (f12_move m v32 v35 r31 (m 0 0 62)) (fun (r46 : Cm) => r46) else bnd (u3 m 0 0 63 6) (fun (m47 : Cm) => m47)) else bnd (f12_move m v32 v35 r31 (m 0 0 62)) (fun (r43 : Cm) => r43)) (fun K36 => if v1 = 18 then K36 (m 0 0 57) else if v1 = 19 then K36 4 else K36 (m 36 0 p1))) (fun K33 => if v1 = 18 then K33 4 else K33 (m 0 0 57)))) (fun K29 => if v1 = 20 then K29 r3 else K29 (m 35 0 p1)) else jn (fun (v6 : Int32) => bnd (f12_goodAt m v2 v6) (fun (r9 : Int32) => jn (fun (v10 : Int32) => jn (fun (v13 : Int32) => if (m 0 0 62) < 0 then bnd (u3 m 0 0 63 6) (fun (m18 : Cm) => m18) else if v1 = 20 then bnd (f12_isCompany v13) (fun (r22 : Bool) => if r22 = true then bnd (f12_move m v10 v13 r9 (m 0 0 62)) (fun (r24 : Cm) => r24) else bnd (u3 m 0 0 63 6) (fun (m25 : Cm) => m25)) else bnd (f12_move m v10 v13 r9 (m 0 0 62)) (fun (r21 : Cm) => r21)) (fun K14 => if v1 = 18 then K14 (m 0 0 57) else if v1 = 19 then K14 4 else K14 (m 36 0 p1))) (fun K11 => if v1 = 18 then K11 4 else K11 (m 0 0 57)))) (fun K7 => if v1 = 20 then K7 r3 else K7 (m 35 0 p1)))))
set_option maxHeartbeats 4000000 in
set_option maxRecDepth 100000 in
theorem mc_X12_trade (l : Launch) (D : va_G) (ta : wTa) (ad : wAd) (M : Wm) (p1 : Int32) (hok : Ok12 (M 12)) (hp1 : vp_in p1 32) (hT : Tx12 (M 12) ((M 12) 31 0 p1)) (hF : Ix12 (M 12) ((M 12) 31 0 p1) ((M 12) 35 0 p1)) (hO : 18 ≤ ((M 12) 32 0 p1).toInt ∧ ((M 12) 32 0 p1).toInt ≤ 20) (hS : Ix12 (M 12) ((M 12) 31 0 p1) (f12_following (M 12) ((M 12) 31 0 p1) ((M 12) 35 0 p1))) (hG1 : ((M 12) 32 0 p1) = 20 → ¬ f12_goodAt (M 12) ((M 12) 31 0 p1) (f12_following (M 12) ((M 12) 31 0 p1) ((M 12) 35 0 p1)) = (-1)) (hG2 : ¬ ((M 12) 32 0 p1) = 20 → ¬ f12_goodAt (M 12) ((M 12) 31 0 p1) ((M 12) 35 0 p1) = (-1)) : MC l D ta ad yX12_trade cX12_trade 8 none 4 [.ref (ad 12 0 0), .int p1] M (fvc M 12 (f12_trade (M 12) p1)) := by
  refine MC.of (fvc M 12) (f12_trade (M 12) p1) rfl (by decide) (Nat.le_of_ble_eq_true rfl) (fun p e s m args below meth c cx hr => ?_)
  unfold f12_trade
  refine mw_sub (lv' := [(0, .ref (ad 12 0 0)), (1, .int p1)]) [0, 1] rfl ?_
  refine mw_eqM (uW_self M 12) ?_
  have ok0 : OkT (M 12) (M 12) := ⟨hok, rfl, rfl⟩
  refine mw_aload_n cx (q := 1) 0 rfl rfl dX12_trade_0 rfl ?_
  refine mw_get cx (q := 4) (v := .ref (ad 12 32 0)) gf_X12_101 rfl rfl vi_12_0 dX12_trade_1 rfl ?_
  refine mw_iload_n cx (q := 5) 1 rfl rfl dX12_trade_4 rfl ?_
  refine mw_iald cx (q := 6) (w := ((M 12) 32 0 p1)) rfl (fun _ => rfl) vi_12_32 hp1 dX12_trade_5 rfl ?_
  refine mw_bndT (fun v1 ev1 => ?_)
  refine mw_istore_n cx (q := 7) (lv' := [(2, .int v1), (0, .ref (ad 12 0 0)), (1, .int p1)]) rfl rfl (by decide) dX12_trade_6 rfl ?_
  have eop : v1 = ((M 12) 32 0 p1) := ev1
  have hOv : 18 ≤ (v1).toInt ∧ (v1).toInt ≤ 20 := (by rw [ev1]; exact hO)
  refine mw_aload_n cx (q := 8) 1 rfl rfl dX12_trade_7 rfl ?_
  refine mw_get cx (q := 11) (v := .ref (ad 12 31 0)) gf_X12_98 rfl rfl vi_12_0 dX12_trade_8 rfl ?_
  refine mw_iload_n cx (q := 12) 2 rfl rfl dX12_trade_11 rfl ?_
  refine mw_iald cx (q := 13) (w := ((M 12) 31 0 p1)) rfl (fun _ => rfl) vi_12_31 hp1 dX12_trade_12 rfl ?_
  refine mw_bndT (fun v2 ev2 => ?_)
  refine mw_istore_n cx (q := 14) (lv' := [(3, .int v2), (2, .int v1), (0, .ref (ad 12 0 0)), (1, .int p1)]) rfl rfl (by decide) dX12_trade_13 rfl ?_
  have hsv : vp_in v2 8 := (by rw [ev2]; exact hok.pS _ hp1)
  have hTv : Tx12 (M 12) v2 := (by rw [ev2]; exact hT)
  have hFv : Ix12 (M 12) v2 ((M 12) 35 0 p1) := (by rw [ev2]; exact hF)
  have hSv : Ix12 (M 12) v2 (f12_following (M 12) v2 ((M 12) 35 0 p1)) := (by rw [ev2]; exact hS)
  have hGa : v1 = 20 → ¬ f12_goodAt (M 12) v2 (f12_following (M 12) v2 ((M 12) 35 0 p1)) = (-1) := (by rw [ev2, eop]; exact hG1)
  have hGb : ¬ v1 = 20 → ¬ f12_goodAt (M 12) v2 ((M 12) 35 0 p1) = (-1) := (by rw [ev2, eop]; exact hG2)
  refine mw_aload_n cx (q := 15) 2 rfl rfl dX12_trade_14 rfl ?_
  refine mw_iload_n cx (q := 16) 0 rfl rfl dX12_trade_15 rfl ?_
  refine mw_aload_n cx (q := 17) 2 rfl rfl dX12_trade_16 rfl ?_
  refine mw_get cx (q := 20) (v := .ref (ad 12 35 0)) gf_X12_110 rfl rfl vi_12_0 dX12_trade_17 rfl ?_
  refine mw_iload_n cx (q := 21) 3 rfl rfl dX12_trade_20 rfl ?_
  refine mw_iald cx (q := 22) (w := ((M 12) 35 0 p1)) rfl (fun _ => rfl) vi_12_35 hp1 dX12_trade_21 rfl ?_
  refine mw_bnd (fun r3 er3 => ?_)
  refine mw_callV cx (q := 25) (d := 3) (As := [.int v2, .int ((M 12) 35 0 p1)]) (z := fip (uW M 12 (M 12)) r3) (st := []) (st1 := [.int r3]) (M' := (uW M 12 (M 12))) (by rw [er3]; exact mc_X12_following l D ta ad (uW M 12 (M 12)) v2 ((M 12) 35 0 p1) (ok0.1) hsv hTv hFv) cv_X12_201 rfl rfl rfl vi_12_0 ⟨Nat.le_of_ble_eq_true rfl, Nat.le_of_ble_eq_true rfl⟩ ⟨Nat.le_refl _, Nat.le_refl _⟩ (by simp [Value.category]) rfl rfl rfl dX12_trade_22 rfl ?_
  have qr30 : Nx12 (M 12) v2 r3 := (by rw [er3]; exact following_n (ok0.1) hsv hTv hFv)
  have hSr : Ix12 (M 12) v2 r3 := (by rw [er3]; exact hSv)
  have hGr : v1 = 20 → ¬ f12_goodAt (M 12) v2 r3 = (-1) := (by rw [er3]; exact hGa)
  refine mw_istore cx (q := 27) (lv' := [(4, .int r3), (3, .int v2), (2, .int v1), (0, .ref (ad 12 0 0)), (1, .int p1)]) rfl (by decide) dX12_trade_25 rfl ?_
  refine mw_aload_n cx (q := 28) 3 rfl rfl dX12_trade_27 rfl ?_
  refine mw_get cx (q := 31) (v := .ref (ad 12 33 0)) gf_X12_104 rfl rfl vi_12_0 dX12_trade_28 rfl ?_
  refine mw_iload_n cx (q := 32) 4 rfl rfl dX12_trade_31 rfl ?_
  refine mw_iald cx (q := 33) (w := ((M 12) 33 0 p1)) rfl (fun _ => rfl) vi_12_33 hp1 dX12_trade_32 rfl ?_
  refine mw_if_ne cx (tgt := 61) (q := 36) dX12_trade_33 (by decide) rfl (fun h4 => ?_) (fun h4 => ?_)
  · refine mw_iload_n cx (q := 62) 2 rfl rfl dX12_trade_61 rfl ?_
    refine mw_bipush cx (q := 64) (v := 20) dX12_trade_62 rfl rfl ?_
    refine mw_icmp_ne cx (tgt := 102) (q := 67) dX12_trade_64 (by decide) rfl (fun h5 => ?_) (fun h5 => ?_)
    · refine mw_aload_n cx (q := 103) 3 rfl rfl dX12_trade_102 rfl ?_
      refine mw_iload_n cx (q := 104) 1 rfl rfl dX12_trade_103 rfl ?_
      refine mw_iload_n cx (q := 105) 2 rfl rfl dX12_trade_104 rfl ?_
      refine mw_bipush cx (q := 107) (v := 20) dX12_trade_105 rfl rfl ?_
      refine mw_jnP (P := fun (v6 : Int32) => (¬ f12_goodAt (M 12) v2 v6 = (-1)) ∧ (Ix12 (M 12) v2 v6)) (Mj := fun (v6 : Int32) => (uW M 12 (M 12))) (pj := 121) (lj := fun (v6 : Int32) => [(0, .ref (ad 12 0 0)), (1, .int p1), (2, .int v1)]) (sj := fun (v6 : Int32) => [.int v6, .int v2, .ref (ad 12 0 0)]) (fun v6 jv6 => ?_) (fun K7 hK7 => ?_)
      · obtain ⟨jv6_0, jv6_1⟩ := jv6
        refine mw_bnd (fun r9 er9 => ?_)
        refine mw_callV cx (q := 124) (d := 3) (As := [.int v2, .int v6]) (z := fip (uW M 12 (M 12)) r9) (st := []) (st1 := [.int r9]) (M' := (uW M 12 (M 12))) (by rw [er9]; exact mc_X12_goodAt l D ta ad (uW M 12 (M 12)) v2 v6 (ok0.1) hsv (Or.inr (by assumption))) cv_X12_274 rfl rfl rfl vi_12_0 ⟨Nat.le_of_ble_eq_true rfl, Nat.le_of_ble_eq_true rfl⟩ ⟨Nat.le_refl _, Nat.le_refl _⟩ (by simp [Value.category]) rfl rfl rfl dX12_trade_121 rfl ?_
        have qr90 : ¬ r9 = (-1) → vp_in r9 8 := (by rw [er9]; exact goodAt_in)
        have hgd : vp_in r9 8 := (by rw [er9]; exact goodAt_in (by assumption))
        refine mw_istore cx (q := 126) (lv' := [(5, .int r9), (0, .ref (ad 12 0 0)), (1, .int p1), (2, .int v1)]) rfl (by decide) dX12_trade_124 rfl ?_
        refine mw_iload_n cx (q := 127) 3 rfl rfl dX12_trade_126 rfl ?_
        refine mw_bipush cx (q := 129) (v := 18) dX12_trade_127 rfl rfl ?_
        refine mw_jnP (P := fun (v10 : Int32) => (vp_in v10 5)) (Mj := fun (v10 : Int32) => (uW M 12 (M 12))) (pj := 140) (lj := fun (v10 : Int32) => [(0, .ref (ad 12 0 0)), (1, .int p1), (2, .int v1), (5, .int r9)]) (sj := fun (v10 : Int32) => [.int v10]) (fun v10 jv10 => ?_) (fun K11 hK11 => ?_)
        · have jv10_0 := jv10
          refine mw_istore cx (q := 142) (lv' := [(6, .int v10), (0, .ref (ad 12 0 0)), (1, .int p1), (2, .int v1), (5, .int r9)]) rfl (by decide) dX12_trade_140 rfl ?_
          refine mw_iload_n cx (q := 143) 3 rfl rfl dX12_trade_142 rfl ?_
          refine mw_bipush cx (q := 145) (v := 18) dX12_trade_143 rfl rfl ?_
          refine mw_jnP (P := fun (v13 : Int32) => (¬ v1 = 20 → vp_in v13 5)) (Mj := fun (v13 : Int32) => (uW M 12 (M 12))) (pj := 171) (lj := fun (v13 : Int32) => [(0, .ref (ad 12 0 0)), (2, .int v1), (5, .int r9), (6, .int v10)]) (sj := fun (v13 : Int32) => [.int v13]) (fun v13 jv13 => ?_) (fun K14 hK14 => ?_)
          · have jv13_0 := jv13
            refine mw_istore cx (q := 173) (lv' := [(7, .int v13), (0, .ref (ad 12 0 0)), (2, .int v1), (5, .int r9), (6, .int v10)]) rfl (by decide) dX12_trade_171 rfl ?_
            refine mw_aload_n cx (q := 174) 1 rfl rfl dX12_trade_173 rfl ?_
            refine mw_get cx (q := 177) (v := .int ((M 12) 0 0 62)) gf_X12_232 rfl rfl vi_12_0 dX12_trade_174 rfl ?_
            refine mw_if_lt cx (tgt := 194) (q := 180) dX12_trade_177 (by decide) rfl (fun h17 => ?_) (fun h17 => ?_)
            · refine mw_aload_n cx (q := 195) 1 rfl rfl dX12_trade_194 rfl ?_
              refine mw_bipush cx (q := 197) (v := 6) dX12_trade_195 rfl rfl ?_
              refine mw_putC cx (q := 200) 63 gf_X12_257 pf_X12_63 (int_fit _) rfl (Nat.le_of_ble_eq_true rfl) rfl vi_12_0 (by decide) dX12_trade_197 rfl (fun m18 em18 => ?_)
              have ok19 : OkT (M 12) m18 := (by rw [em18]; exact okT_put0 ok0 (by decide))
              refine mw_goto cx (tgt := 217) dX12_trade_200 (by decide) ?_
              exact mw_vret cx hr rfl dX12_trade_217
            · refine mw_iload_n cx (q := 181) 2 rfl rfl dX12_trade_180 rfl ?_
              refine mw_bipush cx (q := 183) (v := 20) dX12_trade_181 rfl rfl ?_
              refine mw_icmp_ne cx (tgt := 203) (q := 186) dX12_trade_183 (by decide) rfl (fun h20 => ?_) (fun h20 => ?_)
              · refine mw_aload_n cx (q := 204) 1 rfl rfl dX12_trade_203 rfl ?_
                refine mw_iload cx (q := 206) 4 rfl dX12_trade_204 rfl ?_
                refine mw_iload cx (q := 208) 0 rfl dX12_trade_206 rfl ?_
                refine mw_iload cx (q := 210) 3 rfl dX12_trade_208 rfl ?_
                refine mw_aload_n cx (q := 211) 1 rfl rfl dX12_trade_210 rfl ?_
                refine mw_get cx (q := 214) (v := .int ((M 12) 0 0 62)) gf_X12_232 rfl rfl vi_12_0 dX12_trade_211 rfl ?_
                refine mw_bnd (fun r21 er21 => ?_)
                refine mw_callV cx (q := 217) (d := 1) (As := [.int v10, .int v13, .int r9, .int ((M 12) 0 0 62)]) (z := fvc (uW M 12 (M 12)) 12 r21) (st := []) (st1 := []) (M' := uW M 12 r21) (by rw [er21]; exact mc_X12_move l D ta ad (uW M 12 (M 12)) v10 v13 r9 ((M 12) 0 0 62) (ok0.1) jv10_0 (by first | exact jv13_0 (by assumption) | exact vp_w (by (try simp only [vp_in_iff, i32lt, i32le, i32eq, i32add, i32sub, i32mul, i32neg, t32_0, t32_1, t32_4, t32_5, t32_8, t32_18, t32_20, t32_31, t32_32, t32_33, t32_35] at jv13_0 h20 ev1 eop hOv ev2 hsv hTv hFv hSv hGa hGb qr30 hSr hGr h4 h5 jv6_0 jv6_1 hp1 hT hF hO hS hG1 hG2 ok0 hok ⊢); omega) (by decide)) hgd) cv_X12_342 rfl rfl rfl vi_12_0 ⟨Nat.le_of_ble_eq_true rfl, Nat.le_of_ble_eq_true rfl⟩ ⟨Nat.le_refl _, Nat.le_refl _⟩ (by simp [Value.category]) rfl rfl (by exact uW_uW _ _ _ _) dX12_trade_214 rfl ?_
                exact mw_vret cx hr rfl dX12_trade_217
              · refine mw_iload cx (q := 188) 0 rfl dX12_trade_186 rfl ?_
                refine mw_bnd (fun r22 er22 => ?_)
                refine mw_callS cx (q := 191) (d := 1) (As := [.int v13]) (z := fzp (uW M 12 (M 12)) r22) (st := []) (st1 := [.int (b2i r22)]) (M' := (uW M 12 (M 12))) (by rw [er22]; exact mc_X12_isCompany l D ta ad (uW M 12 (M 12)) v13) cv_X12_339 ⟨Nat.le_of_ble_eq_true rfl, Nat.le_of_ble_eq_true rfl⟩ ⟨Nat.le_refl _, Nat.le_refl _⟩ (by simp [Value.category]) rfl rfl rfl dX12_trade_188 rfl ?_
                have qr220 : r22 = true → vp_in v13 4 := (fun hq => isCompany_t (er22.symm.trans hq))
                refine mw_ifb_ne cx (tgt := 203) (q := 194) dX12_trade_191 (by decide) rfl (fun h23 => ?_) (fun h23 => ?_)
                · refine mw_aload_n cx (q := 204) 1 rfl rfl dX12_trade_203 rfl ?_
                  refine mw_iload cx (q := 206) 4 rfl dX12_trade_204 rfl ?_
                  refine mw_iload cx (q := 208) 0 rfl dX12_trade_206 rfl ?_
                  refine mw_iload cx (q := 210) 3 rfl dX12_trade_208 rfl ?_
                  refine mw_aload_n cx (q := 211) 1 rfl rfl dX12_trade_210 rfl ?_
                  refine mw_get cx (q := 214) (v := .int ((M 12) 0 0 62)) gf_X12_232 rfl rfl vi_12_0 dX12_trade_211 rfl ?_
                  refine mw_bnd (fun r24 er24 => ?_)
                  refine mw_callV cx (q := 217) (d := 1) (As := [.int v10, .int v13, .int r9, .int ((M 12) 0 0 62)]) (z := fvc (uW M 12 (M 12)) 12 r24) (st := []) (st1 := []) (M' := uW M 12 r24) (by rw [er24]; exact mc_X12_move l D ta ad (uW M 12 (M 12)) v10 v13 r9 ((M 12) 0 0 62) (ok0.1) jv10_0 (by first | exact jv13_0 (by assumption) | exact vp_w (qr220 h23) (by decide)) hgd) cv_X12_342 rfl rfl rfl vi_12_0 ⟨Nat.le_of_ble_eq_true rfl, Nat.le_of_ble_eq_true rfl⟩ ⟨Nat.le_refl _, Nat.le_refl _⟩ (by simp [Value.category]) rfl rfl (by exact uW_uW _ _ _ _) dX12_trade_214 rfl ?_
                  exact mw_vret cx hr rfl dX12_trade_217
                · refine mw_aload_n cx (q := 195) 1 rfl rfl dX12_trade_194 rfl ?_
                  refine mw_bipush cx (q := 197) (v := 6) dX12_trade_195 rfl rfl ?_
                  refine mw_putC cx (q := 200) 63 gf_X12_257 pf_X12_63 (int_fit _) rfl (Nat.le_of_ble_eq_true rfl) rfl vi_12_0 (by decide) dX12_trade_197 rfl (fun m25 em25 => ?_)
                  have ok26 : OkT (M 12) m25 := (by rw [em25]; exact okT_put0 ok0 (by decide))
                  refine mw_goto cx (tgt := 217) dX12_trade_200 (by decide) ?_
                  exact mw_vret cx hr rfl dX12_trade_217
          · refine mw_icmp_ne cx (tgt := 155) (q := 148) dX12_trade_145 (by decide) rfl (fun h15 => ?_) (fun h15 => ?_)
            · refine mw_iload_n cx (q := 156) 3 rfl rfl dX12_trade_155 rfl ?_
              refine mw_bipush cx (q := 158) (v := 19) dX12_trade_156 rfl rfl ?_
              refine mw_icmp_ne cx (tgt := 165) (q := 161) dX12_trade_158 (by decide) rfl (fun h16 => ?_) (fun h16 => ?_)
              · refine mw_aload_n cx (q := 166) 1 rfl rfl dX12_trade_165 rfl ?_
                refine mw_get cx (q := 169) (v := .ref (ad 12 36 0)) gf_X12_113 rfl rfl vi_12_0 dX12_trade_166 rfl ?_
                refine mw_iload_n cx (q := 170) 2 rfl rfl dX12_trade_169 rfl ?_
                refine mw_iald cx (q := 171) (w := ((M 12) 36 0 p1)) rfl (fun _ => rfl) vi_12_36 hp1 dX12_trade_170 rfl ?_
                refine mw_sub [1, 3, 4, 0] rfl ?_
                exact hK14 ((M 12) 36 0 p1) (by intro hz; first | contradiction | exact vin_lit (by decide) | exact vp_w hok.cmp (by decide) | exact absurd (by (try simp only [vp_in_iff, i32lt, i32le, i32eq, i32add, i32sub, i32mul, i32neg, t32_0, t32_1, t32_8, t32_18, t32_19, t32_20, t32_31, t32_32, t32_33, t32_35] at ev1 eop hOv ev2 hsv hTv hFv hSv hGa hGb qr30 hSr hGr h4 h5 jv6_0 jv6_1 h15 h16 hp1 hT hF hO hS hG1 hG2 ok0 hok ⊢); omega) hz)
              · refine mw_iconst cx (q := 162) (v := 4) dX12_trade_161 rfl rfl ?_
                refine mw_goto cx (tgt := 171) dX12_trade_162 (by decide) ?_
                refine mw_sub [1, 3, 4, 0] rfl ?_
                exact hK14 4 (by intro hz; first | contradiction | exact vin_lit (by decide) | exact vp_w hok.cmp (by decide) | exact absurd (by (try simp only [vp_in_iff, i32lt, i32le, i32eq, i32add, i32sub, i32mul, i32neg, t32_0, t32_1, t32_8, t32_18, t32_19, t32_20, t32_31, t32_32, t32_33, t32_35] at ev1 eop hOv ev2 hsv hTv hFv hSv hGa hGb qr30 hSr hGr h4 h5 jv6_0 jv6_1 h15 h16 hp1 hT hF hO hS hG1 hG2 ok0 hok ⊢); omega) hz)
            · refine mw_aload_n cx (q := 149) 1 rfl rfl dX12_trade_148 rfl ?_
              refine mw_get cx (q := 152) (v := .int ((M 12) 0 0 57)) gf_X12_223 rfl rfl vi_12_0 dX12_trade_149 rfl ?_
              refine mw_goto cx (tgt := 171) dX12_trade_152 (by decide) ?_
              refine mw_sub [1, 3, 4, 0] rfl ?_
              exact hK14 ((M 12) 0 0 57) (by intro hz; first | contradiction | exact vin_lit (by decide) | exact vp_w hok.cmp (by decide) | exact absurd (by (try simp only [vp_in_iff, i32lt, i32le, i32eq, i32add, i32sub, i32mul, i32neg, t32_0, t32_1, t32_8, t32_18, t32_20, t32_31, t32_32, t32_33, t32_35] at ev1 eop hOv ev2 hsv hTv hFv hSv hGa hGb qr30 hSr hGr h4 h5 jv6_0 jv6_1 h15 hp1 hT hF hO hS hG1 hG2 ok0 hok ⊢); omega) hz)
        · refine mw_icmp_ne cx (tgt := 136) (q := 132) dX12_trade_129 (by decide) rfl (fun h12 => ?_) (fun h12 => ?_)
          · refine mw_aload_n cx (q := 137) 1 rfl rfl dX12_trade_136 rfl ?_
            refine mw_get cx (q := 140) (v := .int ((M 12) 0 0 57)) gf_X12_223 rfl rfl vi_12_0 dX12_trade_137 rfl ?_
            refine mw_sub [1, 2, 3, 0] rfl ?_
            exact hK11 ((M 12) 0 0 57) (by first | exact vin_lit (by decide) | exact vp_w hok.cmp (by decide))
          · refine mw_iconst cx (q := 133) (v := 4) dX12_trade_132 rfl rfl ?_
            refine mw_goto cx (tgt := 140) dX12_trade_133 (by decide) ?_
            refine mw_sub [1, 2, 3, 0] rfl ?_
            exact hK11 4 (by first | exact vin_lit (by decide) | exact vp_w hok.cmp (by decide))
      · refine mw_icmp_ne cx (tgt := 115) (q := 110) dX12_trade_107 (by decide) rfl (fun h8 => ?_) (fun h8 => ?_)
        · refine mw_aload_n cx (q := 116) 3 rfl rfl dX12_trade_115 rfl ?_
          refine mw_get cx (q := 119) (v := .ref (ad 12 35 0)) gf_X12_110 rfl rfl vi_12_0 dX12_trade_116 rfl ?_
          refine mw_iload_n cx (q := 120) 4 rfl rfl dX12_trade_119 rfl ?_
          refine mw_iald cx (q := 121) (w := ((M 12) 35 0 p1)) rfl (fun _ => rfl) vi_12_35 hp1 dX12_trade_120 rfl ?_
          refine mw_sub [3, 4, 2] rfl ?_
          exact hK7 ((M 12) 35 0 p1) ⟨(hGb h5), hFv⟩
        · refine mw_iload cx (q := 112) 0 rfl dX12_trade_110 rfl ?_
          refine mw_goto cx (tgt := 121) dX12_trade_112 (by decide) ?_
          refine mw_sub [3, 4, 2] rfl ?_
          exact hK7 r3 ⟨(hGr h8), hSr⟩
    · refine mw_aload_n cx (q := 68) 3 rfl rfl dX12_trade_67 rfl ?_
      refine mw_get cx (q := 71) (v := .ref (ad 12 33 0)) gf_X12_104 rfl rfl vi_12_0 dX12_trade_68 rfl ?_
      refine mw_iload_n cx (q := 72) 4 rfl rfl dX12_trade_71 rfl ?_
      refine mw_iald cx (q := 73) (w := ((M 12) 33 0 p1)) rfl (fun _ => rfl) vi_12_33 hp1 dX12_trade_72 rfl ?_
      refine mw_iconst cx (q := 74) (v := 1) dX12_trade_73 rfl rfl ?_
      refine mw_icmp_ne cx (tgt := 102) (q := 77) dX12_trade_74 (by decide) rfl (fun h27 => ?_) (fun h27 => ?_)
      · refine mw_aload_n cx (q := 103) 3 rfl rfl dX12_trade_102 rfl ?_
        refine mw_iload_n cx (q := 104) 1 rfl rfl dX12_trade_103 rfl ?_
        refine mw_iload_n cx (q := 105) 2 rfl rfl dX12_trade_104 rfl ?_
        refine mw_bipush cx (q := 107) (v := 20) dX12_trade_105 rfl rfl ?_
        refine mw_jnP (P := fun (v28 : Int32) => (¬ f12_goodAt (M 12) v2 v28 = (-1)) ∧ (Ix12 (M 12) v2 v28)) (Mj := fun (v28 : Int32) => (uW M 12 (M 12))) (pj := 121) (lj := fun (v28 : Int32) => [(0, .ref (ad 12 0 0)), (1, .int p1), (2, .int v1)]) (sj := fun (v28 : Int32) => [.int v28, .int v2, .ref (ad 12 0 0)]) (fun v28 jv28 => ?_) (fun K29 hK29 => ?_)
        · obtain ⟨jv28_0, jv28_1⟩ := jv28
          refine mw_bnd (fun r31 er31 => ?_)
          refine mw_callV cx (q := 124) (d := 3) (As := [.int v2, .int v28]) (z := fip (uW M 12 (M 12)) r31) (st := []) (st1 := [.int r31]) (M' := (uW M 12 (M 12))) (by rw [er31]; exact mc_X12_goodAt l D ta ad (uW M 12 (M 12)) v2 v28 (ok0.1) hsv (Or.inr (by assumption))) cv_X12_274 rfl rfl rfl vi_12_0 ⟨Nat.le_of_ble_eq_true rfl, Nat.le_of_ble_eq_true rfl⟩ ⟨Nat.le_refl _, Nat.le_refl _⟩ (by simp [Value.category]) rfl rfl rfl dX12_trade_121 rfl ?_
          have qr310 : ¬ r31 = (-1) → vp_in r31 8 := (by rw [er31]; exact goodAt_in)
          have hgd : vp_in r31 8 := (by rw [er31]; exact goodAt_in (by assumption))
          refine mw_istore cx (q := 126) (lv' := [(5, .int r31), (0, .ref (ad 12 0 0)), (1, .int p1), (2, .int v1)]) rfl (by decide) dX12_trade_124 rfl ?_
          refine mw_iload_n cx (q := 127) 3 rfl rfl dX12_trade_126 rfl ?_
          refine mw_bipush cx (q := 129) (v := 18) dX12_trade_127 rfl rfl ?_
          refine mw_jnP (P := fun (v32 : Int32) => (vp_in v32 5)) (Mj := fun (v32 : Int32) => (uW M 12 (M 12))) (pj := 140) (lj := fun (v32 : Int32) => [(0, .ref (ad 12 0 0)), (1, .int p1), (2, .int v1), (5, .int r31)]) (sj := fun (v32 : Int32) => [.int v32]) (fun v32 jv32 => ?_) (fun K33 hK33 => ?_)
          · have jv32_0 := jv32
            refine mw_istore cx (q := 142) (lv' := [(6, .int v32), (0, .ref (ad 12 0 0)), (1, .int p1), (2, .int v1), (5, .int r31)]) rfl (by decide) dX12_trade_140 rfl ?_
            refine mw_iload_n cx (q := 143) 3 rfl rfl dX12_trade_142 rfl ?_
            refine mw_bipush cx (q := 145) (v := 18) dX12_trade_143 rfl rfl ?_
            refine mw_jnP (P := fun (v35 : Int32) => (¬ v1 = 20 → vp_in v35 5)) (Mj := fun (v35 : Int32) => (uW M 12 (M 12))) (pj := 171) (lj := fun (v35 : Int32) => [(0, .ref (ad 12 0 0)), (2, .int v1), (5, .int r31), (6, .int v32)]) (sj := fun (v35 : Int32) => [.int v35]) (fun v35 jv35 => ?_) (fun K36 hK36 => ?_)
            · have jv35_0 := jv35
              refine mw_istore cx (q := 173) (lv' := [(7, .int v35), (0, .ref (ad 12 0 0)), (2, .int v1), (5, .int r31), (6, .int v32)]) rfl (by decide) dX12_trade_171 rfl ?_
              refine mw_aload_n cx (q := 174) 1 rfl rfl dX12_trade_173 rfl ?_
              refine mw_get cx (q := 177) (v := .int ((M 12) 0 0 62)) gf_X12_232 rfl rfl vi_12_0 dX12_trade_174 rfl ?_
              refine mw_if_lt cx (tgt := 194) (q := 180) dX12_trade_177 (by decide) rfl (fun h39 => ?_) (fun h39 => ?_)
              · refine mw_aload_n cx (q := 195) 1 rfl rfl dX12_trade_194 rfl ?_
                refine mw_bipush cx (q := 197) (v := 6) dX12_trade_195 rfl rfl ?_
                refine mw_putC cx (q := 200) 63 gf_X12_257 pf_X12_63 (int_fit _) rfl (Nat.le_of_ble_eq_true rfl) rfl vi_12_0 (by decide) dX12_trade_197 rfl (fun m40 em40 => ?_)
                have ok41 : OkT (M 12) m40 := (by rw [em40]; exact okT_put0 ok0 (by decide))
                refine mw_goto cx (tgt := 217) dX12_trade_200 (by decide) ?_
                exact mw_vret cx hr rfl dX12_trade_217
              · refine mw_iload_n cx (q := 181) 2 rfl rfl dX12_trade_180 rfl ?_
                refine mw_bipush cx (q := 183) (v := 20) dX12_trade_181 rfl rfl ?_
                refine mw_icmp_ne cx (tgt := 203) (q := 186) dX12_trade_183 (by decide) rfl (fun h42 => ?_) (fun h42 => ?_)
                · refine mw_aload_n cx (q := 204) 1 rfl rfl dX12_trade_203 rfl ?_
                  refine mw_iload cx (q := 206) 4 rfl dX12_trade_204 rfl ?_
                  refine mw_iload cx (q := 208) 0 rfl dX12_trade_206 rfl ?_
                  refine mw_iload cx (q := 210) 3 rfl dX12_trade_208 rfl ?_
                  refine mw_aload_n cx (q := 211) 1 rfl rfl dX12_trade_210 rfl ?_
                  refine mw_get cx (q := 214) (v := .int ((M 12) 0 0 62)) gf_X12_232 rfl rfl vi_12_0 dX12_trade_211 rfl ?_
                  refine mw_bnd (fun r43 er43 => ?_)
                  refine mw_callV cx (q := 217) (d := 1) (As := [.int v32, .int v35, .int r31, .int ((M 12) 0 0 62)]) (z := fvc (uW M 12 (M 12)) 12 r43) (st := []) (st1 := []) (M' := uW M 12 r43) (by rw [er43]; exact mc_X12_move l D ta ad (uW M 12 (M 12)) v32 v35 r31 ((M 12) 0 0 62) (ok0.1) jv32_0 (by first | exact jv35_0 (by assumption) | exact vp_w (by (try simp only [vp_in_iff, i32lt, i32le, i32eq, i32add, i32sub, i32mul, i32neg, t32_0, t32_1, t32_4, t32_5, t32_8, t32_18, t32_20, t32_31, t32_32, t32_33, t32_35] at jv35_0 h42 ev1 eop hOv ev2 hsv hTv hFv hSv hGa hGb qr30 hSr hGr h4 h5 h27 jv28_0 jv28_1 hp1 hT hF hO hS hG1 hG2 ok0 hok ⊢); omega) (by decide)) hgd) cv_X12_342 rfl rfl rfl vi_12_0 ⟨Nat.le_of_ble_eq_true rfl, Nat.le_of_ble_eq_true rfl⟩ ⟨Nat.le_refl _, Nat.le_refl _⟩ (by simp [Value.category]) rfl rfl (by exact uW_uW _ _ _ _) dX12_trade_214 rfl ?_
                  exact mw_vret cx hr rfl dX12_trade_217
                · refine mw_iload cx (q := 188) 0 rfl dX12_trade_186 rfl ?_
                  refine mw_bnd (fun r44 er44 => ?_)
                  refine mw_callS cx (q := 191) (d := 1) (As := [.int v35]) (z := fzp (uW M 12 (M 12)) r44) (st := []) (st1 := [.int (b2i r44)]) (M' := (uW M 12 (M 12))) (by rw [er44]; exact mc_X12_isCompany l D ta ad (uW M 12 (M 12)) v35) cv_X12_339 ⟨Nat.le_of_ble_eq_true rfl, Nat.le_of_ble_eq_true rfl⟩ ⟨Nat.le_refl _, Nat.le_refl _⟩ (by simp [Value.category]) rfl rfl rfl dX12_trade_188 rfl ?_
                  have qr440 : r44 = true → vp_in v35 4 := (fun hq => isCompany_t (er44.symm.trans hq))
                  refine mw_ifb_ne cx (tgt := 203) (q := 194) dX12_trade_191 (by decide) rfl (fun h45 => ?_) (fun h45 => ?_)
                  · refine mw_aload_n cx (q := 204) 1 rfl rfl dX12_trade_203 rfl ?_
                    refine mw_iload cx (q := 206) 4 rfl dX12_trade_204 rfl ?_
                    refine mw_iload cx (q := 208) 0 rfl dX12_trade_206 rfl ?_
                    refine mw_iload cx (q := 210) 3 rfl dX12_trade_208 rfl ?_
                    refine mw_aload_n cx (q := 211) 1 rfl rfl dX12_trade_210 rfl ?_
                    refine mw_get cx (q := 214) (v := .int ((M 12) 0 0 62)) gf_X12_232 rfl rfl vi_12_0 dX12_trade_211 rfl ?_
                    refine mw_bnd (fun r46 er46 => ?_)
                    refine mw_callV cx (q := 217) (d := 1) (As := [.int v32, .int v35, .int r31, .int ((M 12) 0 0 62)]) (z := fvc (uW M 12 (M 12)) 12 r46) (st := []) (st1 := []) (M' := uW M 12 r46) (by rw [er46]; exact mc_X12_move l D ta ad (uW M 12 (M 12)) v32 v35 r31 ((M 12) 0 0 62) (ok0.1) jv32_0 (by first | exact jv35_0 (by assumption) | exact vp_w (qr440 h45) (by decide)) hgd) cv_X12_342 rfl rfl rfl vi_12_0 ⟨Nat.le_of_ble_eq_true rfl, Nat.le_of_ble_eq_true rfl⟩ ⟨Nat.le_refl _, Nat.le_refl _⟩ (by simp [Value.category]) rfl rfl (by exact uW_uW _ _ _ _) dX12_trade_214 rfl ?_
                    exact mw_vret cx hr rfl dX12_trade_217
                  · refine mw_aload_n cx (q := 195) 1 rfl rfl dX12_trade_194 rfl ?_
                    refine mw_bipush cx (q := 197) (v := 6) dX12_trade_195 rfl rfl ?_
                    refine mw_putC cx (q := 200) 63 gf_X12_257 pf_X12_63 (int_fit _) rfl (Nat.le_of_ble_eq_true rfl) rfl vi_12_0 (by decide) dX12_trade_197 rfl (fun m47 em47 => ?_)
                    have ok48 : OkT (M 12) m47 := (by rw [em47]; exact okT_put0 ok0 (by decide))
                    refine mw_goto cx (tgt := 217) dX12_trade_200 (by decide) ?_
                    exact mw_vret cx hr rfl dX12_trade_217
            · refine mw_icmp_ne cx (tgt := 155) (q := 148) dX12_trade_145 (by decide) rfl (fun h37 => ?_) (fun h37 => ?_)
              · refine mw_iload_n cx (q := 156) 3 rfl rfl dX12_trade_155 rfl ?_
                refine mw_bipush cx (q := 158) (v := 19) dX12_trade_156 rfl rfl ?_
                refine mw_icmp_ne cx (tgt := 165) (q := 161) dX12_trade_158 (by decide) rfl (fun h38 => ?_) (fun h38 => ?_)
                · refine mw_aload_n cx (q := 166) 1 rfl rfl dX12_trade_165 rfl ?_
                  refine mw_get cx (q := 169) (v := .ref (ad 12 36 0)) gf_X12_113 rfl rfl vi_12_0 dX12_trade_166 rfl ?_
                  refine mw_iload_n cx (q := 170) 2 rfl rfl dX12_trade_169 rfl ?_
                  refine mw_iald cx (q := 171) (w := ((M 12) 36 0 p1)) rfl (fun _ => rfl) vi_12_36 hp1 dX12_trade_170 rfl ?_
                  refine mw_sub [1, 3, 4, 0] rfl ?_
                  exact hK36 ((M 12) 36 0 p1) (by intro hz; first | contradiction | exact vin_lit (by decide) | exact vp_w hok.cmp (by decide) | exact absurd h5 hz)
                · refine mw_iconst cx (q := 162) (v := 4) dX12_trade_161 rfl rfl ?_
                  refine mw_goto cx (tgt := 171) dX12_trade_162 (by decide) ?_
                  refine mw_sub [1, 3, 4, 0] rfl ?_
                  exact hK36 4 (by intro hz; first | contradiction | exact vin_lit (by decide) | exact vp_w hok.cmp (by decide) | exact absurd h5 hz)
              · refine mw_aload_n cx (q := 149) 1 rfl rfl dX12_trade_148 rfl ?_
                refine mw_get cx (q := 152) (v := .int ((M 12) 0 0 57)) gf_X12_223 rfl rfl vi_12_0 dX12_trade_149 rfl ?_
                refine mw_goto cx (tgt := 171) dX12_trade_152 (by decide) ?_
                refine mw_sub [1, 3, 4, 0] rfl ?_
                exact hK36 ((M 12) 0 0 57) (by intro hz; first | contradiction | exact vin_lit (by decide) | exact vp_w hok.cmp (by decide) | exact absurd h5 hz)
          · refine mw_icmp_ne cx (tgt := 136) (q := 132) dX12_trade_129 (by decide) rfl (fun h34 => ?_) (fun h34 => ?_)
            · refine mw_aload_n cx (q := 137) 1 rfl rfl dX12_trade_136 rfl ?_
              refine mw_get cx (q := 140) (v := .int ((M 12) 0 0 57)) gf_X12_223 rfl rfl vi_12_0 dX12_trade_137 rfl ?_
              refine mw_sub [1, 2, 3, 0] rfl ?_
              exact hK33 ((M 12) 0 0 57) (by first | exact vin_lit (by decide) | exact vp_w hok.cmp (by decide))
            · refine mw_iconst cx (q := 133) (v := 4) dX12_trade_132 rfl rfl ?_
              refine mw_goto cx (tgt := 140) dX12_trade_133 (by decide) ?_
              refine mw_sub [1, 2, 3, 0] rfl ?_
              exact hK33 4 (by first | exact vin_lit (by decide) | exact vp_w hok.cmp (by decide))
        · refine mw_icmp_ne cx (tgt := 115) (q := 110) dX12_trade_107 (by decide) rfl (fun h30 => ?_) (fun h30 => ?_)
          · refine mw_aload_n cx (q := 116) 3 rfl rfl dX12_trade_115 rfl ?_
            refine mw_get cx (q := 119) (v := .ref (ad 12 35 0)) gf_X12_110 rfl rfl vi_12_0 dX12_trade_116 rfl ?_
            refine mw_iload_n cx (q := 120) 4 rfl rfl dX12_trade_119 rfl ?_
            refine mw_iald cx (q := 121) (w := ((M 12) 35 0 p1)) rfl (fun _ => rfl) vi_12_35 hp1 dX12_trade_120 rfl ?_
            refine mw_sub [3, 4, 2] rfl ?_
            exact hK29 ((M 12) 35 0 p1) ⟨(hGb h30), hFv⟩
          · refine mw_iload cx (q := 112) 0 rfl dX12_trade_110 rfl ?_
            refine mw_goto cx (tgt := 121) dX12_trade_112 (by decide) ?_
            refine mw_sub [3, 4, 2] rfl ?_
            exact hK29 r3 ⟨(hGr h5), hSr⟩
      · refine mw_aload_n cx (q := 78) 3 rfl rfl dX12_trade_77 rfl ?_
        refine mw_get cx (q := 81) (v := .ref (ad 12 36 0)) gf_X12_113 rfl rfl vi_12_0 dX12_trade_78 rfl ?_
        refine mw_iload_n cx (q := 82) 4 rfl rfl dX12_trade_81 rfl ?_
        refine mw_aload_n cx (q := 83) 3 rfl rfl dX12_trade_82 rfl ?_
        refine mw_get cx (q := 86) (v := .int ((M 12) 0 0 62)) gf_X12_232 rfl rfl vi_12_0 dX12_trade_83 rfl ?_
        refine mw_iastC cx (q := 87) (fun _ => rfl) (by decide) vi_12_36 hp1 (by decide) dX12_trade_86 rfl (fun m49 em49 => ?_)
        have ok50 : OkT (M 12) m49 := (by rw [em49]; exact okT_putA ok0 (by decide))
        refine mw_aload_n cx (q := 88) 3 rfl rfl dX12_trade_87 rfl ?_
        refine mw_iload_n cx (q := 89) 4 rfl rfl dX12_trade_88 rfl ?_
        refine mw_aload_n cx (q := 90) 3 rfl rfl dX12_trade_89 rfl ?_
        refine mw_iload_n cx (q := 91) 1 rfl rfl dX12_trade_90 rfl ?_
        refine mw_iload cx (q := 93) 0 rfl dX12_trade_91 rfl ?_
        refine mw_bnd (fun r51 er51 => ?_)
        refine mw_callV cx (q := 96) (d := 3) (As := [.int v2, .int r3]) (z := fip (uW M 12 m49) r51) (st := [.int p1, .ref (ad 12 0 0)]) (st1 := [.int r51, .int p1, .ref (ad 12 0 0)]) (M' := (uW M 12 m49)) (by rw [er51]; exact mc_X12_following l D ta ad (uW M 12 m49) v2 r3 (ok50.1) hsv (Tx12.fr ok50.2 hTv) (Ix12.fr ok50.2 hSr)) cv_X12_201 rfl rfl rfl vi_12_0 ⟨Nat.le_of_ble_eq_true rfl, Nat.le_of_ble_eq_true rfl⟩ ⟨Nat.le_refl _, Nat.le_refl _⟩ (by simp [Value.category]) rfl rfl rfl dX12_trade_93 rfl ?_
        have qr510 : Nx12 m49 v2 r51 := (by rw [er51]; exact following_n (ok50.1) hsv (Tx12.fr ok50.2 hTv) (Ix12.fr ok50.2 hSr))
        refine mw_bnd (fun r52 er52 => ?_)
        refine mw_callV cx (q := 99) (d := 0) (As := [.int p1, .int r51]) (z := fvc (uW M 12 m49) 12 r52) (st := []) (st1 := []) (M' := uW M 12 r52) (by rw [er52]; exact mc_X12_valueNext l D ta ad (uW M 12 m49) p1 r51 hp1) cv_X12_323 rfl rfl rfl vi_12_0 ⟨Nat.le_of_ble_eq_true rfl, Nat.le_of_ble_eq_true rfl⟩ ⟨Nat.le_refl _, Nat.le_refl _⟩ (by simp [Value.category]) rfl rfl (by exact uW_uW _ _ _ _) dX12_trade_96 rfl ?_
        refine mw_goto cx (tgt := 217) dX12_trade_99 (by decide) ?_
        exact mw_vret cx hr rfl dX12_trade_217
  · refine mw_aload_n cx (q := 37) 3 rfl rfl dX12_trade_36 rfl ?_
    refine mw_iload_n cx (q := 38) 4 rfl rfl dX12_trade_37 rfl ?_
    refine mw_iload_n cx (q := 39) 2 rfl rfl dX12_trade_38 rfl ?_
    refine mw_bipush cx (q := 41) (v := 20) dX12_trade_39 rfl rfl ?_
    refine mw_jn (Mj := fun (v53 : Int32) => (uW M 12 (M 12))) (pj := 55) (lj := fun (v53 : Int32) => []) (sj := fun (v53 : Int32) => [.int v53, .int p1, .ref (ad 12 0 0)]) (fun v53 => ?_) (fun K54 hK54 => ?_)
    · refine mw_bnd (fun r56 er56 => ?_)
      refine mw_callV cx (q := 58) (d := 0) (As := [.int p1, .int v53]) (z := fvc (uW M 12 (M 12)) 12 r56) (st := []) (st1 := []) (M' := uW M 12 r56) (by rw [er56]; exact mc_X12_valueNext l D ta ad (uW M 12 (M 12)) p1 v53 hp1) cv_X12_323 rfl rfl rfl vi_12_0 ⟨Nat.le_of_ble_eq_true rfl, Nat.le_of_ble_eq_true rfl⟩ ⟨Nat.le_refl _, Nat.le_refl _⟩ (by simp [Value.category]) rfl rfl (by exact uW_uW _ _ _ _) dX12_trade_55 rfl ?_
      refine mw_goto cx (tgt := 217) dX12_trade_58 (by decide) ?_
      exact mw_vret cx hr rfl dX12_trade_217
    · refine mw_icmp_ne cx (tgt := 53) (q := 44) dX12_trade_41 (by decide) rfl (fun h55 => ?_) (fun h55 => ?_)
      · refine mw_iload cx (q := 55) 0 rfl dX12_trade_53 rfl ?_
        refine mw_sub [] rfl ?_
        exact hK54 r3
      · refine mw_aload_n cx (q := 45) 3 rfl rfl dX12_trade_44 rfl ?_
        refine mw_get cx (q := 48) (v := .ref (ad 12 35 0)) gf_X12_110 rfl rfl vi_12_0 dX12_trade_45 rfl ?_
        refine mw_iload_n cx (q := 49) 4 rfl rfl dX12_trade_48 rfl ?_
        refine mw_iald cx (q := 50) (w := ((M 12) 35 0 p1)) rfl (fun _ => rfl) vi_12_35 hp1 dX12_trade_49 rfl ?_
        refine mw_goto cx (tgt := 55) dX12_trade_50 (by decide) ?_
        refine mw_sub [] rfl ?_
        exact hK54 ((M 12) 35 0 p1)
def f12_apply_lp166 (p1 : Int32) (K31 : Cm → Cm) : Nat → (Int32 × Cm) → Cm
  | 0, x30 => x30.2
  | n32 + 1, x30 => if (x30.2 42 0 p1) ≤ x30.1 then K31 x30.2 else jn (fun (v34 : Int32) => bnd (f12_bind x30.2 (x30.2 43 0 ((3 * p1) + x30.1)) v34) (fun (r38 : Cm) => bnd (x30.1 + 1) (fun (v40 : Int32) => f12_apply_lp166 p1 K31 n32 (v40, r38)))) (fun K35 => if x30.1 = 0 then K35 (x30.2 36 0 p1) else if x30.1 = 1 then K35 (x30.2 37 0 p1) else K35 (x30.2 38 0 p1))
theorem f12_apply_lp166_s (p1 : Int32) (K31 : Cm → Cm) (n32 : Nat) (x30 : Int32 × Cm) : f12_apply_lp166 p1 K31 (n32 + 1) x30 = if (x30.2 42 0 p1) ≤ x30.1 then K31 x30.2 else jn (fun (v34 : Int32) => bnd (f12_bind x30.2 (x30.2 43 0 ((3 * p1) + x30.1)) v34) (fun (r38 : Cm) => bnd (x30.1 + 1) (fun (v40 : Int32) => f12_apply_lp166 p1 K31 n32 (v40, r38)))) (fun K35 => if x30.1 = 0 then K35 (x30.2 36 0 p1) else if x30.1 = 1 then K35 (x30.2 37 0 p1) else K35 (x30.2 38 0 p1)) := rfl
def f12_apply (m : Cm) (p1 : Int32) : Cm := bnd ((m 33 0 p1)) (fun (v1 : Int32) => jn (fun (v2 : Int32) => bnd (u3 m 36 0 p1 v2) (fun (m5 : Cm) => jn (fun (v7 : Int32) => bnd (u3 m5 37 0 p1 v7) (fun (m10 : Cm) => jn (fun (v12 : Int32) => bnd (u3 m10 38 0 p1 v12) (fun (m15 : Cm) => if (m 42 0 p1) ≤ v1 then if v1 = (m 42 0 p1) then bnd (u3 m15 39 0 p1 (m 0 0 48)) (fun (m24 : Cm) => bnd (u3 m24 40 0 p1 (m 0 0 49)) (fun (m26 : Cm) => bnd (u3 m26 0 0 48 (m 0 0 49)) (fun (m28 : Cm) => jn (fun (y41 : Cm) => bnd (u3 y41 0 0 59 1) (fun (m42 : Cm) => bnd (u3 m42 0 0 60 (y41 44 0 p1)) (fun (m44 : Cm) => bnd (u3 m44 0 0 61 (y41 45 0 p1)) (fun (m46 : Cm) => m46)))) (fun K31 => f12_apply_lp166 p1 K31 5 (0, m28))))) else bnd (u3 m15 0 0 48 (m 39 0 p1)) (fun (m19 : Cm) => bnd (u3 m19 0 0 49 (m 40 0 p1)) (fun (m21 : Cm) => bnd (f12_finish m21 (m 0 0 62)) (fun (r23 : Cm) => r23))) else jn (fun (v48 : Int32) => bnd (f12_valueNext m15 p1 v48) (fun (r52 : Cm) => r52)) (fun K49 => if v1 = 0 then K49 (m 35 0 p1) else bnd (f12_following m15 (m 31 0 p1) (m 34 0 p1)) (fun (r51 : Int32) => K49 r51)))) (fun K13 => if v1 = 3 then K13 (m 0 0 62) else K13 (m 38 0 p1)))) (fun K8 => if v1 = 2 then K8 (m 0 0 62) else K8 (m 37 0 p1)))) (fun K3 => if v1 = 1 then K3 (m 0 0 62) else K3 (m 36 0 p1)))
set_option maxHeartbeats 4000000 in
set_option maxRecDepth 100000 in
theorem mc_X12_apply (l : Launch) (D : va_G) (ta : wTa) (ad : wAd) (M : Wm) (p1 : Int32) (hok : Ok12 (M 12)) (hp1 : vp_in p1 32) (hT : Tx12 (M 12) ((M 12) 31 0 p1)) (hn : ((M 12) 33 0 p1) < ((M 12) 42 0 p1) → ¬ ((M 12) 33 0 p1) = 0 → Ix12 (M 12) ((M 12) 31 0 p1) ((M 12) 34 0 p1)) (ht : ((M 12) 0 0 49).toInt ≤ 97) : MC l D ta ad yX12_apply cX12_apply 4 none 4 [.ref (ad 12 0 0), .int p1] M (fvc M 12 (f12_apply (M 12) p1)) := by
  refine MC.of (fvc M 12) (f12_apply (M 12) p1) rfl (by decide) (Nat.le_of_ble_eq_true rfl) (fun p e s m args below meth c cx hr => ?_)
  unfold f12_apply
  refine mw_sub (lv' := [(0, .ref (ad 12 0 0)), (1, .int p1)]) [0, 1] rfl ?_
  refine mw_eqM (uW_self M 12) ?_
  have ok0 : OkT (M 12) (M 12) := ⟨hok, rfl, rfl⟩
  have hc3 : ((M 12) 42 0 p1).toInt ≤ 3 := (by have := hok.pN _ hp1; rw [vp_in_iff] at this; omega)
  refine mw_aload_n cx (q := 1) 0 rfl rfl dX12_apply_0 rfl ?_
  refine mw_get cx (q := 4) (v := .ref (ad 12 33 0)) gf_X12_104 rfl rfl vi_12_0 dX12_apply_1 rfl ?_
  refine mw_iload_n cx (q := 5) 1 rfl rfl dX12_apply_4 rfl ?_
  refine mw_iald cx (q := 6) (w := ((M 12) 33 0 p1)) rfl (fun _ => rfl) vi_12_33 hp1 dX12_apply_5 rfl ?_
  refine mw_bndT (fun v1 ev1 => ?_)
  refine mw_istore_n cx (q := 7) (lv' := [(2, .int v1), (0, .ref (ad 12 0 0)), (1, .int p1)]) rfl rfl (by decide) dX12_apply_6 rfl ?_
  have hnv : v1 < ((M 12) 42 0 p1) → ¬ v1 = 0 → Ix12 (M 12) ((M 12) 31 0 p1) ((M 12) 34 0 p1) := (by rw [ev1]; exact hn)
  refine mw_aload_n cx (q := 8) 1 rfl rfl dX12_apply_7 rfl ?_
  refine mw_get cx (q := 11) (v := .ref (ad 12 36 0)) gf_X12_113 rfl rfl vi_12_0 dX12_apply_8 rfl ?_
  refine mw_iload_n cx (q := 12) 2 rfl rfl dX12_apply_11 rfl ?_
  refine mw_iload_n cx (q := 13) 0 rfl rfl dX12_apply_12 rfl ?_
  refine mw_iconst cx (q := 14) (v := 1) dX12_apply_13 rfl rfl ?_
  refine mw_jn (Mj := fun (v2 : Int32) => (uW M 12 (M 12))) (pj := 30) (lj := fun (v2 : Int32) => [(0, .ref (ad 12 0 0)), (1, .int p1), (2, .int v1)]) (sj := fun (v2 : Int32) => [.int v2, .int p1, .ref (ad 12 36 0)]) (fun v2 => ?_) (fun K3 hK3 => ?_)
  · refine mw_iastC cx (q := 31) (fun _ => rfl) (by decide) vi_12_36 hp1 (by decide) dX12_apply_30 rfl (fun m5 em5 => ?_)
    have ok6 : OkT (M 12) m5 := (by rw [em5]; exact okT_putA ok0 (by decide))
    refine mw_aload_n cx (q := 32) 0 rfl rfl dX12_apply_31 rfl ?_
    refine mw_get cx (q := 35) (v := .ref (ad 12 37 0)) gf_X12_116 rfl rfl vi_12_0 dX12_apply_32 rfl ?_
    refine mw_iload_n cx (q := 36) 1 rfl rfl dX12_apply_35 rfl ?_
    refine mw_iload_n cx (q := 37) 2 rfl rfl dX12_apply_36 rfl ?_
    refine mw_iconst cx (q := 38) (v := 2) dX12_apply_37 rfl rfl ?_
    refine mw_jn (Mj := fun (v7 : Int32) => (uW M 12 m5)) (pj := 54) (lj := fun (v7 : Int32) => [(0, .ref (ad 12 0 0)), (1, .int p1), (2, .int v1)]) (sj := fun (v7 : Int32) => [.int v7, .int p1, .ref (ad 12 37 0)]) (fun v7 => ?_) (fun K8 hK8 => ?_)
    · refine mw_iastC cx (q := 55) (fun _ => rfl) (by decide) vi_12_37 hp1 (by decide) dX12_apply_54 rfl (fun m10 em10 => ?_)
      have ok11 : OkT (M 12) m10 := (by rw [em10]; exact okT_putA ok6 (by decide))
      refine mw_aload_n cx (q := 56) 0 rfl rfl dX12_apply_55 rfl ?_
      refine mw_get cx (q := 59) (v := .ref (ad 12 38 0)) gf_X12_119 rfl rfl vi_12_0 dX12_apply_56 rfl ?_
      refine mw_iload_n cx (q := 60) 1 rfl rfl dX12_apply_59 rfl ?_
      refine mw_iload_n cx (q := 61) 2 rfl rfl dX12_apply_60 rfl ?_
      refine mw_iconst cx (q := 62) (v := 3) dX12_apply_61 rfl rfl ?_
      refine mw_jn (Mj := fun (v12 : Int32) => (uW M 12 m10)) (pj := 78) (lj := fun (v12 : Int32) => [(0, .ref (ad 12 0 0)), (1, .int p1), (2, .int v1)]) (sj := fun (v12 : Int32) => [.int v12, .int p1, .ref (ad 12 38 0)]) (fun v12 => ?_) (fun K13 hK13 => ?_)
      · refine mw_iastC cx (q := 79) (fun _ => rfl) (by decide) vi_12_38 hp1 (by decide) dX12_apply_78 rfl (fun m15 em15 => ?_)
        have ok16 : OkT (M 12) m15 := (by rw [em15]; exact okT_putA ok11 (by decide))
        refine mw_iload_n cx (q := 80) 2 rfl rfl dX12_apply_79 rfl ?_
        refine mw_aload_n cx (q := 81) 0 rfl rfl dX12_apply_80 rfl ?_
        refine mw_get cx (q := 84) (v := .ref (ad 12 42 0)) gf_X12_131 rfl rfl vi_12_0 dX12_apply_81 rfl ?_
        refine mw_iload_n cx (q := 85) 1 rfl rfl dX12_apply_84 rfl ?_
        refine mw_iald cx (q := 86) (w := ((M 12) 42 0 p1)) (by rw [em15, em10, em5]; rfl) (fun _ => rfl) vi_12_42 hp1 dX12_apply_85 rfl ?_
        refine mw_icmp_ge cx (tgt := 126) (q := 89) dX12_apply_86 (by decide) rfl (fun h17 => ?_) (fun h17 => ?_)
        · refine mw_iload_n cx (q := 127) 2 rfl rfl dX12_apply_126 rfl ?_
          refine mw_aload_n cx (q := 128) 0 rfl rfl dX12_apply_127 rfl ?_
          refine mw_get cx (q := 131) (v := .ref (ad 12 42 0)) gf_X12_131 rfl rfl vi_12_0 dX12_apply_128 rfl ?_
          refine mw_iload_n cx (q := 132) 1 rfl rfl dX12_apply_131 rfl ?_
          refine mw_iald cx (q := 133) (w := ((M 12) 42 0 p1)) (by rw [em15, em10, em5]; rfl) (fun _ => rfl) vi_12_42 hp1 dX12_apply_132 rfl ?_
          refine mw_icmp_ne cx (tgt := 257) (q := 136) dX12_apply_133 (by decide) rfl (fun h18 => ?_) (fun h18 => ?_)
          · refine mw_aload_n cx (q := 258) 0 rfl rfl dX12_apply_257 rfl ?_
            refine mw_aload_n cx (q := 259) 0 rfl rfl dX12_apply_258 rfl ?_
            refine mw_get cx (q := 262) (v := .ref (ad 12 39 0)) gf_X12_122 rfl rfl vi_12_0 dX12_apply_259 rfl ?_
            refine mw_iload_n cx (q := 263) 1 rfl rfl dX12_apply_262 rfl ?_
            refine mw_iald cx (q := 264) (w := ((M 12) 39 0 p1)) (by rw [em15, em10, em5]; rfl) (fun _ => rfl) vi_12_39 hp1 dX12_apply_263 rfl ?_
            refine mw_putC cx (q := 267) 48 gf_X12_248 pf_X12_48 (int_fit _) rfl (Nat.le_of_ble_eq_true rfl) rfl vi_12_0 (by decide) dX12_apply_264 rfl (fun m19 em19 => ?_)
            have ok20 : OkT (M 12) m19 := (by rw [em19]; exact okT_s48 ok16 (ok0.1.pb _ hp1).1)
            refine mw_aload_n cx (q := 268) 0 rfl rfl dX12_apply_267 rfl ?_
            refine mw_aload_n cx (q := 269) 0 rfl rfl dX12_apply_268 rfl ?_
            refine mw_get cx (q := 272) (v := .ref (ad 12 40 0)) gf_X12_125 rfl rfl vi_12_0 dX12_apply_269 rfl ?_
            refine mw_iload_n cx (q := 273) 1 rfl rfl dX12_apply_272 rfl ?_
            refine mw_iald cx (q := 274) (w := ((M 12) 40 0 p1)) (by rw [em19, em15, em10, em5]; rfl) (fun _ => rfl) vi_12_40 hp1 dX12_apply_273 rfl ?_
            refine mw_putC cx (q := 277) 49 gf_X12_251 pf_X12_49 (int_fit _) rfl (Nat.le_of_ble_eq_true rfl) rfl vi_12_0 (by decide) dX12_apply_274 rfl (fun m21 em21 => ?_)
            have ok22 : OkT (M 12) m21 := (by rw [em21]; exact okT_s49 ok20 ⟨(ok0.1.pt _ hp1).1, (ok0.1.pt _ hp1).2⟩)
            refine mw_aload_n cx (q := 278) 0 rfl rfl dX12_apply_277 rfl ?_
            refine mw_aload_n cx (q := 279) 0 rfl rfl dX12_apply_278 rfl ?_
            refine mw_get cx (q := 282) (v := .int ((M 12) 0 0 62)) gf_X12_232 rfl (by rw [em21, em19, em15, em10, em5]; rfl) vi_12_0 dX12_apply_279 rfl ?_
            refine mw_bnd (fun r23 er23 => ?_)
            refine mw_callV cx (q := 285) (d := 0) (As := [.int ((M 12) 0 0 62)]) (z := fvc (uW M 12 m21) 12 r23) (st := []) (st1 := []) (M' := uW M 12 r23) (by rw [er23]; exact mc_X12_finish l D ta ad (uW M 12 m21) ((M 12) 0 0 62)) cv_X12_330 rfl rfl rfl vi_12_0 ⟨Nat.le_of_ble_eq_true rfl, Nat.le_of_ble_eq_true rfl⟩ ⟨Nat.le_refl _, Nat.le_refl _⟩ (by simp [Value.category]) rfl rfl (by exact uW_uW _ _ _ _) dX12_apply_282 rfl ?_
            exact mw_vret cx hr rfl dX12_apply_285
          · refine mw_aload_n cx (q := 137) 0 rfl rfl dX12_apply_136 rfl ?_
            refine mw_get cx (q := 140) (v := .ref (ad 12 39 0)) gf_X12_122 rfl rfl vi_12_0 dX12_apply_137 rfl ?_
            refine mw_iload_n cx (q := 141) 1 rfl rfl dX12_apply_140 rfl ?_
            refine mw_aload_n cx (q := 142) 0 rfl rfl dX12_apply_141 rfl ?_
            refine mw_get cx (q := 145) (v := .int ((M 12) 0 0 48)) gf_X12_248 rfl (by rw [em15, em10, em5]; rfl) vi_12_0 dX12_apply_142 rfl ?_
            refine mw_iastC cx (q := 146) (fun _ => rfl) (by decide) vi_12_39 hp1 (by decide) dX12_apply_145 rfl (fun m24 em24 => ?_)
            have ok25 : OkT (M 12) m24 := (by rw [em24]; exact okT_g39 ok16 ⟨hok.b0, (i32rng _).2⟩)
            refine mw_aload_n cx (q := 147) 0 rfl rfl dX12_apply_146 rfl ?_
            refine mw_get cx (q := 150) (v := .ref (ad 12 40 0)) gf_X12_125 rfl rfl vi_12_0 dX12_apply_147 rfl ?_
            refine mw_iload_n cx (q := 151) 1 rfl rfl dX12_apply_150 rfl ?_
            refine mw_aload_n cx (q := 152) 0 rfl rfl dX12_apply_151 rfl ?_
            refine mw_get cx (q := 155) (v := .int ((M 12) 0 0 49)) gf_X12_251 rfl (by rw [em24, em15, em10, em5]; rfl) vi_12_0 dX12_apply_152 rfl ?_
            refine mw_iastC cx (q := 156) (fun _ => rfl) (by decide) vi_12_40 hp1 (by decide) dX12_apply_155 rfl (fun m26 em26 => ?_)
            have ok27 : OkT (M 12) m26 := (by rw [em26]; exact okT_g40 ok25 ⟨hok.t0, hok.t1⟩)
            refine mw_aload_n cx (q := 157) 0 rfl rfl dX12_apply_156 rfl ?_
            refine mw_aload_n cx (q := 158) 0 rfl rfl dX12_apply_157 rfl ?_
            refine mw_get cx (q := 161) (v := .int ((M 12) 0 0 49)) gf_X12_251 rfl (by rw [em26, em24, em15, em10, em5]; rfl) vi_12_0 dX12_apply_158 rfl ?_
            refine mw_putC cx (q := 164) 48 gf_X12_248 pf_X12_48 (int_fit _) rfl (Nat.le_of_ble_eq_true rfl) rfl vi_12_0 (by decide) dX12_apply_161 rfl (fun m28 em28 => ?_)
            have ok29 : OkT (M 12) m28 := (by rw [em28]; exact okT_s48 ok27 hok.t0)
            refine mw_iconst cx (q := 165) (v := 0) dX12_apply_164 rfl rfl ?_
            refine mw_istore_n cx (q := 166) (lv' := [(3, .int 0), (0, .ref (ad 12 0 0)), (1, .int p1), (2, .int v1)]) rfl rfl (by decide) dX12_apply_165 rfl ?_
            refine mw_jnP (P := fun (y41 : Cm) => (OkT (M 12) y41)) (Mj := fun (y41 : Cm) => (uW M 12 y41)) (pj := 229) (lj := fun (y41 : Cm) => [(0, .ref (ad 12 0 0)), (1, .int p1)]) (sj := fun (y41 : Cm) => []) (fun y41 jy41 => ?_) (fun K31 hK31 => ?_)
            · have jy41_0 := jy41
              refine mw_aload_n cx (q := 230) 0 rfl rfl dX12_apply_229 rfl ?_
              refine mw_iconst cx (q := 231) (v := 1) dX12_apply_230 rfl rfl ?_
              refine mw_putC cx (q := 234) 59 gf_X12_238 pf_X12_59 (by exact ⟨rfl, rfl⟩) rfl (Nat.le_of_ble_eq_true rfl) rfl vi_12_0 (by decide) dX12_apply_231 rfl (fun m42 em42 => ?_)
              have ok43 : OkT (M 12) m42 := (by rw [em42]; exact okT_put0 jy41_0 (by decide))
              refine mw_aload_n cx (q := 235) 0 rfl rfl dX12_apply_234 rfl ?_
              refine mw_aload_n cx (q := 236) 0 rfl rfl dX12_apply_235 rfl ?_
              refine mw_get cx (q := 239) (v := .ref (ad 12 44 0)) gf_X12_137 rfl rfl vi_12_0 dX12_apply_236 rfl ?_
              refine mw_iload_n cx (q := 240) 1 rfl rfl dX12_apply_239 rfl ?_
              refine mw_iald cx (q := 241) (w := (y41 44 0 p1)) (by rw [em42]; rfl) (fun _ => rfl) vi_12_44 hp1 dX12_apply_240 rfl ?_
              refine mw_putC cx (q := 244) 60 gf_X12_242 pf_X12_60 (int_fit _) rfl (Nat.le_of_ble_eq_true rfl) rfl vi_12_0 (by decide) dX12_apply_241 rfl (fun m44 em44 => ?_)
              have ok45 : OkT (M 12) m44 := (by rw [em44]; exact okT_s60 ok43 (jy41_0.1.pB _ hp1))
              refine mw_aload_n cx (q := 245) 0 rfl rfl dX12_apply_244 rfl ?_
              refine mw_aload_n cx (q := 246) 0 rfl rfl dX12_apply_245 rfl ?_
              refine mw_get cx (q := 249) (v := .ref (ad 12 45 0)) gf_X12_140 rfl rfl vi_12_0 dX12_apply_246 rfl ?_
              refine mw_iload_n cx (q := 250) 1 rfl rfl dX12_apply_249 rfl ?_
              refine mw_iald cx (q := 251) (w := (y41 45 0 p1)) (by rw [em44, em42]; rfl) (fun _ => rfl) vi_12_45 hp1 dX12_apply_250 rfl ?_
              refine mw_putC cx (q := 254) 61 gf_X12_245 pf_X12_61 (int_fit _) rfl (Nat.le_of_ble_eq_true rfl) rfl vi_12_0 (by decide) dX12_apply_251 rfl (fun m46 em46 => ?_)
              have ok47 : OkT (M 12) m46 := (by rw [em46]; exact okT_put0 ok45 (by decide))
              refine mw_goto cx (tgt := 285) dX12_apply_254 (by decide) ?_
              exact mw_vret cx hr rfl dX12_apply_285
            · refine mw_sub [0, 1, 2] rfl ?_
              refine mw_loop (F := f12_apply_lp166 p1 K31) (I := fun (x30 : Int32 × Cm) => (0 ≤ (x30.1).toInt) ∧ ((x30.2 0 0 49).toInt = ((M 12) 0 0 49).toInt + (x30.1).toInt) ∧ (x30.2 42 = (M 12) 42) ∧ (OkT (M 12) x30.2)) (μ := fun (x30 : Int32 × Cm) => (4 - (x30.1).toInt).toNat) (Mx := fun (x30 : Int32 × Cm) => (uW M 12 x30.2)) (px := 166) (lx := fun (x30 : Int32 × Cm) => [(3, .int x30.1), (0, .ref (ad 12 0 0)), (1, .int p1)]) (fun n32 x30 ivx30 ih => ?_) 5 (0, m28) ⟨(by (try simp only [vp_in_iff, i32lt, i32le, i32eq, i32add, i32sub, i32mul, i32neg, t32_0]); omega), (by show (m28 0 0 49).toInt = ((M 12) 0 0 49).toInt + (0 : Int); rw [em28, em26, em24, em15, em10, em5, Int.add_zero]; rfl), (by show m28 42 = (M 12) 42; rw [em28, em26, em24, em15, em10, em5]; rfl), ok29⟩ (by (try simp only [vp_in_iff, i32lt, i32le, i32eq, i32add, i32sub, i32mul, i32neg, t32_0, t32_4, t32_5]); omega)
              obtain ⟨ivx30_0, ivx30_1, ivx30_2, ivx30_3⟩ := ivx30
              refine mw_eqS (f12_apply_lp166_s p1 K31 n32 x30) ?_
              refine mw_iload_n cx (q := 167) 0 rfl rfl dX12_apply_166 rfl ?_
              refine mw_aload_n cx (q := 168) 1 rfl rfl dX12_apply_167 rfl ?_
              refine mw_get cx (q := 171) (v := .ref (ad 12 42 0)) gf_X12_131 rfl rfl vi_12_0 dX12_apply_168 rfl ?_
              refine mw_iload_n cx (q := 172) 2 rfl rfl dX12_apply_171 rfl ?_
              refine mw_iald cx (q := 173) (w := (x30.2 42 0 p1)) rfl (fun _ => rfl) vi_12_42 hp1 dX12_apply_172 rfl ?_
              refine mw_icmp_ge cx (tgt := 229) (q := 176) dX12_apply_173 (by decide) rfl (fun h33 => ?_) (fun h33 => ?_)
              · refine mw_sub [1, 2] rfl ?_
                exact hK31 x30.2 ivx30_3
              · refine mw_aload_n cx (q := 177) 1 rfl rfl dX12_apply_176 rfl ?_
                refine mw_aload_n cx (q := 178) 1 rfl rfl dX12_apply_177 rfl ?_
                refine mw_get cx (q := 181) (v := .ref (ad 12 43 0)) gf_X12_134 rfl rfl vi_12_0 dX12_apply_178 rfl ?_
                refine mw_iconst cx (q := 182) (v := 3) dX12_apply_181 rfl rfl ?_
                refine mw_iload_n cx (q := 183) 2 rfl rfl dX12_apply_182 rfl ?_
                refine mw_imul cx (q := 184) dX12_apply_183 rfl ?_
                refine mw_iload_n cx (q := 185) 0 rfl rfl dX12_apply_184 rfl ?_
                refine mw_iadd cx (q := 186) dX12_apply_185 rfl ?_
                refine mw_iald cx (q := 187) (w := (x30.2 43 0 ((3 * p1) + x30.1))) rfl (fun _ => rfl) vi_12_43 (idx3_96 hp1 (by have hz := h33; rw [ivx30_2] at hz; simp only [i32le] at hz; have h0 := ivx30_0; rw [vp_in_iff]; omega)) dX12_apply_186 rfl ?_
                refine mw_iload_n cx (q := 188) 0 rfl rfl dX12_apply_187 rfl ?_
                refine mw_jn (Mj := fun (v34 : Int32) => (uW M 12 x30.2)) (pj := 220) (lj := fun (v34 : Int32) => [(0, .ref (ad 12 0 0)), (1, .int p1), (3, .int x30.1)]) (sj := fun (v34 : Int32) => [.int v34, .int (x30.2 43 0 ((3 * p1) + x30.1)), .ref (ad 12 0 0)]) (fun v34 => ?_) (fun K35 hK35 => ?_)
                · refine mw_bnd (fun r38 er38 => ?_)
                  refine mw_callV cx (q := 223) (d := 0) (As := [.int (x30.2 43 0 ((3 * p1) + x30.1)), .int v34]) (z := fvc (uW M 12 x30.2) 12 r38) (st := []) (st1 := []) (M' := uW M 12 r38) (by rw [er38]; exact mc_X12_bind l D ta ad (uW M 12 x30.2) (x30.2 43 0 ((3 * p1) + x30.1)) v34 (ivx30_3.1) (by show (x30.2 0 0 49).toInt < 100; have hz := h33; rw [ivx30_2] at hz; simp only [i32le] at hz; have h1 := ivx30_1; omega)) cv_X12_333 rfl rfl rfl vi_12_0 ⟨Nat.le_of_ble_eq_true rfl, Nat.le_of_ble_eq_true rfl⟩ ⟨Nat.le_refl _, Nat.le_refl _⟩ (by simp [Value.category]) rfl rfl (by exact uW_uW _ _ _ _) dX12_apply_220 rfl ?_
                  have ok39 : OkT (M 12) r38 := (by rw [er38]; exact okT_f12_bind ivx30_3 (x30.2 43 0 ((3 * p1) + x30.1)) v34 (by show (x30.2 0 0 49).toInt < 100; have hz := h33; rw [ivx30_2] at hz; simp only [i32le] at hz; have h1 := ivx30_1; omega))
                  have hb49 : (r38 0 0 49).toInt = (x30.2 0 0 49).toInt + 1 := (by rw [er38, bind_49]; exact inc_t (by have h1 := ivx30_1; have h2 := ivx30_0; have h3 := hok.t0; omega) (by have hz := h33; rw [ivx30_2] at hz; simp only [i32le] at hz; have h1 := ivx30_1; omega))
                  have hb42 : r38 42 = x30.2 42 := (by rw [er38]; exact bind_42 _ _ _)
                  refine mw_bnd (fun v40 ev40 => ?_)
                  refine mw_iinc cx (q := 226) (v := v40) (lv' := [(3, .int v40), (0, .ref (ad 12 0 0)), (1, .int p1)]) 2 rfl (by rw [ev40]; rfl) rfl (by decide) dX12_apply_223 rfl ?_
                  refine mw_goto cx (tgt := 166) dX12_apply_226 (by decide) ?_
                  exact ih (v40, r38) ⟨(by have hz := h33; rw [ivx30_2] at hz; simp only [i32le] at hz; have h0 := ivx30_0; rw [ev40, inc_t h0 (by omega)]; omega), (by have hz := h33; rw [ivx30_2] at hz; simp only [i32le] at hz; have h0 := ivx30_0; have h1 := ivx30_1; rw [hb49, ev40, inc_t h0 (by omega)]; omega), (by show r38 42 = (M 12) 42; rw [hb42]; exact ivx30_2), ok39⟩ (by have hz := h33; rw [ivx30_2] at hz; simp only [i32le] at hz; have h0 := ivx30_0; rw [ev40, inc_t h0 (by omega)]; omega)
                · refine mw_if_ne cx (tgt := 200) (q := 191) dX12_apply_188 (by decide) rfl (fun h36 => ?_) (fun h36 => ?_)
                  · refine mw_iload_n cx (q := 201) 0 rfl rfl dX12_apply_200 rfl ?_
                    refine mw_iconst cx (q := 202) (v := 1) dX12_apply_201 rfl rfl ?_
                    refine mw_icmp_ne cx (tgt := 214) (q := 205) dX12_apply_202 (by decide) rfl (fun h37 => ?_) (fun h37 => ?_)
                    · refine mw_aload_n cx (q := 215) 1 rfl rfl dX12_apply_214 rfl ?_
                      refine mw_get cx (q := 218) (v := .ref (ad 12 38 0)) gf_X12_119 rfl rfl vi_12_0 dX12_apply_215 rfl ?_
                      refine mw_iload_n cx (q := 219) 2 rfl rfl dX12_apply_218 rfl ?_
                      refine mw_iald cx (q := 220) (w := (x30.2 38 0 p1)) rfl (fun _ => rfl) vi_12_38 hp1 dX12_apply_219 rfl ?_
                      refine mw_sub [1, 2, 0] rfl ?_
                      exact hK35 (x30.2 38 0 p1)
                    · refine mw_aload_n cx (q := 206) 1 rfl rfl dX12_apply_205 rfl ?_
                      refine mw_get cx (q := 209) (v := .ref (ad 12 37 0)) gf_X12_116 rfl rfl vi_12_0 dX12_apply_206 rfl ?_
                      refine mw_iload_n cx (q := 210) 2 rfl rfl dX12_apply_209 rfl ?_
                      refine mw_iald cx (q := 211) (w := (x30.2 37 0 p1)) rfl (fun _ => rfl) vi_12_37 hp1 dX12_apply_210 rfl ?_
                      refine mw_goto cx (tgt := 220) dX12_apply_211 (by decide) ?_
                      refine mw_sub [1, 2, 0] rfl ?_
                      exact hK35 (x30.2 37 0 p1)
                  · refine mw_aload_n cx (q := 192) 1 rfl rfl dX12_apply_191 rfl ?_
                    refine mw_get cx (q := 195) (v := .ref (ad 12 36 0)) gf_X12_113 rfl rfl vi_12_0 dX12_apply_192 rfl ?_
                    refine mw_iload_n cx (q := 196) 2 rfl rfl dX12_apply_195 rfl ?_
                    refine mw_iald cx (q := 197) (w := (x30.2 36 0 p1)) rfl (fun _ => rfl) vi_12_36 hp1 dX12_apply_196 rfl ?_
                    refine mw_goto cx (tgt := 220) dX12_apply_197 (by decide) ?_
                    refine mw_sub [1, 2, 0] rfl ?_
                    exact hK35 (x30.2 36 0 p1)
        · refine mw_aload_n cx (q := 90) 0 rfl rfl dX12_apply_89 rfl ?_
          refine mw_iload_n cx (q := 91) 1 rfl rfl dX12_apply_90 rfl ?_
          refine mw_iload_n cx (q := 92) 2 rfl rfl dX12_apply_91 rfl ?_
          refine mw_jn (Mj := fun (v48 : Int32) => (uW M 12 m15)) (pj := 120) (lj := fun (v48 : Int32) => []) (sj := fun (v48 : Int32) => [.int v48, .int p1, .ref (ad 12 0 0)]) (fun v48 => ?_) (fun K49 hK49 => ?_)
          · refine mw_bnd (fun r52 er52 => ?_)
            refine mw_callV cx (q := 123) (d := 0) (As := [.int p1, .int v48]) (z := fvc (uW M 12 m15) 12 r52) (st := []) (st1 := []) (M' := uW M 12 r52) (by rw [er52]; exact mc_X12_valueNext l D ta ad (uW M 12 m15) p1 v48 hp1) cv_X12_323 rfl rfl rfl vi_12_0 ⟨Nat.le_of_ble_eq_true rfl, Nat.le_of_ble_eq_true rfl⟩ ⟨Nat.le_refl _, Nat.le_refl _⟩ (by simp [Value.category]) rfl rfl (by exact uW_uW _ _ _ _) dX12_apply_120 rfl ?_
            refine mw_goto cx (tgt := 285) dX12_apply_123 (by decide) ?_
            exact mw_vret cx hr rfl dX12_apply_285
          · refine mw_if_ne cx (tgt := 104) (q := 95) dX12_apply_92 (by decide) rfl (fun h50 => ?_) (fun h50 => ?_)
            · refine mw_aload_n cx (q := 105) 0 rfl rfl dX12_apply_104 rfl ?_
              refine mw_aload_n cx (q := 106) 0 rfl rfl dX12_apply_105 rfl ?_
              refine mw_get cx (q := 109) (v := .ref (ad 12 31 0)) gf_X12_98 rfl rfl vi_12_0 dX12_apply_106 rfl ?_
              refine mw_iload_n cx (q := 110) 1 rfl rfl dX12_apply_109 rfl ?_
              refine mw_iald cx (q := 111) (w := ((M 12) 31 0 p1)) (by rw [em15, em10, em5]; rfl) (fun _ => rfl) vi_12_31 hp1 dX12_apply_110 rfl ?_
              refine mw_aload_n cx (q := 112) 0 rfl rfl dX12_apply_111 rfl ?_
              refine mw_get cx (q := 115) (v := .ref (ad 12 34 0)) gf_X12_107 rfl rfl vi_12_0 dX12_apply_112 rfl ?_
              refine mw_iload_n cx (q := 116) 1 rfl rfl dX12_apply_115 rfl ?_
              refine mw_iald cx (q := 117) (w := ((M 12) 34 0 p1)) (by rw [em15, em10, em5]; rfl) (fun _ => rfl) vi_12_34 hp1 dX12_apply_116 rfl ?_
              refine mw_bnd (fun r51 er51 => ?_)
              refine mw_callV cx (q := 120) (d := 3) (As := [.int ((M 12) 31 0 p1), .int ((M 12) 34 0 p1)]) (z := fip (uW M 12 m15) r51) (st := [.int p1, .ref (ad 12 0 0)]) (st1 := [.int r51, .int p1, .ref (ad 12 0 0)]) (M' := (uW M 12 m15)) (by rw [er51]; exact mc_X12_following l D ta ad (uW M 12 m15) ((M 12) 31 0 p1) ((M 12) 34 0 p1) (ok16.1) (ok0.1.pS _ hp1) (Tx12.fr ok16.2 hT) (Ix12.fr ok16.2 (hnv (i32_nle (by assumption)) (by assumption)))) cv_X12_201 rfl rfl rfl vi_12_0 ⟨Nat.le_of_ble_eq_true rfl, Nat.le_of_ble_eq_true rfl⟩ ⟨Nat.le_refl _, Nat.le_refl _⟩ (by simp [Value.category]) rfl rfl rfl dX12_apply_117 rfl ?_
              have qr510 : Nx12 m15 ((M 12) 31 0 p1) r51 := (by rw [er51]; exact following_n (ok16.1) (ok0.1.pS _ hp1) (Tx12.fr ok16.2 hT) (Ix12.fr ok16.2 (hnv (i32_nle (by assumption)) (by assumption))))
              refine mw_sub [] rfl ?_
              exact hK49 r51
            · refine mw_aload_n cx (q := 96) 0 rfl rfl dX12_apply_95 rfl ?_
              refine mw_get cx (q := 99) (v := .ref (ad 12 35 0)) gf_X12_110 rfl rfl vi_12_0 dX12_apply_96 rfl ?_
              refine mw_iload_n cx (q := 100) 1 rfl rfl dX12_apply_99 rfl ?_
              refine mw_iald cx (q := 101) (w := ((M 12) 35 0 p1)) (by rw [em15, em10, em5]; rfl) (fun _ => rfl) vi_12_35 hp1 dX12_apply_100 rfl ?_
              refine mw_goto cx (tgt := 120) dX12_apply_101 (by decide) ?_
              refine mw_sub [] rfl ?_
              exact hK49 ((M 12) 35 0 p1)
      · refine mw_icmp_ne cx (tgt := 72) (q := 65) dX12_apply_62 (by decide) rfl (fun h14 => ?_) (fun h14 => ?_)
        · refine mw_aload_n cx (q := 73) 0 rfl rfl dX12_apply_72 rfl ?_
          refine mw_get cx (q := 76) (v := .ref (ad 12 38 0)) gf_X12_119 rfl rfl vi_12_0 dX12_apply_73 rfl ?_
          refine mw_iload_n cx (q := 77) 1 rfl rfl dX12_apply_76 rfl ?_
          refine mw_iald cx (q := 78) (w := ((M 12) 38 0 p1)) (by rw [em10, em5]; rfl) (fun _ => rfl) vi_12_38 hp1 dX12_apply_77 rfl ?_
          exact hK13 ((M 12) 38 0 p1)
        · refine mw_aload_n cx (q := 66) 0 rfl rfl dX12_apply_65 rfl ?_
          refine mw_get cx (q := 69) (v := .int ((M 12) 0 0 62)) gf_X12_232 rfl (by rw [em10, em5]; rfl) vi_12_0 dX12_apply_66 rfl ?_
          refine mw_goto cx (tgt := 78) dX12_apply_69 (by decide) ?_
          exact hK13 ((M 12) 0 0 62)
    · refine mw_icmp_ne cx (tgt := 48) (q := 41) dX12_apply_38 (by decide) rfl (fun h9 => ?_) (fun h9 => ?_)
      · refine mw_aload_n cx (q := 49) 0 rfl rfl dX12_apply_48 rfl ?_
        refine mw_get cx (q := 52) (v := .ref (ad 12 37 0)) gf_X12_116 rfl rfl vi_12_0 dX12_apply_49 rfl ?_
        refine mw_iload_n cx (q := 53) 1 rfl rfl dX12_apply_52 rfl ?_
        refine mw_iald cx (q := 54) (w := ((M 12) 37 0 p1)) (by rw [em5]; rfl) (fun _ => rfl) vi_12_37 hp1 dX12_apply_53 rfl ?_
        exact hK8 ((M 12) 37 0 p1)
      · refine mw_aload_n cx (q := 42) 0 rfl rfl dX12_apply_41 rfl ?_
        refine mw_get cx (q := 45) (v := .int ((M 12) 0 0 62)) gf_X12_232 rfl (by rw [em5]; rfl) vi_12_0 dX12_apply_42 rfl ?_
        refine mw_goto cx (tgt := 54) dX12_apply_45 (by decide) ?_
        exact hK8 ((M 12) 0 0 62)
  · refine mw_icmp_ne cx (tgt := 24) (q := 17) dX12_apply_14 (by decide) rfl (fun h4 => ?_) (fun h4 => ?_)
    · refine mw_aload_n cx (q := 25) 1 rfl rfl dX12_apply_24 rfl ?_
      refine mw_get cx (q := 28) (v := .ref (ad 12 36 0)) gf_X12_113 rfl rfl vi_12_0 dX12_apply_25 rfl ?_
      refine mw_iload_n cx (q := 29) 2 rfl rfl dX12_apply_28 rfl ?_
      refine mw_iald cx (q := 30) (w := ((M 12) 36 0 p1)) rfl (fun _ => rfl) vi_12_36 hp1 dX12_apply_29 rfl ?_
      refine mw_sub [1, 2, 0] rfl ?_
      exact hK3 ((M 12) 36 0 p1)
    · refine mw_aload_n cx (q := 18) 1 rfl rfl dX12_apply_17 rfl ?_
      refine mw_get cx (q := 21) (v := .int ((M 12) 0 0 62)) gf_X12_232 rfl rfl vi_12_0 dX12_apply_18 rfl ?_
      refine mw_goto cx (tgt := 30) dX12_apply_21 (by decide) ?_
      refine mw_sub [1, 2, 0] rfl ?_
      exact hK3 ((M 12) 0 0 62)
def f12_runScript (m : Cm) (p1 : Int32) : Cm := if (m 33 0 p1) = 0 then bnd (f12_valueNext m p1 (m 35 0 p1)) (fun (r45 : Cm) => r45) else if (m 33 0 p1) = 1 then bnd (f12_isScript (m 0 0 62)) (fun (r16 : Bool) => if r16 = true then bnd (f12_faultOf m (m 0 0 62)) (fun (r20 : Int32) => if r20 = (-1) then bnd (u3 m 41 0 p1 (m 0 0 62)) (fun (m22 : Cm) => bnd (u3 m22 39 0 p1 (m 0 0 48)) (fun (m24 : Cm) => bnd (u3 m24 0 0 48 (m 0 0 49)) (fun (m26 : Cm) => bnd (f12_nextAt m26 (m 0 0 62) 0) (fun (r28 : Int32) => bnd (u3 m26 34 0 p1 r28) (fun (m29 : Cm) => bnd (u3 m29 0 0 62 0) (fun (m31 : Cm) => if (m29 34 0 p1) = (-1) then bnd (u3 m31 0 0 48 (m24 39 0 p1)) (fun (m40 : Cm) => bnd (f12_finish m40 0) (fun (r42 : Cm) => r42)) else bnd (u3 m31 0 0 59 1) (fun (m34 : Cm) => bnd (u3 m34 0 0 60 (m22 41 0 p1)) (fun (m36 : Cm) => bnd (u3 m36 0 0 61 (m29 34 0 p1)) (fun (m38 : Cm) => m38))))))))) else bnd (u3 m 0 0 63 6) (fun (m43 : Cm) => m43)) else bnd (u3 m 0 0 63 6) (fun (m18 : Cm) => m18)) else bnd (f12_following m (m 41 0 p1) (m 34 0 p1)) (fun (r3 : Int32) => bnd (u3 m 34 0 p1 r3) (fun (m4 : Cm) => if (m4 34 0 p1) = (-1) then bnd (u3 m4 0 0 48 (m 39 0 p1)) (fun (m13 : Cm) => bnd (f12_finish m13 (m 0 0 62)) (fun (r15 : Cm) => r15)) else bnd (u3 m4 0 0 59 1) (fun (m7 : Cm) => bnd (u3 m7 0 0 60 (m 41 0 p1)) (fun (m9 : Cm) => bnd (u3 m9 0 0 61 (m4 34 0 p1)) (fun (m11 : Cm) => m11)))))
set_option maxHeartbeats 4000000 in
set_option maxRecDepth 100000 in
theorem mc_X12_runScript (l : Launch) (D : va_G) (ta : wTa) (ad : wAd) (M : Wm) (p1 : Int32) (hok : Ok12 (M 12)) (hp1 : vp_in p1 32) (hT : Tx12 (M 12) ((M 12) 31 0 p1)) (hc : ¬ ((M 12) 33 0 p1) = 0 → ¬ ((M 12) 33 0 p1) = 1 → Tx12 (M 12) ((M 12) 41 0 p1) ∧ Ix12 (M 12) ((M 12) 41 0 p1) ((M 12) 34 0 p1)) : MC l D ta ad yX12_runScript cX12_runScript 2 none 4 [.ref (ad 12 0 0), .int p1] M (fvc M 12 (f12_runScript (M 12) p1)) := by
  refine MC.of (fvc M 12) (f12_runScript (M 12) p1) rfl (by decide) (Nat.le_of_ble_eq_true rfl) (fun p e s m args below meth c cx hr => ?_)
  unfold f12_runScript
  refine mw_sub (lv' := [(0, .ref (ad 12 0 0)), (1, .int p1)]) [0, 1] rfl ?_
  refine mw_eqM (uW_self M 12) ?_
  have ok0 : OkT (M 12) (M 12) := ⟨hok, rfl, rfl⟩
  refine mw_aload_n cx (q := 1) 0 rfl rfl dX12_runScript_0 rfl ?_
  refine mw_get cx (q := 4) (v := .ref (ad 12 33 0)) gf_X12_104 rfl rfl vi_12_0 dX12_runScript_1 rfl ?_
  refine mw_iload_n cx (q := 5) 1 rfl rfl dX12_runScript_4 rfl ?_
  refine mw_iald cx (q := 6) (w := ((M 12) 33 0 p1)) rfl (fun _ => rfl) vi_12_33 hp1 dX12_runScript_5 rfl ?_
  refine mw_if_ne cx (tgt := 21) (q := 9) dX12_runScript_6 (by decide) rfl (fun h1 => ?_) (fun h1 => ?_)
  · refine mw_aload_n cx (q := 22) 0 rfl rfl dX12_runScript_21 rfl ?_
    refine mw_get cx (q := 25) (v := .ref (ad 12 33 0)) gf_X12_104 rfl rfl vi_12_0 dX12_runScript_22 rfl ?_
    refine mw_iload_n cx (q := 26) 1 rfl rfl dX12_runScript_25 rfl ?_
    refine mw_iald cx (q := 27) (w := ((M 12) 33 0 p1)) rfl (fun _ => rfl) vi_12_33 hp1 dX12_runScript_26 rfl ?_
    refine mw_iconst cx (q := 28) (v := 1) dX12_runScript_27 rfl rfl ?_
    refine mw_icmp_ne cx (tgt := 111) (q := 31) dX12_runScript_28 (by decide) rfl (fun h2 => ?_) (fun h2 => ?_)
    · refine mw_aload_n cx (q := 112) 0 rfl rfl dX12_runScript_111 rfl ?_
      refine mw_get cx (q := 115) (v := .ref (ad 12 34 0)) gf_X12_107 rfl rfl vi_12_0 dX12_runScript_112 rfl ?_
      refine mw_iload_n cx (q := 116) 1 rfl rfl dX12_runScript_115 rfl ?_
      refine mw_aload_n cx (q := 117) 0 rfl rfl dX12_runScript_116 rfl ?_
      refine mw_aload_n cx (q := 118) 0 rfl rfl dX12_runScript_117 rfl ?_
      refine mw_get cx (q := 121) (v := .ref (ad 12 41 0)) gf_X12_128 rfl rfl vi_12_0 dX12_runScript_118 rfl ?_
      refine mw_iload_n cx (q := 122) 1 rfl rfl dX12_runScript_121 rfl ?_
      refine mw_iald cx (q := 123) (w := ((M 12) 41 0 p1)) rfl (fun _ => rfl) vi_12_41 hp1 dX12_runScript_122 rfl ?_
      refine mw_aload_n cx (q := 124) 0 rfl rfl dX12_runScript_123 rfl ?_
      refine mw_get cx (q := 127) (v := .ref (ad 12 34 0)) gf_X12_107 rfl rfl vi_12_0 dX12_runScript_124 rfl ?_
      refine mw_iload_n cx (q := 128) 1 rfl rfl dX12_runScript_127 rfl ?_
      refine mw_iald cx (q := 129) (w := ((M 12) 34 0 p1)) rfl (fun _ => rfl) vi_12_34 hp1 dX12_runScript_128 rfl ?_
      refine mw_bnd (fun r3 er3 => ?_)
      refine mw_callV cx (q := 132) (d := 3) (As := [.int ((M 12) 41 0 p1), .int ((M 12) 34 0 p1)]) (z := fip (uW M 12 (M 12)) r3) (st := [.int p1, .ref (ad 12 34 0)]) (st1 := [.int r3, .int p1, .ref (ad 12 34 0)]) (M' := (uW M 12 (M 12))) (by rw [er3]; exact mc_X12_following l D ta ad (uW M 12 (M 12)) ((M 12) 41 0 p1) ((M 12) 34 0 p1) (ok0.1) (ok0.1.pC _ hp1) (hc (by assumption) (by assumption)).1 (hc (by assumption) (by assumption)).2) cv_X12_201 rfl rfl rfl vi_12_0 ⟨Nat.le_of_ble_eq_true rfl, Nat.le_of_ble_eq_true rfl⟩ ⟨Nat.le_refl _, Nat.le_refl _⟩ (by simp [Value.category]) rfl rfl rfl dX12_runScript_129 rfl ?_
      have qr30 : Nx12 (M 12) ((M 12) 41 0 p1) r3 := (by rw [er3]; exact following_n (ok0.1) (ok0.1.pC _ hp1) (hc (by assumption) (by assumption)).1 (hc (by assumption) (by assumption)).2)
      refine mw_iastC cx (q := 133) (fun _ => rfl) (by decide) vi_12_34 hp1 (by decide) dX12_runScript_132 rfl (fun m4 em4 => ?_)
      have ok5 : OkT (M 12) m4 := (by rw [em4]; exact okT_putA ok0 (by decide))
      refine mw_aload_n cx (q := 134) 0 rfl rfl dX12_runScript_133 rfl ?_
      refine mw_get cx (q := 137) (v := .ref (ad 12 34 0)) gf_X12_107 rfl rfl vi_12_0 dX12_runScript_134 rfl ?_
      refine mw_iload_n cx (q := 138) 1 rfl rfl dX12_runScript_137 rfl ?_
      refine mw_iald cx (q := 139) (w := (m4 34 0 p1)) rfl (fun _ => rfl) vi_12_34 hp1 dX12_runScript_138 rfl ?_
      refine mw_iconst cx (q := 140) (v := (-1)) dX12_runScript_139 rfl rfl ?_
      refine mw_icmp_ne cx (tgt := 164) (q := 143) dX12_runScript_140 (by decide) rfl (fun h6 => ?_) (fun h6 => ?_)
      · refine mw_aload_n cx (q := 165) 0 rfl rfl dX12_runScript_164 rfl ?_
        refine mw_iconst cx (q := 166) (v := 1) dX12_runScript_165 rfl rfl ?_
        refine mw_putC cx (q := 169) 59 gf_X12_238 pf_X12_59 (by exact ⟨rfl, rfl⟩) rfl (Nat.le_of_ble_eq_true rfl) rfl vi_12_0 (by decide) dX12_runScript_166 rfl (fun m7 em7 => ?_)
        have ok8 : OkT (M 12) m7 := (by rw [em7]; exact okT_put0 ok5 (by decide))
        refine mw_aload_n cx (q := 170) 0 rfl rfl dX12_runScript_169 rfl ?_
        refine mw_aload_n cx (q := 171) 0 rfl rfl dX12_runScript_170 rfl ?_
        refine mw_get cx (q := 174) (v := .ref (ad 12 41 0)) gf_X12_128 rfl rfl vi_12_0 dX12_runScript_171 rfl ?_
        refine mw_iload_n cx (q := 175) 1 rfl rfl dX12_runScript_174 rfl ?_
        refine mw_iald cx (q := 176) (w := ((M 12) 41 0 p1)) (by rw [em7, em4]; rfl) (fun _ => rfl) vi_12_41 hp1 dX12_runScript_175 rfl ?_
        refine mw_putC cx (q := 179) 60 gf_X12_242 pf_X12_60 (int_fit _) rfl (Nat.le_of_ble_eq_true rfl) rfl vi_12_0 (by decide) dX12_runScript_176 rfl (fun m9 em9 => ?_)
        have ok10 : OkT (M 12) m9 := (by rw [em9]; exact okT_s60 ok8 (ok0.1.pC _ hp1))
        refine mw_aload_n cx (q := 180) 0 rfl rfl dX12_runScript_179 rfl ?_
        refine mw_aload_n cx (q := 181) 0 rfl rfl dX12_runScript_180 rfl ?_
        refine mw_get cx (q := 184) (v := .ref (ad 12 34 0)) gf_X12_107 rfl rfl vi_12_0 dX12_runScript_181 rfl ?_
        refine mw_iload_n cx (q := 185) 1 rfl rfl dX12_runScript_184 rfl ?_
        refine mw_iald cx (q := 186) (w := (m4 34 0 p1)) (by rw [em9, em7]; rfl) (fun _ => rfl) vi_12_34 hp1 dX12_runScript_185 rfl ?_
        refine mw_putC cx (q := 189) 61 gf_X12_245 pf_X12_61 (int_fit _) rfl (Nat.le_of_ble_eq_true rfl) rfl vi_12_0 (by decide) dX12_runScript_186 rfl (fun m11 em11 => ?_)
        have ok12 : OkT (M 12) m11 := (by rw [em11]; exact okT_put0 ok10 (by decide))
        exact mw_vret cx hr rfl dX12_runScript_189
      · refine mw_aload_n cx (q := 144) 0 rfl rfl dX12_runScript_143 rfl ?_
        refine mw_aload_n cx (q := 145) 0 rfl rfl dX12_runScript_144 rfl ?_
        refine mw_get cx (q := 148) (v := .ref (ad 12 39 0)) gf_X12_122 rfl rfl vi_12_0 dX12_runScript_145 rfl ?_
        refine mw_iload_n cx (q := 149) 1 rfl rfl dX12_runScript_148 rfl ?_
        refine mw_iald cx (q := 150) (w := ((M 12) 39 0 p1)) (by rw [em4]; rfl) (fun _ => rfl) vi_12_39 hp1 dX12_runScript_149 rfl ?_
        refine mw_putC cx (q := 153) 48 gf_X12_248 pf_X12_48 (int_fit _) rfl (Nat.le_of_ble_eq_true rfl) rfl vi_12_0 (by decide) dX12_runScript_150 rfl (fun m13 em13 => ?_)
        have ok14 : OkT (M 12) m13 := (by rw [em13]; exact okT_s48 ok5 (ok0.1.pb _ hp1).1)
        refine mw_aload_n cx (q := 154) 0 rfl rfl dX12_runScript_153 rfl ?_
        refine mw_aload_n cx (q := 155) 0 rfl rfl dX12_runScript_154 rfl ?_
        refine mw_get cx (q := 158) (v := .int ((M 12) 0 0 62)) gf_X12_232 rfl (by rw [em13, em4]; rfl) vi_12_0 dX12_runScript_155 rfl ?_
        refine mw_bnd (fun r15 er15 => ?_)
        refine mw_callV cx (q := 161) (d := 0) (As := [.int ((M 12) 0 0 62)]) (z := fvc (uW M 12 m13) 12 r15) (st := []) (st1 := []) (M' := uW M 12 r15) (by rw [er15]; exact mc_X12_finish l D ta ad (uW M 12 m13) ((M 12) 0 0 62)) cv_X12_330 rfl rfl rfl vi_12_0 ⟨Nat.le_of_ble_eq_true rfl, Nat.le_of_ble_eq_true rfl⟩ ⟨Nat.le_refl _, Nat.le_refl _⟩ (by simp [Value.category]) rfl rfl (by exact uW_uW _ _ _ _) dX12_runScript_158 rfl ?_
        refine mw_goto cx (tgt := 189) dX12_runScript_161 (by decide) ?_
        exact mw_vret cx hr rfl dX12_runScript_189
    · refine mw_aload_n cx (q := 32) 0 rfl rfl dX12_runScript_31 rfl ?_
      refine mw_get cx (q := 35) (v := .int ((M 12) 0 0 62)) gf_X12_232 rfl rfl vi_12_0 dX12_runScript_32 rfl ?_
      refine mw_bnd (fun r16 er16 => ?_)
      refine mw_callS cx (q := 38) (d := 1) (As := [.int ((M 12) 0 0 62)]) (z := fzp (uW M 12 (M 12)) r16) (st := []) (st1 := [.int (b2i r16)]) (M' := (uW M 12 (M 12))) (by rw [er16]; exact mc_X12_isScript l D ta ad (uW M 12 (M 12)) ((M 12) 0 0 62)) cv_X12_178 ⟨Nat.le_of_ble_eq_true rfl, Nat.le_of_ble_eq_true rfl⟩ ⟨Nat.le_refl _, Nat.le_refl _⟩ (by simp [Value.category]) rfl rfl rfl dX12_runScript_35 rfl ?_
      have qr160 : r16 = true → vp_in ((M 12) 0 0 62) 8 := (fun hq => isScript_t (er16.symm.trans hq))
      refine mw_ifb_eq cx (tgt := 53) (q := 41) dX12_runScript_38 (by decide) rfl (fun h17 => ?_) (fun h17 => ?_)
      · refine mw_aload_n cx (q := 54) 0 rfl rfl dX12_runScript_53 rfl ?_
        refine mw_bipush cx (q := 56) (v := 6) dX12_runScript_54 rfl rfl ?_
        refine mw_putC cx (q := 59) 63 gf_X12_257 pf_X12_63 (int_fit _) rfl (Nat.le_of_ble_eq_true rfl) rfl vi_12_0 (by decide) dX12_runScript_56 rfl (fun m18 em18 => ?_)
        have ok19 : OkT (M 12) m18 := (by rw [em18]; exact okT_put0 ok0 (by decide))
        exact mw_vret cx hr rfl dX12_runScript_59
      · refine mw_aload_n cx (q := 42) 0 rfl rfl dX12_runScript_41 rfl ?_
        refine mw_aload_n cx (q := 43) 0 rfl rfl dX12_runScript_42 rfl ?_
        refine mw_get cx (q := 46) (v := .int ((M 12) 0 0 62)) gf_X12_232 rfl rfl vi_12_0 dX12_runScript_43 rfl ?_
        refine mw_bnd (fun r20 er20 => ?_)
        refine mw_callV cx (q := 49) (d := 3) (As := [.int ((M 12) 0 0 62)]) (z := fip (uW M 12 (M 12)) r20) (st := []) (st1 := [.int r20]) (M' := (uW M 12 (M 12))) (by rw [er20]; exact mc_X12_faultOf l D ta ad (uW M 12 (M 12)) ((M 12) 0 0 62) (ok0.1) (qr160 h17)) cv_X12_191 rfl rfl rfl vi_12_0 ⟨Nat.le_of_ble_eq_true rfl, Nat.le_of_ble_eq_true rfl⟩ ⟨Nat.le_refl _, Nat.le_refl _⟩ (by simp [Value.category]) rfl rfl rfl dX12_runScript_46 rfl ?_
        have qr200 : r20 = (-1) → Tx12 (M 12) ((M 12) 0 0 62) := (fun hq => faultOf_T (ok0.1) (qr160 h17) (er20.symm.trans hq))
        refine mw_iconst cx (q := 50) (v := (-1)) dX12_runScript_49 rfl rfl ?_
        refine mw_icmp_eq cx (tgt := 60) (q := 53) dX12_runScript_50 (by decide) rfl (fun h21 => ?_) (fun h21 => ?_)
        · refine mw_aload_n cx (q := 61) 0 rfl rfl dX12_runScript_60 rfl ?_
          refine mw_get cx (q := 64) (v := .ref (ad 12 41 0)) gf_X12_128 rfl rfl vi_12_0 dX12_runScript_61 rfl ?_
          refine mw_iload_n cx (q := 65) 1 rfl rfl dX12_runScript_64 rfl ?_
          refine mw_aload_n cx (q := 66) 0 rfl rfl dX12_runScript_65 rfl ?_
          refine mw_get cx (q := 69) (v := .int ((M 12) 0 0 62)) gf_X12_232 rfl rfl vi_12_0 dX12_runScript_66 rfl ?_
          refine mw_iastC cx (q := 70) (fun _ => rfl) (by decide) vi_12_41 hp1 (by decide) dX12_runScript_69 rfl (fun m22 em22 => ?_)
          have ok23 : OkT (M 12) m22 := (by rw [em22]; exact okT_g41 ok0 (qr160 h17))
          refine mw_aload_n cx (q := 71) 0 rfl rfl dX12_runScript_70 rfl ?_
          refine mw_get cx (q := 74) (v := .ref (ad 12 39 0)) gf_X12_122 rfl rfl vi_12_0 dX12_runScript_71 rfl ?_
          refine mw_iload_n cx (q := 75) 1 rfl rfl dX12_runScript_74 rfl ?_
          refine mw_aload_n cx (q := 76) 0 rfl rfl dX12_runScript_75 rfl ?_
          refine mw_get cx (q := 79) (v := .int ((M 12) 0 0 48)) gf_X12_248 rfl (by rw [em22]; rfl) vi_12_0 dX12_runScript_76 rfl ?_
          refine mw_iastC cx (q := 80) (fun _ => rfl) (by decide) vi_12_39 hp1 (by decide) dX12_runScript_79 rfl (fun m24 em24 => ?_)
          have ok25 : OkT (M 12) m24 := (by rw [em24]; exact okT_g39 ok23 ⟨hok.b0, (i32rng _).2⟩)
          refine mw_aload_n cx (q := 81) 0 rfl rfl dX12_runScript_80 rfl ?_
          refine mw_aload_n cx (q := 82) 0 rfl rfl dX12_runScript_81 rfl ?_
          refine mw_get cx (q := 85) (v := .int ((M 12) 0 0 49)) gf_X12_251 rfl (by rw [em24, em22]; rfl) vi_12_0 dX12_runScript_82 rfl ?_
          refine mw_putC cx (q := 88) 48 gf_X12_248 pf_X12_48 (int_fit _) rfl (Nat.le_of_ble_eq_true rfl) rfl vi_12_0 (by decide) dX12_runScript_85 rfl (fun m26 em26 => ?_)
          have ok27 : OkT (M 12) m26 := (by rw [em26]; exact okT_s48 ok25 hok.t0)
          refine mw_aload_n cx (q := 89) 0 rfl rfl dX12_runScript_88 rfl ?_
          refine mw_get cx (q := 92) (v := .ref (ad 12 34 0)) gf_X12_107 rfl rfl vi_12_0 dX12_runScript_89 rfl ?_
          refine mw_iload_n cx (q := 93) 1 rfl rfl dX12_runScript_92 rfl ?_
          refine mw_aload_n cx (q := 94) 0 rfl rfl dX12_runScript_93 rfl ?_
          refine mw_aload_n cx (q := 95) 0 rfl rfl dX12_runScript_94 rfl ?_
          refine mw_get cx (q := 98) (v := .int ((M 12) 0 0 62)) gf_X12_232 rfl (by rw [em26, em24, em22]; rfl) vi_12_0 dX12_runScript_95 rfl ?_
          refine mw_iconst cx (q := 99) (v := 0) dX12_runScript_98 rfl rfl ?_
          refine mw_bnd (fun r28 er28 => ?_)
          refine mw_callV cx (q := 102) (d := 1) (As := [.int ((M 12) 0 0 62), .int 0]) (z := fip (uW M 12 m26) r28) (st := [.int p1, .ref (ad 12 34 0)]) (st1 := [.int r28, .int p1, .ref (ad 12 34 0)]) (M' := (uW M 12 m26)) (by rw [er28]; exact mc_X12_nextAt l D ta ad (uW M 12 m26) ((M 12) 0 0 62) 0 (ok27.1) (qr160 h17) (by decide) (by decide)) cv_X12_198 rfl rfl rfl vi_12_0 ⟨Nat.le_of_ble_eq_true rfl, Nat.le_of_ble_eq_true rfl⟩ ⟨Nat.le_refl _, Nat.le_refl _⟩ (by simp [Value.category]) rfl rfl rfl dX12_runScript_99 rfl ?_
          have qr280 : Nx12 m26 ((M 12) 0 0 62) r28 := (by rw [er28]; exact nextAt_n (ok27.1) (qr160 h17) (by decide) (by decide))
          refine mw_iastC cx (q := 103) (fun _ => rfl) (by decide) vi_12_34 hp1 (by decide) dX12_runScript_102 rfl (fun m29 em29 => ?_)
          have ok30 : OkT (M 12) m29 := (by rw [em29]; exact okT_putA ok27 (by decide))
          refine mw_aload_n cx (q := 104) 0 rfl rfl dX12_runScript_103 rfl ?_
          refine mw_iconst cx (q := 105) (v := 0) dX12_runScript_104 rfl rfl ?_
          refine mw_putC cx (q := 108) 62 gf_X12_232 pf_X12_62 (int_fit _) rfl (Nat.le_of_ble_eq_true rfl) rfl vi_12_0 (by decide) dX12_runScript_105 rfl (fun m31 em31 => ?_)
          have ok32 : OkT (M 12) m31 := (by rw [em31]; exact okT_put0 ok30 (by decide))
          refine mw_goto cx (tgt := 133) dX12_runScript_108 (by decide) ?_
          refine mw_aload_n cx (q := 134) 0 rfl rfl dX12_runScript_133 rfl ?_
          refine mw_get cx (q := 137) (v := .ref (ad 12 34 0)) gf_X12_107 rfl rfl vi_12_0 dX12_runScript_134 rfl ?_
          refine mw_iload_n cx (q := 138) 1 rfl rfl dX12_runScript_137 rfl ?_
          refine mw_iald cx (q := 139) (w := (m29 34 0 p1)) (by rw [em31]; rfl) (fun _ => rfl) vi_12_34 hp1 dX12_runScript_138 rfl ?_
          refine mw_iconst cx (q := 140) (v := (-1)) dX12_runScript_139 rfl rfl ?_
          refine mw_icmp_ne cx (tgt := 164) (q := 143) dX12_runScript_140 (by decide) rfl (fun h33 => ?_) (fun h33 => ?_)
          · refine mw_aload_n cx (q := 165) 0 rfl rfl dX12_runScript_164 rfl ?_
            refine mw_iconst cx (q := 166) (v := 1) dX12_runScript_165 rfl rfl ?_
            refine mw_putC cx (q := 169) 59 gf_X12_238 pf_X12_59 (by exact ⟨rfl, rfl⟩) rfl (Nat.le_of_ble_eq_true rfl) rfl vi_12_0 (by decide) dX12_runScript_166 rfl (fun m34 em34 => ?_)
            have ok35 : OkT (M 12) m34 := (by rw [em34]; exact okT_put0 ok32 (by decide))
            refine mw_aload_n cx (q := 170) 0 rfl rfl dX12_runScript_169 rfl ?_
            refine mw_aload_n cx (q := 171) 0 rfl rfl dX12_runScript_170 rfl ?_
            refine mw_get cx (q := 174) (v := .ref (ad 12 41 0)) gf_X12_128 rfl rfl vi_12_0 dX12_runScript_171 rfl ?_
            refine mw_iload_n cx (q := 175) 1 rfl rfl dX12_runScript_174 rfl ?_
            refine mw_iald cx (q := 176) (w := (m22 41 0 p1)) (by rw [em34, em31, em29, em26, em24]; rfl) (fun _ => rfl) vi_12_41 hp1 dX12_runScript_175 rfl ?_
            refine mw_putC cx (q := 179) 60 gf_X12_242 pf_X12_60 (int_fit _) rfl (Nat.le_of_ble_eq_true rfl) rfl vi_12_0 (by decide) dX12_runScript_176 rfl (fun m36 em36 => ?_)
            have ok37 : OkT (M 12) m36 := (by rw [em36]; exact okT_s60 ok35 (ok23.1.pC _ hp1))
            refine mw_aload_n cx (q := 180) 0 rfl rfl dX12_runScript_179 rfl ?_
            refine mw_aload_n cx (q := 181) 0 rfl rfl dX12_runScript_180 rfl ?_
            refine mw_get cx (q := 184) (v := .ref (ad 12 34 0)) gf_X12_107 rfl rfl vi_12_0 dX12_runScript_181 rfl ?_
            refine mw_iload_n cx (q := 185) 1 rfl rfl dX12_runScript_184 rfl ?_
            refine mw_iald cx (q := 186) (w := (m29 34 0 p1)) (by rw [em36, em34, em31]; rfl) (fun _ => rfl) vi_12_34 hp1 dX12_runScript_185 rfl ?_
            refine mw_putC cx (q := 189) 61 gf_X12_245 pf_X12_61 (int_fit _) rfl (Nat.le_of_ble_eq_true rfl) rfl vi_12_0 (by decide) dX12_runScript_186 rfl (fun m38 em38 => ?_)
            have ok39 : OkT (M 12) m38 := (by rw [em38]; exact okT_put0 ok37 (by decide))
            exact mw_vret cx hr rfl dX12_runScript_189
          · refine mw_aload_n cx (q := 144) 0 rfl rfl dX12_runScript_143 rfl ?_
            refine mw_aload_n cx (q := 145) 0 rfl rfl dX12_runScript_144 rfl ?_
            refine mw_get cx (q := 148) (v := .ref (ad 12 39 0)) gf_X12_122 rfl rfl vi_12_0 dX12_runScript_145 rfl ?_
            refine mw_iload_n cx (q := 149) 1 rfl rfl dX12_runScript_148 rfl ?_
            refine mw_iald cx (q := 150) (w := (m24 39 0 p1)) (by rw [em31, em29, em26]; rfl) (fun _ => rfl) vi_12_39 hp1 dX12_runScript_149 rfl ?_
            refine mw_putC cx (q := 153) 48 gf_X12_248 pf_X12_48 (int_fit _) rfl (Nat.le_of_ble_eq_true rfl) rfl vi_12_0 (by decide) dX12_runScript_150 rfl (fun m40 em40 => ?_)
            have ok41 : OkT (M 12) m40 := (by rw [em40]; exact okT_s48 ok32 (ok25.1.pb _ hp1).1)
            refine mw_aload_n cx (q := 154) 0 rfl rfl dX12_runScript_153 rfl ?_
            refine mw_aload_n cx (q := 155) 0 rfl rfl dX12_runScript_154 rfl ?_
            refine mw_get cx (q := 158) (v := .int 0) gf_X12_232 rfl (by rw [em40, em31]; rfl) vi_12_0 dX12_runScript_155 rfl ?_
            refine mw_bnd (fun r42 er42 => ?_)
            refine mw_callV cx (q := 161) (d := 0) (As := [.int 0]) (z := fvc (uW M 12 m40) 12 r42) (st := []) (st1 := []) (M' := uW M 12 r42) (by rw [er42]; exact mc_X12_finish l D ta ad (uW M 12 m40) 0) cv_X12_330 rfl rfl rfl vi_12_0 ⟨Nat.le_of_ble_eq_true rfl, Nat.le_of_ble_eq_true rfl⟩ ⟨Nat.le_refl _, Nat.le_refl _⟩ (by simp [Value.category]) rfl rfl (by exact uW_uW _ _ _ _) dX12_runScript_158 rfl ?_
            refine mw_goto cx (tgt := 189) dX12_runScript_161 (by decide) ?_
            exact mw_vret cx hr rfl dX12_runScript_189
        · refine mw_aload_n cx (q := 54) 0 rfl rfl dX12_runScript_53 rfl ?_
          refine mw_bipush cx (q := 56) (v := 6) dX12_runScript_54 rfl rfl ?_
          refine mw_putC cx (q := 59) 63 gf_X12_257 pf_X12_63 (int_fit _) rfl (Nat.le_of_ble_eq_true rfl) rfl vi_12_0 (by decide) dX12_runScript_56 rfl (fun m43 em43 => ?_)
          have ok44 : OkT (M 12) m43 := (by rw [em43]; exact okT_put0 ok0 (by decide))
          exact mw_vret cx hr rfl dX12_runScript_59
  · refine mw_aload_n cx (q := 10) 0 rfl rfl dX12_runScript_9 rfl ?_
    refine mw_iload_n cx (q := 11) 1 rfl rfl dX12_runScript_10 rfl ?_
    refine mw_aload_n cx (q := 12) 0 rfl rfl dX12_runScript_11 rfl ?_
    refine mw_get cx (q := 15) (v := .ref (ad 12 35 0)) gf_X12_110 rfl rfl vi_12_0 dX12_runScript_12 rfl ?_
    refine mw_iload_n cx (q := 16) 1 rfl rfl dX12_runScript_15 rfl ?_
    refine mw_iald cx (q := 17) (w := ((M 12) 35 0 p1)) rfl (fun _ => rfl) vi_12_35 hp1 dX12_runScript_16 rfl ?_
    refine mw_bnd (fun r45 er45 => ?_)
    refine mw_callV cx (q := 20) (d := 0) (As := [.int p1, .int ((M 12) 35 0 p1)]) (z := fvc (uW M 12 (M 12)) 12 r45) (st := []) (st1 := []) (M' := uW M 12 r45) (by rw [er45]; exact mc_X12_valueNext l D ta ad (uW M 12 (M 12)) p1 ((M 12) 35 0 p1) hp1) cv_X12_323 rfl rfl rfl vi_12_0 ⟨Nat.le_of_ble_eq_true rfl, Nat.le_of_ble_eq_true rfl⟩ ⟨Nat.le_refl _, Nat.le_refl _⟩ (by simp [Value.category]) rfl rfl (by exact uW_uW _ _ _ _) dX12_runScript_17 rfl ?_
    exact mw_vret cx hr rfl dX12_runScript_20
