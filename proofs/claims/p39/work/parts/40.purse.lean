/-! PURSES: the class' and the reference's hold the same -/
theorem u3_at (m : Cm) (g : Nat) (i j x : Int32) : u3 m g i j x g i j = x := by unfold u3 fI; rw [if_pos ⟨rfl, rfl⟩, if_pos rfl]
theorem u3_j {m : Cm} {g : Nat} {i j k x : Int32} (h : ¬ k = j) : u3 m g i j x g i k = m g i k := by unfold u3 fI; rw [if_pos ⟨rfl, rfl⟩, if_neg h]
theorem u3_i {m : Cm} {g : Nat} {i i2 j x : Int32} (h : ¬ i2 = i) : u3 m g i j x g i2 = m g i2 := by unfold u3; rw [if_neg (fun z => h z.2)]
theorem idx4_inj {a b c l : Int32} (ha : vp_in a 4) (hb : vp_in b 4) (hc : vp_in c 4) (hl : vp_in l 4) (h : 4 * a + b = 4 * c + l) : a = c ∧ b = l := by
  rw [vp_in_iff] at ha hb hc hl
  have e1 : (4 * a).toInt = 4 * a.toInt := by rw [i32muln (by rw [t32_4]; omega) (by rw [t32_4]; omega), t32_4]
  have e2 : (4 * c).toInt = 4 * c.toInt := by rw [i32muln (by rw [t32_4]; omega) (by rw [t32_4]; omega), t32_4]
  have h1 := congrArg Int32.toInt h
  rw [i32addn (by rw [e1]; omega) (by rw [e1]; omega), i32addn (by rw [e2]; omega) (by rw [e2]; omega), e1, e2] at h1
  exact ⟨by rw [i32eq]; omega, by rw [i32eq]; omega⟩
theorem idx8_inj {a b c l : Int32} (ha : vp_in a 5) (hb : vp_in b 8) (hc : vp_in c 5) (hl : vp_in l 8) (h : 8 * a + b = 8 * c + l) : a = c ∧ b = l := by
  rw [vp_in_iff] at ha hb hc hl
  have e1 : (8 * a).toInt = 8 * a.toInt := by rw [i32muln (by rw [t32_8]; omega) (by rw [t32_8]; omega), t32_8]
  have e2 : (8 * c).toInt = 8 * c.toInt := by rw [i32muln (by rw [t32_8]; omega) (by rw [t32_8]; omega), t32_8]
  have h1 := congrArg Int32.toInt h
  rw [i32addn (by rw [e1]; omega) (by rw [e1]; omega), i32addn (by rw [e2]; omega) (by rw [e2]; omega), e1, e2] at h1
  exact ⟨by rw [i32eq]; omega, by rw [i32eq]; omega⟩
theorem bnd_R {α β γ : Type} {P : γ → β → Prop} {X : γ} {a : α} {f : α → β} (h : ∀ x, x = a → P X (f x)) : P X (bnd a f) := h a rfl
theorem bnd_L {α β γ : Type} {P : β → γ → Prop} {Y : γ} {a : α} {f : α → β} (h : ∀ x, x = a → P (f x) Y) : P (bnd a f) Y := h a rfl
def RelQ (q m : Cm) : Prop := (∀ c : Int32, vp_in c 4 → q 1 0 c = m 6 0 c ∧ q 2 0 c = m 5 0 c ∧ q 3 0 c = m 9 0 c) ∧ (∀ a b : Int32, vp_in a 4 → vp_in b 4 → q 7 a b = m 7 0 (4 * a + b) ∧ q 8 b a = m 8 0 (4 * a + b)) ∧ q 0 0 5 = m 0 0 9 ∧ ∀ c : Int32, vp_in c 4 → m 9 0 c = 0 ∨ m 9 0 c = 1
theorem RelQ.fr {q m m' : Cm} (h : RelQ q m) (e5 : m' 5 = m 5) (e6 : m' 6 = m 6) (e7 : m' 7 = m 7) (e8 : m' 8 = m 8) (e9 : m' 9 = m 9) (e0 : m' 0 0 9 = m 0 0 9) : RelQ q m' := by
  unfold RelQ; rw [e5, e6, e7, e8, e9, e0]; exact h
theorem RelQ.tar {q m : Cm} (h : RelQ q m) : q 0 0 5 = m 0 0 9 := h.2.2.1
/-- a row of fuels that changes alike stays alike -/
theorem RelQ.fuel {q m : Cm} (h : RelQ q m) {c x : Int32} : RelQ (u3 q 1 0 c x) (u3 m 6 0 c x) := by
  refine ⟨fun d hd => ⟨?_, (h.1 d hd).2.1, (h.1 d hd).2.2⟩, h.2.1, h.2.2⟩
  by_cases e : d = c
  · rw [e, u3_at, u3_at]
  · rw [u3_j e, u3_j e]; exact (h.1 d hd).1
theorem RelQ.rat {q m : Cm} (h : RelQ q m) {c x : Int32} : RelQ (u3 q 2 0 c x) (u3 m 5 0 c x) := by
  refine ⟨fun d hd => ⟨(h.1 d hd).1, ?_, (h.1 d hd).2.2⟩, h.2.1, h.2.2⟩
  by_cases e : d = c
  · rw [e, u3_at, u3_at]
  · rw [u3_j e, u3_j e]; exact (h.1 d hd).2.1
theorem RelQ.buys {q m : Cm} (h : RelQ q m) {c x : Int32} (hx : x = 0 ∨ x = 1) : RelQ (u3 q 3 0 c x) (u3 m 9 0 c x) := by
  refine ⟨fun d hd => ⟨(h.1 d hd).1, (h.1 d hd).2.1, ?_⟩, h.2.1, h.2.2.1, fun d hd => ?_⟩
  · by_cases e : d = c
    · rw [e, u3_at, u3_at]
    · rw [u3_j e, u3_j e]; exact (h.1 d hd).2.2
  · by_cases e : d = c
    · rw [e, u3_at]; exact hx
    · rw [u3_j e]; exact h.2.2.2 d hd
theorem RelQ.debt {q m : Cm} (h : RelQ q m) {c l x : Int32} (hc : vp_in c 4) (hl : vp_in l 4) : RelQ (u3 q 7 c l x) (u3 m 7 0 (4 * c + l) x) := by
  refine ⟨h.1, fun a b ha hb => ⟨?_, (h.2.1 a b ha hb).2⟩, h.2.2⟩
  by_cases e : a = c
  · by_cases e2 : b = l
    · rw [e, e2, u3_at, u3_at]
    · rw [e, u3_j e2, u3_j (fun z => e2 (idx4_inj hc hb hc hl z).2)]
      exact (h.2.1 c b hc hb).1
  · rw [u3_i e, u3_j (fun z => e (idx4_inj ha hb hc hl z).1)]
    exact (h.2.1 a b ha hb).1
theorem RelQ.lim {q m : Cm} (h : RelQ q m) {c l x : Int32} (hc : vp_in c 4) (hl : vp_in l 4) : RelQ (u3 q 8 l c x) (u3 m 8 0 (4 * c + l) x) := by
  refine ⟨h.1, fun a b ha hb => ⟨(h.2.1 a b ha hb).1, ?_⟩, h.2.2⟩
  by_cases e : b = l
  · by_cases e2 : a = c
    · rw [e, e2, u3_at, u3_at]
    · rw [e, u3_j e2, u3_j (fun z => e2 (idx4_inj ha hl hc hl z).1)]
      exact (h.2.1 a l ha hl).2
  · rw [u3_i e, u3_j (fun z => e (idx4_inj ha hb hc hl z).2)]
    exact (h.2.1 a b ha hb).2
theorem RelQ.tariff {q m : Cm} (h : RelQ q m) {x : Int32} : RelQ (u3 q 0 0 5 x) (u3 m 0 0 9 x) := ⟨h.1, h.2.1, by rw [u3_at, u3_at], h.2.2.2⟩
/-- fuel that is paid: the class takes it first, the reference gives it first -/
theorem RelQ.pay {q m : Cm} (h : RelQ q m) {c l p : Int32} (hc : vp_in c 4) (hl : vp_in l 4) : RelQ (f5_payFromFuel q c l p).2 (u3 (u3 (u3 m 7 0 (4 * c + l) (m 7 0 (4 * c + l) - p)) 6 0 l (m 6 0 l + p)) 6 0 c ((u3 (u3 m 7 0 (4 * c + l) (m 7 0 (4 * c + l) - p)) 6 0 l (m 6 0 l + p)) 6 0 c - p)) := by
  have hd := h.debt (x := m 7 0 (4 * c + l) - p) hc hl
  have e7 : q 7 c l = m 7 0 (4 * c + l) := (h.2.1 c l hc hl).1
  show RelQ (u3 (u3 (u3 q 1 0 c (q 1 0 c - p)) 1 0 l ((u3 q 1 0 c (q 1 0 c - p)) 1 0 l + p)) 7 c l (q 7 c l - p)) _
  rw [e7]
  refine ⟨fun d hd' => ⟨?_, (hd.1 d hd').2.1, (hd.1 d hd').2.2⟩, fun a b ha hb => ⟨?_, (hd.2.1 a b ha hb).2⟩, hd.2.2⟩
  · show u3 (u3 q 1 0 c (q 1 0 c - p)) 1 0 l ((u3 q 1 0 c (q 1 0 c - p)) 1 0 l + p) 1 0 d = u3 (u3 (u3 m 7 0 (4 * c + l) (m 7 0 (4 * c + l) - p)) 6 0 l (m 6 0 l + p)) 6 0 c ((u3 (u3 m 7 0 (4 * c + l) (m 7 0 (4 * c + l) - p)) 6 0 l (m 6 0 l + p)) 6 0 c - p) 6 0 d
    have f1 : ∀ j : Int32, (u3 m 7 0 (4 * c + l) (m 7 0 (4 * c + l) - p)) 6 0 j = m 6 0 j := fun j => rfl
    have ec := (h.1 c hc).1
    have el := (h.1 l hl).1
    have ed := (h.1 d hd').1
    by_cases e1 : d = l
    · rw [e1, u3_at]
      by_cases e2 : l = c
      · rw [e2, u3_at, u3_at, u3_at, ec, Int32.sub_add_cancel, Int32.add_sub_cancel]
      · rw [u3_j e2, u3_j e2, u3_at, el]
    · rw [u3_j e1]
      by_cases e2 : d = c
      · rw [e2] at e1 ⊢
        rw [u3_at, u3_at, u3_j e1, f1, ec]
      · rw [u3_j e2, u3_j e2, u3_j e1, f1, ed]
  · exact (hd.2.1 a b ha hb).1
theorem RelQ.mn {a b : Int32} : mnI a b = if a ≤ b then a else b := by
  unfold mnI
  by_cases c : b < a
  · rw [if_pos c, if_neg (Int32.not_le.mpr c)]
  · rw [if_neg c, if_pos (Int32.not_lt.mp c)]
/-- buying fuel -/
def QR {α : Type} (x y : α × Cm) : Prop := x.1 = y.1 ∧ RelQ x.2 y.2
theorem buyFuel_lp_c {c v : Int32} (hc : vp_in c 4) : ∀ (k : Nat) (x y : Int32 × Int32 × Cm), x.1 = y.1 → x.2.1 = y.2.1 → RelQ x.2.2 y.2.2 → 0 ≤ x.1.toInt → QR (f5_buyFuel_lp35 c v k x) (f12_buyFuel_lp35 c v k y) := by
  intro k
  induction k with
  | zero => intro x y _ _ h _; exact ⟨rfl, h⟩
  | succ k ih =>
    intro x y e1 e2 h h0
    rw [f5_buyFuel_lp35_s, f12_buyFuel_lp35_s]
    by_cases c1 : 4 ≤ x.1
    · rw [if_pos c1, if_pos (e1 ▸ c1)]; exact ⟨rfl, h⟩
    · rw [if_neg c1, if_neg (e1 ▸ c1)]
      simp only [i32le, t32_4] at c1
      have hl : vp_in x.1 4 := by rw [vp_in_iff]; omega
      have hi := inc_in (n := 4) (by decide) h0 (by omega)
      have ed : f5_debtOf x.2.2 c x.1 = y.2.2 7 0 (4 * c + y.1) := by rw [← e1]; exact (h.2.1 c x.1 hc hl).1
      refine bnd_I (P := fun z => QR z _) (fun r8 e8 => bnd_I (P := fun z => QR z _) (fun v9 e9 => bnd_I (P := fun z => QR z _) (fun r10 e10 => bnd_I (P := fun z => QR z _) (fun v11 e11 => bnd_I (P := fun z => QR z _) (fun v12 e12 => ?_)))))
      refine bnd_I (P := fun z => QR _ z) (fun w8 g8 => ?_)
      have hw : r8 = w8 := by rw [e8, g8, ed]
      have key : ∀ p : Int32, v9 = p → QR (f5_buyFuel_lp35 c v k (v12, v11, r10.2)) (bnd (u3 y.2.2 7 0 ((4 * c) + y.1) ((y.2.2 7 0 ((4 * c) + y.1)) - p)) (fun (m12 : Cm) => bnd (u3 m12 6 0 y.1 ((y.2.2 6 0 y.1) + p)) (fun (m13 : Cm) => bnd (u3 m13 6 0 c ((m13 6 0 c) - p)) (fun (m14 : Cm) => bnd ((y.2.1 - p)) (fun (v15 : Int32) => bnd (y.1 + 1) (fun (v16 : Int32) => f12_buyFuel_lp35 c v k (v16, v15, m14))))))) := by
        intro p hp
        refine bnd_I (P := fun z => QR _ z) (fun m12 g12 => bnd_I (P := fun z => QR _ z) (fun m13 g13 => bnd_I (P := fun z => QR _ z) (fun m14 g14 => bnd_I (P := fun z => QR _ z) (fun v15 g15 => bnd_I (P := fun z => QR _ z) (fun v16 g16 => ?_)))))
        refine ih _ _ (by show v12 = v16; rw [e12, g16, e1]) (by show v11 = v15; rw [e11, g15, e2, hp]) ?_ (by show 0 ≤ v12.toInt; rw [e12]; exact hi.1)
        show RelQ r10.2 m14
        rw [e10, g14, g13, g12, hp, ← e1]
        exact h.pay hc hl
      have hm : v9 = if y.2.1 ≤ w8 then y.2.1 else w8 := by rw [e9, RelQ.mn, e2, hw]
      simp only [jn]
      by_cases c2 : y.2.1 ≤ w8
      · rw [if_pos c2]; exact key _ (by rw [hm, if_pos c2])
      · rw [if_neg c2]; exact key _ (by rw [hm, if_neg c2])
theorem buyFuel_c {q m : Cm} (h : RelQ q m) {c many : Int32} (hc : vp_in c 4) : QR (f5_buyFuel q c many) (f12_buyFuel m c many) := by
  unfold f5_buyFuel f12_buyFuel
  refine bnd_I (P := fun z => QR z _) (fun v1 e1 => bnd_I (P := fun z => QR z _) (fun m2 e2 => bnd_I (P := fun z => QR z _) (fun m3 e3 => bnd_I (P := fun z => QR z _) (fun v4 e4 => ?_))))
  refine bnd_I (P := QR (f5_buyFuel_lp35 c v1 5 (0, v4, m3))) (fun w1 g1 => bnd_I (P := QR (f5_buyFuel_lp35 c v1 5 (0, v4, m3))) (fun w2 g2 => bnd_I (P := QR (f5_buyFuel_lp35 c v1 5 (0, v4, m3))) (fun n3 g3 => bnd_I (P := QR (f5_buyFuel_lp35 c v1 5 (0, v4, m3))) (fun n4 g4 => ?_))))
  have hv : v1 = w1 := by rw [e1, g1, h.2.2.1]
  subst hv
  refine buyFuel_lp_c hc 5 _ _ rfl (by show v4 = w2; rw [e4, g2]) ?_ (by show 0 ≤ (0 : Int32).toInt; decide)
  show RelQ m3 n4
  rw [e3, g4, e2, g3, (h.1 c hc).2.1, (h.1 c hc).1]
  exact (h.rat).fuel
/-- the first lender, and what the class does with it -/
theorem borrows_lp {q m : Cm} (h : RelQ q m) {c : Int32} (hc : vp_in c 4) : ∀ (k : Nat) (x : Int32), 0 ≤ x.toInt → x.toInt ≤ 4 → 4 - x.toInt < k → (f12_lenderOf_lp2 m c k x = -1 → f5_borrowsOne_lp2 q c k x = (false, q)) ∧ (¬ f12_lenderOf_lp2 m c k x = -1 → f5_borrowsOne_lp2 q c k x = (true, u3 (u3 q 1 0 (f12_lenderOf_lp2 m c k x) (q 1 0 (f12_lenderOf_lp2 m c k x) - 1)) 7 c (f12_lenderOf_lp2 m c k x) (q 7 c (f12_lenderOf_lp2 m c k x) + 1))) := by
  intro k
  induction k with
  | zero => intro x h0 h1 h2; omega
  | succ k ih =>
    intro x h0 h1 h2
    rw [f12_lenderOf_lp2_s, f5_borrowsOne_lp2_s]
    by_cases c1 : 4 ≤ x
    · rw [if_pos c1, if_pos c1]
      exact ⟨fun _ => rfl, fun z => absurd rfl z⟩
    · rw [if_neg c1, if_neg c1]
      simp only [i32le, t32_4] at c1
      have hx : vp_in x 4 := by rw [vp_in_iff]; omega
      have hi := inc_in (n := 4) (by decide) h0 (by omega)
      have hx1 : (x + 1).toInt = x.toInt + 1 := inc_t h0 (by omega)
      have I := ih (x + 1) hi.1 hi.2 (by omega)
      have hne : ¬ x = -1 := by intro z; rw [z] at h0; exact absurd h0 (by decide)
      have e1 := (h.1 x hx).1
      have e8 := (h.2.1 x c hx hc).2
      have e7 := (h.2.1 c x hc hx).1
      simp only [jn, bnd, e1, e8, e7]
      by_cases c2 : x = c
      · simp only [if_pos c2, Bool.false_eq_true, if_false]; exact I
      · simp only [if_neg c2]
        by_cases c3 : m 8 0 (4 * x + c) ≤ m 7 0 (4 * c + x)
        · by_cases c4 : m 6 0 x ≤ 0
          · simp only [if_pos c3, if_pos c4, Bool.false_eq_true, if_false]; exact I
          · simp only [if_pos c3, if_neg c4, Bool.false_eq_true, if_false, if_true]; exact I
        · by_cases c4 : m 6 0 x ≤ 0
          · simp only [if_neg c3, if_pos c4, Bool.false_eq_true, if_false, if_true]; exact I
          · simp only [if_neg c3, if_neg c4, if_true]
            exact ⟨fun z => absurd z hne, fun _ => by rw [e1, e7]⟩
/-- fuel for an expression: what both take -/
def QT (m : Cm) (x y : Bool × Cm) : Prop := x.1 = y.1 ∧ RelQ x.2 y.2 ∧ (y.1 = true → y.2 0 0 58 = m 0 0 58 + 1 ∧ y.2 21 0 = fI (m 21 0) (m 0 0 56) (m 21 0 (m 0 0 56) + 1)) ∧ (y.1 = false → y.2 0 0 58 = m 0 0 58 ∧ y.2 21 0 = m 21 0)
theorem takes_c {q m : Cm} (h : RelQ q m) (hc : vp_in (m 0 0 57) 4) (hn : ¬ m 0 0 58 = m 16 0 (m 0 0 56)) : QT m (f5_takesOne q (m 0 0 57)) (f12_takesFuel m) := by
  have tail : ∀ q1 m1 : Cm, RelQ q1 m1 → m1 0 0 57 = m 0 0 57 → m1 0 0 56 = m 0 0 56 → m1 0 0 58 = m 0 0 58 → m1 21 = m 21 → QT m (if (q1 1 0 (m 0 0 57)) ≤ 0 then bnd (f5_borrowsOne q1 (m 0 0 57)) (fun (r8 : Bool × Cm) => (r8.1, r8.2)) else bnd (u3 q1 1 0 (m 0 0 57) ((q1 1 0 (m 0 0 57)) - 1)) (fun (m9 : Cm) => (true, m9))) (if (m1 6 0 (m1 0 0 57)) ≤ 0 then bnd (f12_lenderOf m1 (m1 0 0 57)) (fun (r10 : Int32) => if r10 = (-1) then (false, m1) else bnd (u3 m1 6 0 r10 ((m1 6 0 r10) - 1)) (fun (m12 : Cm) => bnd (u3 m12 7 0 ((4 * (m1 0 0 57)) + r10) ((m1 7 0 ((4 * (m1 0 0 57)) + r10)) + 1)) (fun (m14 : Cm) => bnd (u3 m14 0 0 58 ((m1 0 0 58) + 1)) (fun (m16 : Cm) => bnd (u3 m16 21 0 (m1 0 0 56) ((m1 21 0 (m1 0 0 56)) + 1)) (fun (m18 : Cm) => (true, m18)))))) else bnd (u3 m1 6 0 (m1 0 0 57) ((m1 6 0 (m1 0 0 57)) - 1)) (fun (m20 : Cm) => bnd (u3 m20 0 0 58 ((m1 0 0 58) + 1)) (fun (m22 : Cm) => bnd (u3 m22 21 0 (m1 0 0 56) ((m1 21 0 (m1 0 0 56)) + 1)) (fun (m24 : Cm) => (true, m24))))) := by
    intro q1 m1 h1 a57 a56 a58 a21
    have e := (h1.1 _ hc).1
    rw [a57, a56, a58, e, a21]
    by_cases c1 : m1 6 0 (m 0 0 57) ≤ 0
    · rw [if_pos c1, if_pos c1]
      have B := borrows_lp h1 hc 5 0 (by decide) (by decide) (by decide)
      have hlo := lenderOf_o m1 (m 0 0 57)
      simp only [bnd]
      have hl : f12_lenderOf m1 (m 0 0 57) = f12_lenderOf_lp2 m1 (m 0 0 57) 5 0 := rfl
      have hb : f5_borrowsOne q1 (m 0 0 57) = f5_borrowsOne_lp2 q1 (m 0 0 57) 5 0 := rfl
      rw [← hl, ← hb] at B
      by_cases c2 : f12_lenderOf m1 (m 0 0 57) = -1
      · rw [if_pos c2, B.1 c2]
        exact ⟨rfl, h1, fun z => absurd (show (false : Bool) = true from z) (by decide), fun _ => ⟨a58, by show m1 21 0 = _; rw [a21]⟩⟩
      · rw [if_neg c2, B.2 c2]
        have hv := hlo.ix c2
        have ef := (h1.1 _ hv).1
        have ed := (h1.2.1 _ _ hc hv).1
        refine ⟨rfl, ?_, fun _ => ⟨?_, ?_⟩, fun z => absurd (show (true : Bool) = false from z) (by decide)⟩
        · have hr := (h1.fuel (c := f12_lenderOf m1 (m 0 0 57)) (x := m1 6 0 (f12_lenderOf m1 (m 0 0 57)) - 1)).debt (x := m1 7 0 (4 * m 0 0 57 + f12_lenderOf m1 (m 0 0 57)) + 1) hc hv
          rw [ef, ed]
          exact hr
        · first | rfl | (show fI _ _ _ _ = _; exact fI_at _ _ _)
        · show u3 _ 21 0 (m 0 0 56) (m 21 0 (m 0 0 56) + 1) 21 0 = _
          unfold u3
          rw [if_pos ⟨rfl, rfl⟩]
          show fI (m1 21 0) (m 0 0 56) (m 21 0 (m 0 0 56) + 1) = _
          rw [a21]
    · rw [if_neg c1, if_neg c1]
      simp only [bnd]
      refine ⟨rfl, ?_, fun _ => ⟨?_, ?_⟩, fun z => absurd (show (true : Bool) = false from z) (by decide)⟩
      · exact h1.fuel (c := m 0 0 57) (x := m1 6 0 (m 0 0 57) - 1)
      · first | rfl | (show fI _ _ _ _ = _; exact fI_at _ _ _)
      · show u3 _ 21 0 (m 0 0 56) (m 21 0 (m 0 0 56) + 1) 21 0 = _
        unfold u3
        rw [if_pos ⟨rfl, rfl⟩]
        show fI (m1 21 0) (m 0 0 56) (m 21 0 (m 0 0 56) + 1) = _
        rw [a21]
  unfold f5_takesOne f12_takesFuel
  rw [if_neg hn]
  have hb := h.1 _ hc
  have T0 := tail q m h rfl rfl rfl rfl
  simp only [jn]
  rw [hb.1, hb.2.2, hb.2.1]
  by_cases c1 : m 6 0 (m 0 0 57) = 0
  · rw [if_pos c1, if_pos c1]
    by_cases c2 : m 9 0 (m 0 0 57) = 0
    · rw [if_pos c2, if_pos c2]; rw [hb.1] at T0; exact T0
    · rw [if_neg c2, if_neg c2]
      by_cases c3 : m 5 0 (m 0 0 57) ≤ 0
      · rw [if_pos c3, if_pos c3]; rw [hb.1] at T0; exact T0
      · rw [if_neg c3, if_neg c3]
        refine bnd_L (P := QT m) (fun r6 e6 => bnd_R (P := QT m) (fun r7 e7 => ?_))
        have hq := buyFuel_c h (many := 1) hc
        rw [← e6, ← e7] at hq
        have fr : ∀ P : Cm → Prop, (∀ (m : Cm) (j x : Int32), P m → P (u3 m 5 0 j x)) → (∀ (m : Cm) (j x : Int32), P m → P (u3 m 6 0 j x)) → (∀ (m : Cm) (j x : Int32), P m → P (u3 m 7 0 j x)) → P m → P r7.2 := by
          intro P a b c d
          have := buyFuel_P a b c d (m 0 0 57) 1
          rw [← e7] at this; exact this
        refine tail r6.2 r7.2 hq.2 ?_ ?_ ?_ ?_
        · exact fr (fun m' => m' 0 0 57 = m 0 0 57) (fun m j x h => h) (fun m j x h => h) (fun m j x h => h) rfl
        · exact fr (fun m' => m' 0 0 56 = m 0 0 56) (fun m j x h => h) (fun m j x h => h) (fun m j x h => h) rfl
        · exact fr (fun m' => m' 0 0 58 = m 0 0 58) (fun m j x h => h) (fun m j x h => h) (fun m j x h => h) rfl
        · exact fr (fun m' => m' 21 = m 21) (fun m j x h => by rw [u3_ne _ _ _ (by decide)]; exact h) (fun m j x h => by rw [u3_ne _ _ _ (by decide)]; exact h) (fun m j x h => by rw [u3_ne _ _ _ (by decide)]; exact h) rfl
  · rw [if_neg c1, if_neg c1]; rw [hb.1] at T0; exact T0
