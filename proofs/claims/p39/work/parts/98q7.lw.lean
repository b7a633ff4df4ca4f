/-! THE STOCKS together are what was supplied; what stands between two calls of the law; what a call comes to, told by the reference's data alone -/
section LWS
variable {x : Int32 → Int32} {BQ BO L k : Int} {M : Wm} {b m : Cm}
theorem cases5 {r : Int32} (h : vp_in r 5) : r = 0 ∨ r = 1 ∨ r = 2 ∨ r = 3 ∨ r = 4 := by
  refine inN (P := fun r => r = 0 ∨ r = 1 ∨ r = 2 ∨ r = 3 ∨ r = 4) ?_ h; decide +kernel
theorem ef_sum (b : Cm) (g j : Int32) (h3 : vp_in (b 3 0 j + 1) 5) (h4 : vp_in (b 4 0 j + 1) 5) : ef b 0 g j + ef b 1 g j + ef b 2 g j + ef b 3 g j + ef b 4 g j = 0 := by
  unfold ef
  by_cases c : b 5 0 j = g
  · simp only [if_pos c]
    generalize b 6 0 j = p
    rcases cases5 h3 with z | z | z | z | z <;> rcases cases5 h4 with z2 | z2 | z2 | z2 | z2 <;> rw [z, z2] <;> simp <;> grind
  · simp only [if_neg c]; decide
theorem tm_sum (b : Cm) (g : Int32) : ∀ n : Nat, (∀ j : Nat, j < n → vp_in (b 3 0 (nI j) + 1) 5 ∧ vp_in (b 4 0 (nI j) + 1) 5) → tm b 0 g n + tm b 1 g n + tm b 2 g n + tm b 3 g n + tm b 4 g n = b 2 0 g := by
  intro n
  induction n with
  | zero => intro _; simp [tm]
  | succ n ih =>
    intro h
    have e := ef_sum b g (nI n) (h n (by omega)).1 (h n (by omega)).2
    have i := ih (fun j hj => h j (by omega))
    simp only [tm]
    grind
theorem stk_sum (hB : BkI b) (ho : ok1 b) {g : Int32} (hg : vp_in g 8) : b 8 0 g + b 8 1 g + b 8 2 g + b 8 3 g + b 8 4 g = b 2 0 g := by
  rw [hB 0 g (vin_lit (by decide)) hg, hB 1 g (vin_lit (by decide)) hg, hB 2 g (vin_lit (by decide)) hg, hB 3 g (vin_lit (by decide)) hg, hB 4 g (vin_lit (by decide)) hg]
  refine tm_sum b g _ (fun j hj => ?_)
  have hv : vp_in (nI j) 3000 := by
    have := ho.1; have := ho.2.1
    rw [vp_in_iff, nI_toInt (by omega)]; omega
  exact ⟨(ho.2.2 _ hv).1, (ho.2.2 _ hv).2.1⟩
theorem stk_tot (hB : BkI b) (ho : ok1 b) (hS : StkP L b) (hL : L ≤ 1000000) {g : Int32} (hg : vp_in g 8) : sm b g = (b 2 0 g).toInt := by
  have e := congrArg Int32.toInt (stk_sum hB ho hg)
  obtain ⟨a, a2⟩ := hS g hg
  have a0 := a 0 (vin_lit (by decide)); have a1 := a 1 (vin_lit (by decide)); have a2' := a 2 (vin_lit (by decide)); have a3 := a 3 (vin_lit (by decide)); have a4 := a 4 (vin_lit (by decide))
  unfold sm at a2 ⊢
  have e1 : (b 8 0 g + b 8 1 g).toInt = (b 8 0 g).toInt + (b 8 1 g).toInt := i32addn (by omega) (by omega)
  have e2 : (b 8 0 g + b 8 1 g + b 8 2 g).toInt = (b 8 0 g).toInt + (b 8 1 g).toInt + (b 8 2 g).toInt := by rw [i32addn (by omega) (by omega), e1]
  have e3 : (b 8 0 g + b 8 1 g + b 8 2 g + b 8 3 g).toInt = (b 8 0 g).toInt + (b 8 1 g).toInt + (b 8 2 g).toInt + (b 8 3 g).toInt := by rw [i32addn (by omega) (by omega), e2]
  rw [i32addn (by omega) (by omega), e3] at e
  exact e
theorem RW.tight (h : RW L M) (hL : L ≤ 1000000) (hx : ∀ g : Int32, vp_in g 8 → (M 1 2 0 g).toInt ≤ 1000) : RW 1000 M := by
  obtain ⟨h1, ⟨q1, ⟨q2, q3, q4⟩, q5⟩, h3, h4⟩ := h
  refine ⟨h1, ⟨q1, ⟨q2, q3, fun g hg => ⟨(q4 g hg).1, ?_⟩⟩, q5⟩, h3, h4⟩
  rw [stk_tot q3 h4.b q4 hL hg]; exact hx g hg
def XB (x : Int32 → Int32) : Prop := ∀ g : Int32, vp_in g 8 → 0 ≤ (x g).toInt ∧ (x g).toInt ≤ 1000
def LW (x : Int32 → Int32) (k : Int) (M : Wm) : Prop := RW 1000 M ∧ J0 x (100000 * k) (1000 + 1000 * k) M ∧ XB x ∧ M 12 0 0 0 = 0 ∧ 0 ≤ k
def kI (a b : Nat) (t : Int32) : Nat := if t = 0 then 0 else if t = 1 then a else if t = 2 then b else 6 - a - b
/-- a call, told by the reference's data: what is thrown, the answer, the data then -/
def Z12 (a b : Nat) (m : Cm) (r : Int32 × Cm) : (Nat × Int32) × Cm := if r.2 0 0 0 = 0 then ((0, r.1), r.2) else ((kI a b (r.2 0 0 0), 0), m)
def LOp (x' : Int32 → Int32) (k' : Int) (z : (Nat × Int32) × Wm) (y : (Nat × Int32) × Cm) : Prop := z.1.1 = y.1.1 ∧ (z.1.1 = 0 → z.1.2 = y.1.2) ∧ LW x' k' (uW z.2 12 y.2)
theorem LOp.of {x' : Int32 → Int32} {k' : Int} {a c : Nat} {z : (Nat × Int32) × Wm} {f : Cm → Int32 × Cm} (h : LW x k M) (H : OpR 1000 M (kfI a c) z f) (hj : J0 x' (100000 * k') (1000 + 1000 * k') z.2) (hx : XB x') (hk' : 0 ≤ k') (hk : z.1.1 = 0 ∨ kI a c (kfI a c z.1.1) = z.1.1) : LOp x' k' z (Z12 a c (M 12) (f (M 12))) := by
  obtain ⟨e12, H | H⟩ := H
  · obtain ⟨h0, t0, hv, hR⟩ := H
    have ey : Z12 a c (M 12) (f (M 12)) = ((0, (f (M 12)).1), (f (M 12)).2) := by unfold Z12; rw [if_pos t0]
    rw [ey]
    refine ⟨h0, fun _ => hv, ?_, hj.fr rfl rfl rfl, hx, ?_, hk'⟩
    · refine hR.tight (by decide) (fun g hg => ?_)
      have e : uW z.2 12 (f (M 12)).2 1 2 0 = x' := hj.2.2.2.2
      rw [congrFun e g]; exact (hx g hg).2
    · rw [uW_at]; exact t0
  · obtain ⟨h0, ef, hkf, hR⟩ := H
    have t0 : (f (M 12)).2 0 0 0 = kfI a c z.1.1 := by rw [ef, u3_at]
    have ey : Z12 a c (M 12) (f (M 12)) = ((z.1.1, 0), M 12) := by
      unfold Z12; rw [if_neg (by rw [t0]; exact hkf), t0, hk.resolve_left h0]
    rw [ey]
    have eM : uW z.2 12 (M 12) = z.2 := by rw [← e12]; exact (uW_self z.2 12).symm
    refine ⟨rfl, fun w => absurd w h0, ?_⟩
    show LW x' k' (uW z.2 12 (M 12))
    rw [eM]
    exact ⟨hR, hj, hx, by rw [e12]; exact h.2.2.2.1, hk'⟩
theorem LW.mono {k' : Int} (h : LW x k M) (h1 : k ≤ k') (h2 : k' ≤ 10000) : LW x k' M := ⟨h.1, (h.2.1.qm (by omega) (by omega)).mono (by omega) (by omega), h.2.2.1, h.2.2.2.1, by have := h.2.2.2.2; omega⟩
end LWS
section LOPS
variable {x : Int32 → Int32} {k : Int} {M : Wm} {p1 p2 p3 p4 : Int32}
theorem k11 {n : Nat} (h : n = 0 ∨ n = 1) : n = 0 ∨ kI 1 1 (kfI 1 1 n) = n := by rcases h with h | h <;> subst h <;> first | exact Or.inl rfl | exact Or.inr (by decide)
theorem k12 {n : Nat} (h : n = 0 ∨ n = 1 ∨ n = 2) : n = 0 ∨ kI 1 2 (kfI 1 2 n) = n := by rcases h with h | h | h <;> subst h <;> first | exact Or.inl rfl | exact Or.inr (by decide)
theorem k33 {n : Nat} (h : n = 0 ∨ n = 3) : n = 0 ∨ kI 3 3 (kfI 3 3 n) = n := by rcases h with h | h <;> subst h <;> first | exact Or.inl rfl | exact Or.inr (by decide)
theorem k31 {n : Nat} (h : n = 0 ∨ n = 3 ∨ n = 1) : n = 0 ∨ kI 3 1 (kfI 3 1 n) = n := by rcases h with h | h | h <;> subst h <;> first | exact Or.inl rfl | exact Or.inr (by decide)
theorem k312 {n : Nat} (h : n = 0 ∨ n = 3 ∨ n = 1 ∨ n = 2) : n = 0 ∨ kI 3 1 (kfI 3 1 n) = n := by rcases h with h | h | h | h <;> subst h <;> first | exact Or.inl rfl | exact Or.inr (by decide)
theorem O_type (h : LW x k M) : LOp x k (f11_type M p1 p2) (Z12 1 2 (M 12) (f12_type (M 12) p1 p2)) := LOp.of (f := fun m => f12_type m p1 p2) h (R_type h.1) (j_type h.2.1) h.2.2.1 h.2.2.2.2 (k12 k_type)
theorem O_erase (h : LW x k M) : LOp x k (f11_erase M p1 p2) (Z12 1 1 (M 12) (f12_erase (M 12) p1 p2)) := LOp.of (f := fun m => f12_erase m p1 p2) h (R_erase h.1) (j_erase h.2.1) h.2.2.1 h.2.2.2.2 (k11 k_erase)
theorem O_setTariff (h : LW x k M) : LOp x k (f11_setTariff M p1) (Z12 1 1 (M 12) (f12_setTariff (M 12) p1)) := LOp.of (f := fun m => f12_setTariff m p1) h (R_setTariff h.1) (j_setTariff h.2.1) h.2.2.1 h.2.2.2.2 (k11 k_setTariff)
theorem O_setBuying {b : Bool} (h : LW x k M) : LOp x k (f11_setBuying M p1 b) (Z12 1 1 (M 12) (b2i (f12_setBuying (M 12) p1 b).1, (f12_setBuying (M 12) p1 b).2)) := LOp.of (f := fun m => (b2i (f12_setBuying m p1 b).1, (f12_setBuying m p1 b).2)) h (R_setBuying h.1) (j_setBuying h.2.1) h.2.2.1 h.2.2.2.2 (k11 k_setBuying)
theorem O_setCredit (h : LW x k M) : LOp x k (f11_setCredit M p1 p2 p3) (Z12 1 1 (M 12) (f12_setCredit (M 12) p1 p2 p3)) := LOp.of (f := fun m => f12_setCredit m p1 p2 p3) h (R_setCredit h.1) (j_setCredit h.2.1) h.2.2.1 h.2.2.2.2 (k11 k_setCredit)
theorem O_payBack (h : LW x k M) : LOp x k (f11_payBack M p1 p2 p3) (Z12 1 2 (M 12) (f12_payBack (M 12) p1 p2 p3)) := LOp.of (f := fun m => f12_payBack m p1 p2 p3) h (R_payBack h.1) (j_payBack h.2.1) h.2.2.1 h.2.2.2.2 (k12 k_payBack)
theorem O_buy (h : LW x k M) : LOp x k (f11_buy M p1 p2) (Z12 1 2 (M 12) (f12_buy (M 12) p1 p2)) := LOp.of (f := fun m => f12_buy m p1 p2) h (R_buy h.1) (j_buy h.2.1) h.2.2.1 h.2.2.2.2 (k12 k_buy)
theorem O_order (h : LW x k M) : LOp x k (f11_order M p1 p2 p3 p4) (Z12 1 2 (M 12) (f12_order (M 12) p1 p2 p3 p4)) := LOp.of (f := fun m => f12_order m p1 p2 p3 p4) h (R_order h.1) (j_order h.2.1) h.2.2.1 h.2.2.2.2 (k12 k_order)
theorem O_pass (h : LW x k M) : LOp x k (f11_pass M p1) (Z12 1 2 (M 12) (f12_pass (M 12) p1)) := LOp.of (f := fun m => f12_pass m p1) h (R_pass h.1 (by decide)) (h.2.1.pass h.1.2.2.2 (by have := h.2.2.2.2; omega)) h.2.2.1 h.2.2.2.2 (k12 (k_pass lp37_k))
theorem O_giveRations (h : LW x k M) (hk : k < 10000) : LOp x (k + 1) (f11_giveRations M p1 p2) (Z12 1 1 (M 12) (f12_giveRations (M 12) p1 p2)) := by
  have j := (j_giveRations (p1 := p1) (p2 := p2) h.2.1 (by omega)).mono (BO' := 1000 + 1000 * (k + 1)) (by omega) (by omega)
  rw [show 100000 * k + 100000 = 100000 * (k + 1) by omega] at j
  exact LOp.of (f := fun m => f12_giveRations m p1 p2) h (R_giveRations h.1) j h.2.2.1 (by have := h.2.2.2.2; omega) (k11 k_giveRations)
theorem O_takeUp (h : LW x k M) (hk : k < 10000) : LOp x (k + 1) (f11_takeUp M p1 p2) (Z12 3 1 (M 12) (f12_takeUp (M 12) p1 p2)) := by
  have j := (h.2.1.takeUp (p1 := p1) (p2 := p2) h.1.2.2.2 (by omega)).qm (BQ' := 100000 * (k + 1)) (by omega) (by omega)
  rw [show 1000 + 1000 * k + 1000 = 1000 + 1000 * (k + 1) by omega] at j
  exact LOp.of (f := fun m => f12_takeUp m p1 p2) h (R_takeUp h.1 (by decide)) j h.2.2.1 (by have := h.2.2.2.2; omega) (k312 (k_takeUp h.1.2.2.2.o.1))
theorem O_supply (h : LW x k M) (hx : (f11_supply M p1 p2).1.1 = 0 → XB (upx x p1 p2)) : LOp (if (f11_supply M p1 p2).1.1 = 0 then upx x p1 p2 else x) k (f11_supply M p1 p2) (Z12 1 1 (M 12) (f12_supply (M 12) p1 p2)) := by
  refine LOp.of (f := fun m => f12_supply m p1 p2) h (R_supply h.1 (by decide)) (j_supply h.2.1) ?_ h.2.2.2.2 (k11 k_supply)
  by_cases c : (f11_supply M p1 p2).1.1 = 0
  · rw [if_pos c]; exact hx c
  · rw [if_neg c]; exact h.2.2.1
end LOPS
