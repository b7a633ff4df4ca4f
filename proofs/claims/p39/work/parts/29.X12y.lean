/-- one expression is reached from another by following -/
def rch12 (m : Cm) (s : Int32) : Nat → Int32 → Int32 → Prop
  | 0, a, b => a = b
  | k + 1, a, b => Ix12 m s a ∧ rch12 m s k (f12_following m s a) b
def Rch12 (m : Cm) (s a b : Int32) : Prop := ∃ k, rch12 m s k a b
theorem Rch12.refl (m : Cm) (s a : Int32) : Rch12 m s a a := ⟨0, rfl⟩
theorem Rch12.next {m : Cm} {s a b : Int32} (h : Rch12 m s a b) (hn : ¬ a = b) : Ix12 m s a ∧ Rch12 m s (f12_following m s a) b := by
  obtain ⟨k, h⟩ := h
  cases k with
  | zero => exact absurd h hn
  | succ k => exact ⟨h.1, k, h.2⟩
theorem rch12_snoc {m : Cm} {s : Int32} : ∀ (k : Nat) {a b : Int32}, rch12 m s k a b → Ix12 m s b → rch12 m s (k + 1) a (f12_following m s b) := by
  intro k
  induction k with
  | zero => intro a b h hI; cases h; exact ⟨hI, rfl⟩
  | succ k ih => intro a b h hI; exact ⟨h.1, ih h.2 hI⟩
theorem Rch12.snoc {m : Cm} {s a b : Int32} (h : Rch12 m s a b) (hI : Ix12 m s b) : Rch12 m s a (f12_following m s b) := by
  obtain ⟨k, h⟩ := h
  exact ⟨k + 1, rch12_snoc k h hI⟩
def f12_isParts_lp80 (m : Cm) (p1 : Int32) (x9 : Int32 × Bool × Int32) (K20 : Bool → Bool) : Nat → (Int32 × Bool) → Bool
  | 0, x19 => false
  | n21 + 1, x19 => if x19.1 = x9.1 then K20 x19.2 else if x19.2 = true then bnd (f12_nameAt m p1 x19.1) (fun (r24 : Int32) => bnd (f12_nameAt m p1 x9.1) (fun (r25 : Int32) => jn (fun (v26 : Bool) => bnd (f12_following m p1 x19.1) (fun (r29 : Int32) => f12_isParts_lp80 m p1 x9 K20 n21 (r29, v26))) (fun K27 => if r24 = r25 then K27 false else K27 true))) else K20 x19.2
theorem f12_isParts_lp80_s (m : Cm) (p1 : Int32) (x9 : Int32 × Bool × Int32) (K20 : Bool → Bool) (n21 : Nat) (x19 : Int32 × Bool) : f12_isParts_lp80 m p1 x9 K20 (n21 + 1) x19 = if x19.1 = x9.1 then K20 x19.2 else if x19.2 = true then bnd (f12_nameAt m p1 x19.1) (fun (r24 : Int32) => bnd (f12_nameAt m p1 x9.1) (fun (r25 : Int32) => jn (fun (v26 : Bool) => bnd (f12_following m p1 x19.1) (fun (r29 : Int32) => f12_isParts_lp80 m p1 x9 K20 n21 (r29, v26))) (fun K27 => if r24 = r25 then K27 false else K27 true))) else K20 x19.2 := rfl
def f12_isParts_lp38 (m : Cm) (p1 : Int32) (p2 : Int32) : Nat → (Int32 × Bool × Int32) → Bool
  | 0, x9 => false
  | n10 + 1, x9 => if x9.1 = (-1) then x9.2.1 else if x9.2.1 = true then bnd (f12_isName m p1 x9.1) (fun (r13 : Bool) => jn (fun (v14 : Bool) => bnd (f12_nextAt m p1 (p2 + 1)) (fun (r18 : Int32) => jn (fun (y30 : Bool) => bnd (x9.2.2 + 1) (fun (v31 : Int32) => bnd (f12_following m p1 x9.1) (fun (r32 : Int32) => f12_isParts_lp38 m p1 p2 n10 (r32, y30, v31)))) (fun K20 => f12_isParts_lp80 m p1 x9 K20 123 (r18, v14)))) (fun K15 => if r13 = true then if 3 ≤ x9.2.2 then K15 false else K15 true else K15 false)) else x9.2.1
theorem f12_isParts_lp38_s (m : Cm) (p1 : Int32) (p2 : Int32) (n10 : Nat) (x9 : Int32 × Bool × Int32) : f12_isParts_lp38 m p1 p2 (n10 + 1) x9 = if x9.1 = (-1) then x9.2.1 else if x9.2.1 = true then bnd (f12_isName m p1 x9.1) (fun (r13 : Bool) => jn (fun (v14 : Bool) => bnd (f12_nextAt m p1 (p2 + 1)) (fun (r18 : Int32) => jn (fun (y30 : Bool) => bnd (x9.2.2 + 1) (fun (v31 : Int32) => bnd (f12_following m p1 x9.1) (fun (r32 : Int32) => f12_isParts_lp38 m p1 p2 n10 (r32, y30, v31)))) (fun K20 => f12_isParts_lp80 m p1 x9 K20 123 (r18, v14)))) (fun K15 => if r13 = true then if 3 ≤ x9.2.2 then K15 false else K15 true else K15 false)) else x9.2.1 := rfl
def f12_isParts (m : Cm) (p1 : Int32) (p2 : Int32) : Bool := bnd (f12_signAt m p1 p2) (fun (r1 : Int32) => jn (fun (v2 : Bool) => jn (fun (v5 : Int32) => f12_isParts_lp38 m p1 p2 123 (v5, v2, 0)) (fun K6 => if v2 = true then bnd (f12_nextAt m p1 (p2 + 1)) (fun (r8 : Int32) => K6 r8) else K6 (-1))) (fun K3 => if r1 = 40 then K3 true else K3 false))
/-- the reference's rows of names and of how many values they take -/
def lst12 (i : Int32) : Int32 := ([2, 2, 2, 2, 2, 2, 2, 2, 2, 1, 2, 2, 3, 2, 1, 3, 2, 3, 2, 2, 3, 3, 1, 1, 0, 0] : List Int32).getD i.toNatClampNeg 0
def mst12 (i : Int32) : Int32 := ([2, 2, 2, 2, 2, 2, 2, 2, 2, 1, 2, 2, 3, 99, 99, 99, 2, 3, 2, 2, 3, 3, 1, 1, 0, 0] : List Int32).getD i.toNatClampNeg 0
def Ct12 (m : Cm) : Prop := ∀ j : Int32, vp_in j 26 → m 28 0 j = wdCode j ∧ m 29 0 j = lst12 j ∧ m 30 0 j = mst12 j
theorem in26 {P : Int32 → Prop} (h : ∀ k : Nat, k < 26 → P (nI k)) {j : Int32} (hj : vp_in j 26) : P j := by
  rw [← nI_tn hj]
  refine h _ ?_
  exact Nat.not_le.mp fun q => hj (Or.inr q)
theorem lst12_1 {j : Int32} (hj : vp_in j 26) (h : ¬ j = 24) (h2 : ¬ j = 25) : 1 ≤ (lst12 j).toInt := by
  refine in26 (P := fun j => ¬ j = 24 → ¬ j = 25 → 1 ≤ (lst12 j).toInt) ?_ hj h h2
  decide +kernel
/-- what the well-formed lists of a first name have -/
theorem isFormed_1 {m : Cm} {op first : Int32} (hk : Ok12 m) (hC : Ct12 m) (hT : Tx12 m (m 0 0 60)) (hN : Nx12 m (m 0 0 60) first) (ho : vp_in op 26) (h : ¬ f12_countFrom m (m 0 0 60) first < m 29 0 op) : (lst12 op).toInt ≤ (CN12 m (m 0 0 60) first : Int) := by
  rw [(hC op ho).2.1] at h
  simp only [i32lt] at h
  rw [countFrom_eq hk hk.scr hT hN] at h
  omega
theorem CN12_pos {m : Cm} {s i : Int32} (hN : Nx12 m s i) (h : 1 ≤ (CN12 m s i : Int)) : Ix12 m s i := by
  refine hN.resolve_left (fun z => ?_)
  rw [z, CN12_none] at h
  exact absurd h (by decide)
theorem CN12_2 {m : Cm} {s i : Int32} (hk : Ok12 m) (hs : vp_in s 8) (hT : Tx12 m s) (hN : Nx12 m s i) (h : 2 ≤ (CN12 m s i : Int)) : Ix12 m s (f12_following m s i) := by
  have hI := CN12_pos hN (by omega)
  have hc := CN12_s hk hs hT hI
  exact CN12_pos (following_n hk hs hT hI) (by omega)
def f12_isFormed (m : Cm) (p1 : Int32) (p2 : Int32) (p3 : Int32) : Bool := bnd (f12_countFrom m (m 0 0 60) p3) (fun (r1 : Int32) => if p1 = 26 then if r1 = (m 53 0 p2) then true else false else if r1 < (m 29 0 p1) then false else if r1 ≤ (m 30 0 p1) then if p1 = 15 then bnd (f12_isName m (m 0 0 60) p3) (fun (r6 : Bool) => r6) else if p1 = 16 then bnd (f12_isName m (m 0 0 60) p3) (fun (r32 : Bool) => r32) else if p1 = 18 then bnd (f12_goodAt m (m 0 0 60) p3) (fun (r9 : Int32) => if r9 = (-1) then false else true) else if p1 = 19 then bnd (f12_goodAt m (m 0 0 60) p3) (fun (r30 : Int32) => if r30 = (-1) then false else true) else if p1 = 20 then bnd (f12_following m (m 0 0 60) p3) (fun (r27 : Int32) => bnd (f12_goodAt m (m 0 0 60) r27) (fun (r28 : Int32) => if r28 = (-1) then false else true)) else if p1 = 17 then bnd (f12_isName m (m 0 0 60) p3) (fun (r14 : Bool) => jn (fun (v15 : Bool) => if v15 = true then bnd (f12_following m (m 0 0 60) p3) (fun (r24 : Int32) => bnd (f12_isParts m (m 0 0 60) r24) (fun (r25 : Bool) => if r25 = true then true else false)) else false) (fun K16 => if r14 = true then bnd (f12_nameAt m (m 0 0 60) p3) (fun (r18 : Int32) => bnd (f12_opOf m r18) (fun (r19 : Int32) => if r19 = (-1) then bnd (f12_goodAt m (m 0 0 60) p3) (fun (r21 : Int32) => if r21 = (-1) then K16 true else K16 false) else K16 false)) else K16 false)) else true else false)
