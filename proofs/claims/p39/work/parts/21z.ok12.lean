/-! BOUNDS OF THE REFERENCE'S WORLD, and texts without fault -/
def rIn (n k : Nat) (f : Int32 → Int32) : Prop := ∀ j : Int32, vp_in j n → vp_in (f j) k
def rBd (n : Nat) (a b : Int) (f : Int32 → Int32) : Prop := ∀ j : Int32, vp_in j n → a ≤ (f j).toInt ∧ (f j).toInt ≤ b
theorem rIn.pt {n k : Nat} {f : Int32 → Int32} (h : rIn n k f) {j x : Int32} (hx : vp_in x k) : rIn n k (fI f j x) := by
  intro i hi; unfold fI; by_cases e : i = j
  · rw [if_pos e]; exact hx
  · rw [if_neg e]; exact h i hi
theorem rBd.pt {n : Nat} {a b : Int} {f : Int32 → Int32} (h : rBd n a b f) {j x : Int32} (h1 : a ≤ x.toInt) (h2 : x.toInt ≤ b) : rBd n a b (fI f j x) := by
  intro i hi; unfold fI; by_cases e : i = j
  · rw [if_pos e]; exact ⟨h1, h2⟩
  · rw [if_neg e]; exact h i hi
def oB (f : Int32 → Int32) : Prop := (vp_in (f 56) 60 ∧ vp_in (f 57) 4 ∧ vp_in (f 60) 8) ∧ (0 ≤ (f 11).toInt ∧ (f 11).toInt ≤ 60) ∧ (0 ≤ (f 21).toInt ∧ (f 21).toInt ≤ 3000) ∧ (0 ≤ (f 50).toInt ∧ (f 50).toInt ≤ 8) ∧ 0 ≤ (f 48).toInt ∧ (0 ≤ (f 49).toInt ∧ (f 49).toInt ≤ 100) ∧ (0 ≤ (f 45).toInt ∧ (f 45).toInt ≤ 31)
def oP (m : Cm) : Prop := rIn 32 8 (m 31 0) ∧ rIn 32 27 (m 32 0) ∧ rIn 32 4 (m 42 0) ∧ rIn 32 8 (m 44 0) ∧ rIn 32 8 (m 41 0) ∧ rBd 32 0 2147483647 (m 39 0) ∧ rBd 32 0 100 (m 40 0)
def oM (m : Cm) : Prop := rIn 3000 5 (m 23 0) ∧ rIn 3000 5 (m 24 0) ∧ rIn 3000 8 (m 25 0)
def oO (m : Cm) : Prop := rIn 60 4 (m 13 0) ∧ rIn 60 8 (m 14 0)
def oF (m : Cm) : Prop := rIn 8 4 (m 53 0) ∧ rIn 8 8 (m 55 0)
def Ok12 (m : Cm) : Prop := rBd 8 0 120 (m 3 0) ∧ oB (m 0 0) ∧ oP m ∧ oM m ∧ oO m ∧ oF m
theorem Ok12.len {m : Cm} (h : Ok12 m) : ∀ j : Int32, vp_in j 8 → 0 ≤ (m 3 0 j).toInt ∧ (m 3 0 j).toInt ≤ 120 := h.1
theorem Ok12.ord {m : Cm} (h : Ok12 m) : vp_in (m 0 0 56) 60 := h.2.1.1.1
theorem Ok12.cmp {m : Cm} (h : Ok12 m) : vp_in (m 0 0 57) 4 := h.2.1.1.2.1
theorem Ok12.scr {m : Cm} (h : Ok12 m) : vp_in (m 0 0 60) 8 := h.2.1.1.2.2
theorem Ok12.o0 {m : Cm} (h : Ok12 m) : 0 ≤ (m 0 0 11).toInt := h.2.1.2.1.1
theorem Ok12.o1 {m : Cm} (h : Ok12 m) : (m 0 0 11).toInt ≤ 60 := h.2.1.2.1.2
theorem Ok12.m0 {m : Cm} (h : Ok12 m) : 0 ≤ (m 0 0 21).toInt := h.2.1.2.2.1.1
theorem Ok12.m1 {m : Cm} (h : Ok12 m) : (m 0 0 21).toInt ≤ 3000 := h.2.1.2.2.1.2
theorem Ok12.f0 {m : Cm} (h : Ok12 m) : 0 ≤ (m 0 0 50).toInt := h.2.1.2.2.2.1.1
theorem Ok12.f1 {m : Cm} (h : Ok12 m) : (m 0 0 50).toInt ≤ 8 := h.2.1.2.2.2.1.2
theorem Ok12.b0 {m : Cm} (h : Ok12 m) : 0 ≤ (m 0 0 48).toInt := h.2.1.2.2.2.2.1
theorem Ok12.t0 {m : Cm} (h : Ok12 m) : 0 ≤ (m 0 0 49).toInt := h.2.1.2.2.2.2.2.1.1
theorem Ok12.t1 {m : Cm} (h : Ok12 m) : (m 0 0 49).toInt ≤ 100 := h.2.1.2.2.2.2.2.1.2
theorem Ok12.d0 {m : Cm} (h : Ok12 m) : 0 ≤ (m 0 0 45).toInt := h.2.1.2.2.2.2.2.2.1
theorem Ok12.d1 {m : Cm} (h : Ok12 m) : (m 0 0 45).toInt ≤ 31 := h.2.1.2.2.2.2.2.2.2
theorem Ok12.pS {m : Cm} (h : Ok12 m) : rIn 32 8 (m 31 0) := h.2.2.1.1
theorem Ok12.pO {m : Cm} (h : Ok12 m) : rIn 32 27 (m 32 0) := h.2.2.1.2.1
theorem Ok12.pN {m : Cm} (h : Ok12 m) : rIn 32 4 (m 42 0) := h.2.2.1.2.2.1
theorem Ok12.pB {m : Cm} (h : Ok12 m) : rIn 32 8 (m 44 0) := h.2.2.1.2.2.2.1
theorem Ok12.pC {m : Cm} (h : Ok12 m) : rIn 32 8 (m 41 0) := h.2.2.1.2.2.2.2.1
theorem Ok12.pb {m : Cm} (h : Ok12 m) : rBd 32 0 2147483647 (m 39 0) := h.2.2.1.2.2.2.2.2.1
theorem Ok12.pt {m : Cm} (h : Ok12 m) : rBd 32 0 100 (m 40 0) := h.2.2.1.2.2.2.2.2.2
theorem Ok12.mF {m : Cm} (h : Ok12 m) : rIn 3000 5 (m 23 0) := h.2.2.2.1.1
theorem Ok12.mT {m : Cm} (h : Ok12 m) : rIn 3000 5 (m 24 0) := h.2.2.2.1.2.1
theorem Ok12.mG {m : Cm} (h : Ok12 m) : rIn 3000 8 (m 25 0) := h.2.2.2.1.2.2
theorem Ok12.oC {m : Cm} (h : Ok12 m) : rIn 60 4 (m 13 0) := h.2.2.2.2.1.1
theorem Ok12.oS {m : Cm} (h : Ok12 m) : rIn 60 8 (m 14 0) := h.2.2.2.2.1.2
theorem Ok12.fN {m : Cm} (h : Ok12 m) : rIn 8 4 (m 53 0) := h.2.2.2.2.2.1
theorem Ok12.fS {m : Cm} (h : Ok12 m) : rIn 8 8 (m 55 0) := h.2.2.2.2.2.2
/-- the fact that a run of the reference carries along: bounds, and the texts as they were -/
def OkT (m0 m : Cm) : Prop := Ok12 m ∧ m 2 = m0 2 ∧ m 3 = m0 3
def hm0 (k : Int32) : Bool := !(k == 11 || k == 21 || k == 45 || k == 48 || k == 49 || k == 50 || k == 56 || k == 57 || k == 60)
theorem hm0_ne {k : Int32} (h : hm0 k = true) : ¬ (11 : Int32) = k ∧ ¬ (21 : Int32) = k ∧ ¬ (45 : Int32) = k ∧ ¬ (48 : Int32) = k ∧ ¬ (49 : Int32) = k ∧ ¬ (50 : Int32) = k ∧ ¬ (56 : Int32) = k ∧ ¬ (57 : Int32) = k ∧ ¬ (60 : Int32) = k := by
  refine ⟨?_, ?_, ?_, ?_, ?_, ?_, ?_, ?_, ?_⟩ <;> (intro e; subst e; exact absurd h (by decide))
theorem oB_put {f : Int32 → Int32} (h : oB f) {k x : Int32} (hk : hm0 k = true) : oB (fI f k x) := by
  obtain ⟨a1, a2, a3, a4, a5, a6, a7, a8, a9⟩ := hm0_ne hk
  unfold oB fI
  rw [if_neg a1, if_neg a2, if_neg a3, if_neg a4, if_neg a5, if_neg a6, if_neg a7, if_neg a8, if_neg a9]
  exact h
theorem ok12_put0 {m : Cm} (h : Ok12 m) {k x : Int32} (hk : hm0 k = true) : Ok12 (u3 m 0 0 k x) :=
  ⟨h.1, oB_put h.2.1 hk, h.2.2⟩
theorem okT_put0 {m0 m : Cm} (h : OkT m0 m) {k x : Int32} (hk : hm0 k = true) : OkT m0 (u3 m 0 0 k x) := ⟨ok12_put0 h.1 hk, h.2⟩
theorem okT_s11 {m0 m : Cm} (h : OkT m0 m) {x : Int32} (hx : 0 ≤ x.toInt ∧ x.toInt ≤ 60) : OkT m0 (u3 m 0 0 11 x) := by
  have h' := h; obtain ⟨h, hfr⟩ := h
  refine ⟨⟨h.1, ?_, h.2.2⟩, hfr⟩
  show oB (fI (m 0 0) 11 x)
  unfold oB fI
  simp only [if_true, if_neg (show ¬ (21 : Int32) = 11 by decide), if_neg (show ¬ (45 : Int32) = 11 by decide), if_neg (show ¬ (48 : Int32) = 11 by decide), if_neg (show ¬ (49 : Int32) = 11 by decide), if_neg (show ¬ (50 : Int32) = 11 by decide), if_neg (show ¬ (56 : Int32) = 11 by decide), if_neg (show ¬ (57 : Int32) = 11 by decide), if_neg (show ¬ (60 : Int32) = 11 by decide)]
  exact ⟨⟨h.2.1.1.1, h.2.1.1.2.1, h.2.1.1.2.2⟩, hx, h.2.1.2.2.1, h.2.1.2.2.2.1, h.2.1.2.2.2.2.1, h.2.1.2.2.2.2.2.1, h.2.1.2.2.2.2.2.2⟩
theorem okT_s21 {m0 m : Cm} (h : OkT m0 m) {x : Int32} (hx : 0 ≤ x.toInt ∧ x.toInt ≤ 3000) : OkT m0 (u3 m 0 0 21 x) := by
  have h' := h; obtain ⟨h, hfr⟩ := h
  refine ⟨⟨h.1, ?_, h.2.2⟩, hfr⟩
  show oB (fI (m 0 0) 21 x)
  unfold oB fI
  simp only [if_true, if_neg (show ¬ (11 : Int32) = 21 by decide), if_neg (show ¬ (45 : Int32) = 21 by decide), if_neg (show ¬ (48 : Int32) = 21 by decide), if_neg (show ¬ (49 : Int32) = 21 by decide), if_neg (show ¬ (50 : Int32) = 21 by decide), if_neg (show ¬ (56 : Int32) = 21 by decide), if_neg (show ¬ (57 : Int32) = 21 by decide), if_neg (show ¬ (60 : Int32) = 21 by decide)]
  exact ⟨⟨h.2.1.1.1, h.2.1.1.2.1, h.2.1.1.2.2⟩, h.2.1.2.1, hx, h.2.1.2.2.2.1, h.2.1.2.2.2.2.1, h.2.1.2.2.2.2.2.1, h.2.1.2.2.2.2.2.2⟩
theorem okT_s50 {m0 m : Cm} (h : OkT m0 m) {x : Int32} (hx : 0 ≤ x.toInt ∧ x.toInt ≤ 8) : OkT m0 (u3 m 0 0 50 x) := by
  have h' := h; obtain ⟨h, hfr⟩ := h
  refine ⟨⟨h.1, ?_, h.2.2⟩, hfr⟩
  show oB (fI (m 0 0) 50 x)
  unfold oB fI
  simp only [if_true, if_neg (show ¬ (11 : Int32) = 50 by decide), if_neg (show ¬ (21 : Int32) = 50 by decide), if_neg (show ¬ (45 : Int32) = 50 by decide), if_neg (show ¬ (48 : Int32) = 50 by decide), if_neg (show ¬ (49 : Int32) = 50 by decide), if_neg (show ¬ (56 : Int32) = 50 by decide), if_neg (show ¬ (57 : Int32) = 50 by decide), if_neg (show ¬ (60 : Int32) = 50 by decide)]
  exact ⟨⟨h.2.1.1.1, h.2.1.1.2.1, h.2.1.1.2.2⟩, h.2.1.2.1, h.2.1.2.2.1, hx, h.2.1.2.2.2.2.1, h.2.1.2.2.2.2.2.1, h.2.1.2.2.2.2.2.2⟩
theorem okT_s48 {m0 m : Cm} (h : OkT m0 m) {x : Int32} (hx : 0 ≤ x.toInt) : OkT m0 (u3 m 0 0 48 x) := by
  have h' := h; obtain ⟨h, hfr⟩ := h
  refine ⟨⟨h.1, ?_, h.2.2⟩, hfr⟩
  show oB (fI (m 0 0) 48 x)
  unfold oB fI
  simp only [if_true, if_neg (show ¬ (11 : Int32) = 48 by decide), if_neg (show ¬ (21 : Int32) = 48 by decide), if_neg (show ¬ (45 : Int32) = 48 by decide), if_neg (show ¬ (49 : Int32) = 48 by decide), if_neg (show ¬ (50 : Int32) = 48 by decide), if_neg (show ¬ (56 : Int32) = 48 by decide), if_neg (show ¬ (57 : Int32) = 48 by decide), if_neg (show ¬ (60 : Int32) = 48 by decide)]
  exact ⟨⟨h.2.1.1.1, h.2.1.1.2.1, h.2.1.1.2.2⟩, h.2.1.2.1, h.2.1.2.2.1, h.2.1.2.2.2.1, hx, h.2.1.2.2.2.2.2.1, h.2.1.2.2.2.2.2.2⟩
theorem okT_s49 {m0 m : Cm} (h : OkT m0 m) {x : Int32} (hx : 0 ≤ x.toInt ∧ x.toInt ≤ 100) : OkT m0 (u3 m 0 0 49 x) := by
  have h' := h; obtain ⟨h, hfr⟩ := h
  refine ⟨⟨h.1, ?_, h.2.2⟩, hfr⟩
  show oB (fI (m 0 0) 49 x)
  unfold oB fI
  simp only [if_true, if_neg (show ¬ (11 : Int32) = 49 by decide), if_neg (show ¬ (21 : Int32) = 49 by decide), if_neg (show ¬ (45 : Int32) = 49 by decide), if_neg (show ¬ (48 : Int32) = 49 by decide), if_neg (show ¬ (50 : Int32) = 49 by decide), if_neg (show ¬ (56 : Int32) = 49 by decide), if_neg (show ¬ (57 : Int32) = 49 by decide), if_neg (show ¬ (60 : Int32) = 49 by decide)]
  exact ⟨⟨h.2.1.1.1, h.2.1.1.2.1, h.2.1.1.2.2⟩, h.2.1.2.1, h.2.1.2.2.1, h.2.1.2.2.2.1, h.2.1.2.2.2.2.1, hx, h.2.1.2.2.2.2.2.2⟩
theorem okT_s45 {m0 m : Cm} (h : OkT m0 m) {x : Int32} (hx : 0 ≤ x.toInt ∧ x.toInt ≤ 31) : OkT m0 (u3 m 0 0 45 x) := by
  have h' := h; obtain ⟨h, hfr⟩ := h
  refine ⟨⟨h.1, ?_, h.2.2⟩, hfr⟩
  show oB (fI (m 0 0) 45 x)
  unfold oB fI
  simp only [if_true, if_neg (show ¬ (11 : Int32) = 45 by decide), if_neg (show ¬ (21 : Int32) = 45 by decide), if_neg (show ¬ (48 : Int32) = 45 by decide), if_neg (show ¬ (49 : Int32) = 45 by decide), if_neg (show ¬ (50 : Int32) = 45 by decide), if_neg (show ¬ (56 : Int32) = 45 by decide), if_neg (show ¬ (57 : Int32) = 45 by decide), if_neg (show ¬ (60 : Int32) = 45 by decide)]
  exact ⟨⟨h.2.1.1.1, h.2.1.1.2.1, h.2.1.1.2.2⟩, h.2.1.2.1, h.2.1.2.2.1, h.2.1.2.2.2.1, h.2.1.2.2.2.2.1, h.2.1.2.2.2.2.2.1, hx⟩
theorem okT_s56 {m0 m : Cm} (h : OkT m0 m) {x : Int32} (hx : vp_in x 60) : OkT m0 (u3 m 0 0 56 x) := by
  have h' := h; obtain ⟨h, hfr⟩ := h
  refine ⟨⟨h.1, ?_, h.2.2⟩, hfr⟩
  show oB (fI (m 0 0) 56 x)
  unfold oB fI
  simp only [if_true, if_neg (show ¬ (11 : Int32) = 56 by decide), if_neg (show ¬ (21 : Int32) = 56 by decide), if_neg (show ¬ (45 : Int32) = 56 by decide), if_neg (show ¬ (48 : Int32) = 56 by decide), if_neg (show ¬ (49 : Int32) = 56 by decide), if_neg (show ¬ (50 : Int32) = 56 by decide), if_neg (show ¬ (57 : Int32) = 56 by decide), if_neg (show ¬ (60 : Int32) = 56 by decide)]
  exact ⟨⟨hx, h.2.1.1.2.1, h.2.1.1.2.2⟩, h.2.1.2.1, h.2.1.2.2.1, h.2.1.2.2.2.1, h.2.1.2.2.2.2.1, h.2.1.2.2.2.2.2.1, h.2.1.2.2.2.2.2.2⟩
theorem okT_s57 {m0 m : Cm} (h : OkT m0 m) {x : Int32} (hx : vp_in x 4) : OkT m0 (u3 m 0 0 57 x) := by
  have h' := h; obtain ⟨h, hfr⟩ := h
  refine ⟨⟨h.1, ?_, h.2.2⟩, hfr⟩
  show oB (fI (m 0 0) 57 x)
  unfold oB fI
  simp only [if_true, if_neg (show ¬ (11 : Int32) = 57 by decide), if_neg (show ¬ (21 : Int32) = 57 by decide), if_neg (show ¬ (45 : Int32) = 57 by decide), if_neg (show ¬ (48 : Int32) = 57 by decide), if_neg (show ¬ (49 : Int32) = 57 by decide), if_neg (show ¬ (50 : Int32) = 57 by decide), if_neg (show ¬ (56 : Int32) = 57 by decide), if_neg (show ¬ (60 : Int32) = 57 by decide)]
  exact ⟨⟨h.2.1.1.1, hx, h.2.1.1.2.2⟩, h.2.1.2.1, h.2.1.2.2.1, h.2.1.2.2.2.1, h.2.1.2.2.2.2.1, h.2.1.2.2.2.2.2.1, h.2.1.2.2.2.2.2.2⟩
theorem okT_s60 {m0 m : Cm} (h : OkT m0 m) {x : Int32} (hx : vp_in x 8) : OkT m0 (u3 m 0 0 60 x) := by
  have h' := h; obtain ⟨h, hfr⟩ := h
  refine ⟨⟨h.1, ?_, h.2.2⟩, hfr⟩
  show oB (fI (m 0 0) 60 x)
  unfold oB fI
  simp only [if_true, if_neg (show ¬ (11 : Int32) = 60 by decide), if_neg (show ¬ (21 : Int32) = 60 by decide), if_neg (show ¬ (45 : Int32) = 60 by decide), if_neg (show ¬ (48 : Int32) = 60 by decide), if_neg (show ¬ (49 : Int32) = 60 by decide), if_neg (show ¬ (50 : Int32) = 60 by decide), if_neg (show ¬ (56 : Int32) = 60 by decide), if_neg (show ¬ (57 : Int32) = 60 by decide)]
  exact ⟨⟨h.2.1.1.1, h.2.1.1.2.1, hx⟩, h.2.1.2.1, h.2.1.2.2.1, h.2.1.2.2.2.1, h.2.1.2.2.2.2.1, h.2.1.2.2.2.2.2.1, h.2.1.2.2.2.2.2.2⟩
theorem okT_g31 {m0 m : Cm} (h : OkT m0 m) {j x : Int32} (hx : vp_in x 8) : OkT m0 (u3 m 31 0 j x) := ⟨⟨h.1.1, h.1.2.1, ⟨(h.1.2.2.1.1.pt hx), h.1.2.2.1.2.1, h.1.2.2.1.2.2.1, h.1.2.2.1.2.2.2.1, h.1.2.2.1.2.2.2.2.1, h.1.2.2.1.2.2.2.2.2.1, h.1.2.2.1.2.2.2.2.2.2⟩, h.1.2.2.2⟩, h.2⟩
theorem okT_g32 {m0 m : Cm} (h : OkT m0 m) {j x : Int32} (hx : vp_in x 27) : OkT m0 (u3 m 32 0 j x) := ⟨⟨h.1.1, h.1.2.1, ⟨h.1.2.2.1.1, (h.1.2.2.1.2.1.pt hx), h.1.2.2.1.2.2.1, h.1.2.2.1.2.2.2.1, h.1.2.2.1.2.2.2.2.1, h.1.2.2.1.2.2.2.2.2.1, h.1.2.2.1.2.2.2.2.2.2⟩, h.1.2.2.2⟩, h.2⟩
theorem okT_g42 {m0 m : Cm} (h : OkT m0 m) {j x : Int32} (hx : vp_in x 4) : OkT m0 (u3 m 42 0 j x) := ⟨⟨h.1.1, h.1.2.1, ⟨h.1.2.2.1.1, h.1.2.2.1.2.1, (h.1.2.2.1.2.2.1.pt hx), h.1.2.2.1.2.2.2.1, h.1.2.2.1.2.2.2.2.1, h.1.2.2.1.2.2.2.2.2.1, h.1.2.2.1.2.2.2.2.2.2⟩, h.1.2.2.2⟩, h.2⟩
theorem okT_g44 {m0 m : Cm} (h : OkT m0 m) {j x : Int32} (hx : vp_in x 8) : OkT m0 (u3 m 44 0 j x) := ⟨⟨h.1.1, h.1.2.1, ⟨h.1.2.2.1.1, h.1.2.2.1.2.1, h.1.2.2.1.2.2.1, (h.1.2.2.1.2.2.2.1.pt hx), h.1.2.2.1.2.2.2.2.1, h.1.2.2.1.2.2.2.2.2.1, h.1.2.2.1.2.2.2.2.2.2⟩, h.1.2.2.2⟩, h.2⟩
theorem okT_g41 {m0 m : Cm} (h : OkT m0 m) {j x : Int32} (hx : vp_in x 8) : OkT m0 (u3 m 41 0 j x) := ⟨⟨h.1.1, h.1.2.1, ⟨h.1.2.2.1.1, h.1.2.2.1.2.1, h.1.2.2.1.2.2.1, h.1.2.2.1.2.2.2.1, (h.1.2.2.1.2.2.2.2.1.pt hx), h.1.2.2.1.2.2.2.2.2.1, h.1.2.2.1.2.2.2.2.2.2⟩, h.1.2.2.2⟩, h.2⟩
theorem okT_g39 {m0 m : Cm} (h : OkT m0 m) {j x : Int32} (hx : 0 ≤ x.toInt ∧ x.toInt ≤ 2147483647) : OkT m0 (u3 m 39 0 j x) := ⟨⟨h.1.1, h.1.2.1, ⟨h.1.2.2.1.1, h.1.2.2.1.2.1, h.1.2.2.1.2.2.1, h.1.2.2.1.2.2.2.1, h.1.2.2.1.2.2.2.2.1, (h.1.2.2.1.2.2.2.2.2.1.pt hx.1 hx.2), h.1.2.2.1.2.2.2.2.2.2⟩, h.1.2.2.2⟩, h.2⟩
theorem okT_g40 {m0 m : Cm} (h : OkT m0 m) {j x : Int32} (hx : 0 ≤ x.toInt ∧ x.toInt ≤ 100) : OkT m0 (u3 m 40 0 j x) := ⟨⟨h.1.1, h.1.2.1, ⟨h.1.2.2.1.1, h.1.2.2.1.2.1, h.1.2.2.1.2.2.1, h.1.2.2.1.2.2.2.1, h.1.2.2.1.2.2.2.2.1, h.1.2.2.1.2.2.2.2.2.1, (h.1.2.2.1.2.2.2.2.2.2.pt hx.1 hx.2)⟩, h.1.2.2.2⟩, h.2⟩
theorem okT_g23 {m0 m : Cm} (h : OkT m0 m) {j x : Int32} (hx : vp_in x 5) : OkT m0 (u3 m 23 0 j x) := ⟨⟨h.1.1, h.1.2.1, h.1.2.2.1, ⟨(h.1.2.2.2.1.1.pt hx), h.1.2.2.2.1.2.1, h.1.2.2.2.1.2.2⟩, h.1.2.2.2.2⟩, h.2⟩
theorem okT_g24 {m0 m : Cm} (h : OkT m0 m) {j x : Int32} (hx : vp_in x 5) : OkT m0 (u3 m 24 0 j x) := ⟨⟨h.1.1, h.1.2.1, h.1.2.2.1, ⟨h.1.2.2.2.1.1, (h.1.2.2.2.1.2.1.pt hx), h.1.2.2.2.1.2.2⟩, h.1.2.2.2.2⟩, h.2⟩
theorem okT_g25 {m0 m : Cm} (h : OkT m0 m) {j x : Int32} (hx : vp_in x 8) : OkT m0 (u3 m 25 0 j x) := ⟨⟨h.1.1, h.1.2.1, h.1.2.2.1, ⟨h.1.2.2.2.1.1, h.1.2.2.2.1.2.1, (h.1.2.2.2.1.2.2.pt hx)⟩, h.1.2.2.2.2⟩, h.2⟩
theorem okT_g13 {m0 m : Cm} (h : OkT m0 m) {j x : Int32} (hx : vp_in x 4) : OkT m0 (u3 m 13 0 j x) := ⟨⟨h.1.1, h.1.2.1, h.1.2.2.1, h.1.2.2.2.1, ⟨(h.1.2.2.2.2.1.1.pt hx), h.1.2.2.2.2.1.2⟩, h.1.2.2.2.2.2⟩, h.2⟩
theorem okT_g14 {m0 m : Cm} (h : OkT m0 m) {j x : Int32} (hx : vp_in x 8) : OkT m0 (u3 m 14 0 j x) := ⟨⟨h.1.1, h.1.2.1, h.1.2.2.1, h.1.2.2.2.1, ⟨h.1.2.2.2.2.1.1, (h.1.2.2.2.2.1.2.pt hx)⟩, h.1.2.2.2.2.2⟩, h.2⟩
theorem okT_g53 {m0 m : Cm} (h : OkT m0 m) {j x : Int32} (hx : vp_in x 4) : OkT m0 (u3 m 53 0 j x) := ⟨⟨h.1.1, h.1.2.1, h.1.2.2.1, h.1.2.2.2.1, h.1.2.2.2.2.1, ⟨(h.1.2.2.2.2.2.1.pt hx), h.1.2.2.2.2.2.2⟩⟩, h.2⟩
theorem okT_g55 {m0 m : Cm} (h : OkT m0 m) {j x : Int32} (hx : vp_in x 8) : OkT m0 (u3 m 55 0 j x) := ⟨⟨h.1.1, h.1.2.1, h.1.2.2.1, h.1.2.2.2.1, h.1.2.2.2.2.1, ⟨h.1.2.2.2.2.2.1, (h.1.2.2.2.2.2.2.pt hx)⟩⟩, h.2⟩
theorem idx8_40 {x y : Int32} (hx : vp_in x 5) (hy : vp_in y 8) : vp_in ((8 * x) + y) 40 := by
  rw [vp_in_iff] at hx hy ⊢
  have hm : (8 * x).toInt = 8 * x.toInt := by rw [i32muln (by rw [t32_8]; omega) (by rw [t32_8]; omega), t32_8]
  rw [i32addn (by rw [hm]; omega) (by rw [hm]; omega), hm]; omega
theorem idx4_16 {x y : Int32} (hx : vp_in x 4) (hy : vp_in y 4) : vp_in ((4 * x) + y) 16 := by
  rw [vp_in_iff] at hx hy ⊢
  have hm : (4 * x).toInt = 4 * x.toInt := by rw [i32muln (by rw [t32_4]; omega) (by rw [t32_4]; omega), t32_4]
  rw [i32addn (by rw [hm]; omega) (by rw [hm]; omega), hm]; omega
theorem idx3_96 {x y : Int32} (hx : vp_in x 32) (hy : vp_in y 3) : vp_in ((3 * x) + y) 96 := by
  rw [vp_in_iff] at hx hy ⊢
  have hm : (3 * x).toInt = 3 * x.toInt := by rw [i32muln (by rw [t32_3]; omega) (by rw [t32_3]; omega), t32_3]
  rw [i32addn (by rw [hm]; omega) (by rw [hm]; omega), hm]; omega
theorem idx3_24 {x y : Int32} (hx : vp_in x 8) (hy : vp_in y 3) : vp_in ((3 * x) + y) 24 := by
  rw [vp_in_iff] at hx hy ⊢
  have hm : (3 * x).toInt = 3 * x.toInt := by rw [i32muln (by rw [t32_3]; omega) (by rw [t32_3]; omega), t32_3]
  rw [i32addn (by rw [hm]; omega) (by rw [hm]; omega), hm]; omega
theorem idx120_960 {x y : Int32} (hx : vp_in x 8) (hy : vp_in y 120) : vp_in ((120 * x) + y) 960 := by
  rw [vp_in_iff] at hx hy ⊢
  have hm : (120 * x).toInt = 120 * x.toInt := by rw [i32muln (by rw [t32_120]; omega) (by rw [t32_120]; omega), t32_120]
  rw [i32addn (by rw [hm]; omega) (by rw [hm]; omega), hm]; omega
theorem idx32 {x : Int32} (hx : vp_in x 8) : vp_in (32 + x) 40 := by
  rw [vp_in_iff] at hx ⊢
  rw [i32addn (by rw [t32_32]; omega) (by rw [t32_32]; omega), t32_32]; omega
theorem vp_w {x : Int32} {n k : Nat} (h : vp_in x n) (hn : n ≤ k) : vp_in x k := by rw [vp_in_iff] at h ⊢; omega
theorem u3_ne {m : Cm} {g q : Nat} (i j x : Int32) (h : ¬ q = g) : u3 m g i j x q = m q := by
  funext a; funext b
  unfold u3
  rw [if_neg (fun z => h z.1)]
def hmG (g : Nat) : Bool := !([0, 2, 3, 31, 32, 42, 44, 41, 39, 40, 23, 24, 25, 13, 14, 53, 55].contains g)
theorem hmG_ne {g : Nat} (h : hmG g = true) : ¬ 0 = g ∧ ¬ 2 = g ∧ ¬ 3 = g ∧ ¬ 31 = g ∧ ¬ 32 = g ∧ ¬ 42 = g ∧ ¬ 44 = g ∧ ¬ 41 = g ∧ ¬ 39 = g ∧ ¬ 40 = g ∧ ¬ 23 = g ∧ ¬ 24 = g ∧ ¬ 25 = g ∧ ¬ 13 = g ∧ ¬ 14 = g ∧ ¬ 53 = g ∧ ¬ 55 = g := by
  unfold hmG at h
  simp only [List.contains_eq_mem, List.mem_cons, List.not_mem_nil, or_false, Bool.not_eq_true', decide_eq_false_iff_not, not_or] at h
  obtain ⟨a0, a2, a3, a31, a32, a42, a44, a41, a39, a40, a23, a24, a25, a13, a14, a53, a55⟩ := h
  exact ⟨fun e => a0 e.symm, fun e => a2 e.symm, fun e => a3 e.symm, fun e => a31 e.symm, fun e => a32 e.symm, fun e => a42 e.symm, fun e => a44 e.symm, fun e => a41 e.symm, fun e => a39 e.symm, fun e => a40 e.symm, fun e => a23 e.symm, fun e => a24 e.symm, fun e => a25 e.symm, fun e => a13 e.symm, fun e => a14 e.symm, fun e => a53 e.symm, fun e => a55 e.symm⟩
theorem okT_putA {m0 m : Cm} (h : OkT m0 m) {g : Nat} {j x : Int32} (hg : hmG g = true) : OkT m0 (u3 m g 0 j x) := by
  obtain ⟨a0, a2, a3, a31, a32, a42, a44, a41, a39, a40, a23, a24, a25, a13, a14, a53, a55⟩ := hmG_ne hg
  unfold OkT Ok12 oP oM oO oF
  rw [u3_ne _ _ _ a0, u3_ne _ _ _ a2, u3_ne _ _ _ a3, u3_ne _ _ _ a31, u3_ne _ _ _ a32, u3_ne _ _ _ a42, u3_ne _ _ _ a44, u3_ne _ _ _ a41, u3_ne _ _ _ a39, u3_ne _ _ _ a40, u3_ne _ _ _ a23, u3_ne _ _ _ a24, u3_ne _ _ _ a25, u3_ne _ _ _ a13, u3_ne _ _ _ a14, u3_ne _ _ _ a53, u3_ne _ _ _ a55]
  exact h
theorem bnd_I {α β : Type} {P : β → Prop} {a : α} {f : α → β} (h : ∀ x, x = a → P (f x)) : P (bnd a f) := h a rfl
theorem jn_I {α β : Type} {P : β → Prop} {f : α → β} {g : (α → β) → β} (h : ∀ K : α → β, (∀ x, P (K x)) → P (g K)) (hf : ∀ x, P (f x)) : P (jn f g) := h f hf
/-- what a method answered, and the world that it left -/
def OkR {α : Type} (m0 : Cm) (r : α × Cm) : Prop := OkT m0 r.2
