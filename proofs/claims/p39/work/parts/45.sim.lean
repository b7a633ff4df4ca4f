/-! THE SIMULATION: what the class' interpreter and the reference's list machine have in common -/
theorem NdT_fr {t m m' : Cm} (h : m' 2 = m 2 ∧ m' 3 = m 3) (s : Int32) (E : Int32 → Prop) (i : Int32) : NdT t m' s E i = NdT t m s E i := by
  unfold NdT LsT
  simp only [Ix12_eq h, following_fr h, signAt_fr h, nextAt_fr h, CN12_fr h, nameAt_fr h, numberAt_fr h]
theorem TreeOk_fr {t m m' : Cm} (h : m' 2 = m 2 ∧ m' 3 = m 3) (s : Int32) (E : Int32 → Prop) : TreeOk t m' s E = TreeOk t m s E := by
  unfold TreeOk LsT
  simp only [NdT_fr h, nextAt_fr h, CN12_fr h]
/-- the signs that a text may hold -/
def sgOk (x : Int32) : Prop := (x = 32 ∨ x = 40) ∨ (x = 41 ∨ x = 45) ∨ f12_isDigit x = true ∨ f12_isLetter x = true
def SgS (m : Cm) (s : Int32) : Prop := ∀ p : Int32, 0 ≤ p.toInt → p.toInt < (m 3 0 s).toInt → sgOk (f12_signAt m s p)
theorem SgS_fr {m m' : Cm} (h : m' 2 = m 2 ∧ m' 3 = m 3) (s : Int32) : SgS m' s = SgS m s := by
  unfold SgS; simp only [signAt_fr h]; rw [h.2]
def TextR (t x8 m : Cm) (E : Int32 → Int32 → Prop) : Prop := ∀ s : Int32, vp_in s 8 → (x8 3 0 s = f12_faultOf m s ∧ SgS m s) ∧ (f12_faultOf m s = -1 → TreeOk t m s (E s))
theorem TextR.fr {t x8 m m' : Cm} {E : Int32 → Int32 → Prop} (h : TextR t x8 m E) (e : m' 2 = m 2 ∧ m' 3 = m 3) : TextR t x8 m' E := by
  intro s hs
  rw [faultOf_fr e, TreeOk_fr e, SgS_fr e]; exact h s hs
def FnD (t : Cm) (E : Int32 → Int32 → Prop) (d : Int32) (m : Cm) (j : Int32) : Prop := ¬ d = -1 ∧ f9_partsOf t (f9_partOf t d 2) = m 53 0 j ∧ vp_in (m 53 0 j) 4 ∧ (∀ k : Int32, 0 ≤ k.toInt → k.toInt < (m 53 0 j).toInt → ¬ f9_partOf t (f9_partOf t d 2) k = -1 ∧ f9_contentOf t (f9_partOf t (f9_partOf t d 2) k) = m 54 0 (3 * j + k)) ∧ f9_partOf t d 3 = Pl (m 55 0 j) (m 56 0 j) ∧ vp_in (m 55 0 j) 8 ∧ f12_faultOf m (m 55 0 j) = -1 ∧ E (m 55 0 j) (m 56 0 j)
def RelFn (t : Cm) (E : Int32 → Int32 → Prop) (n m : Cm) : Prop := n 0 0 6 = m 0 0 50 ∧ (0 ≤ (n 0 0 6).toInt ∧ (n 0 0 6).toInt ≤ 8) ∧ (∀ i j : Int32, 0 ≤ i.toInt → i.toInt < (n 0 0 6).toInt → 0 ≤ j.toInt → j.toInt < (n 0 0 6).toInt → m 52 0 i = m 52 0 j → i = j) ∧ ∀ j : Int32, 0 ≤ j.toInt → j.toInt < (n 0 0 6).toInt → n 5 0 j = m 52 0 j ∧ FnD t E (n 6 0 j) m j
def RunR (r m : Cm) (w : Int32) : Prop := (r 0 0 6 = w ∧ m 0 0 56 = w) ∧ (0 ≤ w.toInt ∧ w.toInt < (m 0 0 11).toInt) ∧ r 0 0 7 = m 0 0 57 ∧ r 0 0 8 = m 16 0 w ∧ r 0 0 9 = m 0 0 58 ∧ (0 ≤ (r 0 0 9).toInt ∧ 0 ≤ (m 0 0 10).toInt ∧ (m 0 0 10).toInt ≤ 1000) ∧ (r 0 0 9).toInt ≤ (r 0 0 8).toInt ∧ (r 0 0 8).toInt ≤ 1000
/-- what was made ahead stays -/
def HsB (b0 b : Cm) : Prop := (b0 0 0 7).toInt ≤ (b 0 0 7).toInt ∧ b 2 = b0 2 ∧ ∀ j : Int32, 0 ≤ j.toInt → j.toInt < (b0 0 0 7).toInt → b 3 0 j = b0 3 0 j ∧ b 4 0 j = b0 4 0 j ∧ b 5 0 j = b0 5 0 j ∧ b 6 0 j = b0 6 0 j ∧ b 7 0 j = b0 7 0 j
def HsO (o0 o : Cm) : Prop := (o0 0 0 1).toInt ≤ (o 0 0 1).toInt ∧ o 0 0 2 = o0 0 0 2 ∧ (∀ i : Int32, 0 ≤ i.toInt → i.toInt < (o0 0 0 1).toInt → o 4 i = o0 4 i) ∧ ∀ i : Int32, (o0 0 0 1).toInt ≤ i.toInt → i.toInt < (o 0 0 1).toInt → o 4 i 4 = 0 ∧ o 4 i 5 = 0 ∧ (o0 0 0 2).toInt < (o 4 i 2).toInt ∧ (0 ≤ (o 4 i 3).toInt ∧ (o 4 i 3).toInt ≤ 1000) ∧ o 4 i 6 = 0
def HsW (w : Int32) (m0 m : Cm) : Prop := m 17 0 w = m0 17 0 w ∧ m 18 0 w = m0 18 0 w ∧ m 16 0 w = m0 16 0 w ∧ m 2 = m0 2 ∧ m 3 = m0 3
theorem HsB.refl (b : Cm) : HsB b b := ⟨Int.le_refl _, rfl, fun j _ _ => ⟨rfl, rfl, rfl, rfl, rfl⟩⟩
theorem HsB.trans {a b c : Cm} (h : HsB a b) (k : HsB b c) : HsB a c := by
  refine ⟨by have := h.1; have := k.1; omega, k.2.1.trans h.2.1, fun j h0 h1 => ?_⟩
  obtain ⟨a1, a2, a3, a4, a5⟩ := h.2.2 j h0 h1
  obtain ⟨b1, b2, b3, b4, b5⟩ := k.2.2 j h0 (by have := h.1; omega)
  exact ⟨b1.trans a1, b2.trans a2, b3.trans a3, b4.trans a4, b5.trans a5⟩
theorem HsO.refl (o : Cm) : HsO o o := ⟨Int.le_refl _, rfl, fun i _ _ => rfl, fun i a b => by omega⟩
theorem HsO.trans {a b c : Cm} (h : HsO a b) (k : HsO b c) (h0 : 0 ≤ (a 0 0 1).toInt) : HsO a c := by
  refine ⟨by have := h.1; have := k.1; omega, k.2.1.trans h.2.1, fun i a1 a2 => (k.2.2.1 i a1 (by have := h.1; omega)).trans (h.2.2.1 i a1 a2), fun i a1 a2 => ?_⟩
  by_cases c1 : i.toInt < (b 0 0 1).toInt
  · have H := h.2.2.2 i a1 c1
    rw [k.2.2.1 i (by omega) c1]; exact H
  · have H := k.2.2.2 i (by omega) a2
    rw [h.2.1] at H; exact H
def HsA (w : Int32) (M0 : Wm) (m0 : Cm) (M : Wm) (m : Cm) : Prop := HsB (M0 1) (M 1) ∧ HsO (M0 4) (M 4) ∧ HsW w m0 m ∧ 0 ≤ (M0 4 0 0 1).toInt
theorem HsA.trans {w : Int32} {M0 M1 M2 : Wm} {m0 m1 m2 : Cm} (h : HsA w M0 m0 M1 m1) (k : HsA w M1 m1 M2 m2) : HsA w M0 m0 M2 m2 :=
  ⟨h.1.trans k.1, h.2.1.trans k.2.1 h.2.2.2, ⟨k.2.2.1.1.trans h.2.2.1.1, k.2.2.1.2.1.trans h.2.2.1.2.1, k.2.2.1.2.2.1.trans h.2.2.1.2.2.1, k.2.2.1.2.2.2.1.trans h.2.2.1.2.2.2.1, k.2.2.1.2.2.2.2.trans h.2.2.1.2.2.2.2⟩, h.2.2.2⟩
/-- changes on the pile alone -/
def pg (g : Nat) : Bool := g == 0 || (decide (31 ≤ g) && decide (g ≤ 45))
def ps (k : Int32) : Bool := k == 45 || k == 59 || k == 60 || k == 61 || k == 62
def PO (m m' : Cm) : Prop := (∀ g : Nat, pg g = false → m' g = m g) ∧ ∀ k : Int32, ps k = false → m' 0 0 k = m 0 0 k
theorem PO.refl (m : Cm) : PO m m := ⟨fun _ _ => rfl, fun _ _ => rfl⟩
theorem PO.trans {a b c : Cm} (h : PO a b) (k : PO b c) : PO a c := ⟨fun g e => (k.1 g e).trans (h.1 g e), fun j e => (k.2 j e).trans (h.2 j e)⟩
theorem PO.g (m : Cm) {g : Nat} (i j x : Int32) (hg : pg g = true) (h0 : ¬ g = 0) : PO m (u3 m g i j x) :=
  ⟨fun q e => u3_ne _ _ _ (fun z => by rw [z, hg] at e; cases e), fun k _ => by rw [u3_ne _ _ _ (fun z => h0 z.symm)]⟩
theorem PO.s (m : Cm) {k : Int32} (x : Int32) (hk : ps k = true) : PO m (u3 m 0 0 k x) :=
  ⟨fun q e => u3_ne _ _ _ (fun z => by rw [z] at e; cases e), fun j e => u3_s (fun z => by rw [z, hk] at e; cases e)⟩
theorem PO.next (m : Cm) (l i : Int32) : PO m (f12_valueNext m l i) := by
  unfold f12_valueNext
  simp only [bnd]
  exact (((PO.g m 0 l i rfl (by decide)).trans (PO.s _ 1 rfl)).trans (PO.s _ _ rfl)).trans (PO.s _ _ rfl)
theorem PO.fin (m : Cm) (v : Int32) : PO m (f12_finish m v) := by
  unfold f12_finish
  simp only [bnd]
  exact (PO.s m v rfl).trans (PO.s _ _ rfl)
theorem PO.adv (m : Cm) : PO m (adv12 m) := PO.g m 0 _ _ rfl (by decide)
section SIM
variable {t x8 : Cm} {E : Int32 → Int32 → Prop} {L : Int} {w : Int32}
def WR (t x8 : Cm) (E : Int32 → Int32 → Prop) (L : Int) (w : Int32) (M : Wm) (m : Cm) : Prop := (M 9 = t ∧ M 8 = x8) ∧ TextR t x8 m E ∧ RelQ (M 5) m ∧ (RelBk (M 1) m ∧ BkI (M 1) ∧ StkP L (M 1)) ∧ RelOr (M 4) m w (M 7 0 0 9) ∧ RunR (M 7) m w ∧ Ok12 m ∧ Ct12 m
def NR (t : Cm) (E : Int32 → Int32 → Prop) (M : Wm) (m : Cm) : Prop := RelB2 (M 2) m ∧ RelFn t E (M 2) m
theorem WR.po {M : Wm} {m m' : Cm} (h : WR t x8 E L w M m) (k : PO m m') (hk : Ok12 m') : WR t x8 E L w M m' := by
  obtain ⟨h1, h2, h3, ⟨h4, h5, h6⟩, h7, h8, h9, h10⟩ := h
  have e := k.1; have f := k.2
  refine ⟨h1, h2.fr ⟨e 2 rfl, e 3 rfl⟩, h3.fr (e 5 rfl) (e 6 rfl) (e 7 rfl) (e 8 rfl) (e 9 rfl) (f 9 rfl), ⟨?_, h5, h6⟩, h7.fr (f 11 rfl) (f 10 rfl) (e 13 rfl) (e 14 rfl) (e 15 rfl) (e 16 rfl) (e 17 rfl) (e 18 rfl) (e 19 rfl) (e 20 rfl) (e 21 rfl), ?_, hk, h10.fr (e 28 rfl) (e 29 rfl) (e 30 rfl)⟩
  · unfold RelBk RelMv RelS at h4 ⊢
    rw [f 21 rfl, e 23 rfl, e 24 rfl, e 25 rfl, e 26 rfl, e 27 rfl, e 4 rfl]; exact h4
  · unfold RunR at h8 ⊢
    rw [f 56 rfl, f 11 rfl, f 57 rfl, e 16 rfl, f 58 rfl, f 10 rfl]; exact h8
theorem NR.po {M : Wm} {m m' : Cm} (h : NR t E M m) (k : PO m m') : NR t E M m' := by
  have e := k.1; have f := k.2
  obtain ⟨h1, h2⟩ := h
  refine ⟨?_, ?_⟩
  · unfold RelB2 at h1 ⊢
    rw [f 49 rfl, f 48 rfl, e 47 rfl, e 48 rfl]; exact h1
  · unfold RelFn FnD at h2 ⊢
    simp only [faultOf_fr ⟨e 2 rfl, e 3 rfl⟩]
    rw [f 50 rfl, e 52 rfl, e 53 rfl, e 54 rfl, e 55 rfl, e 56 rfl]; exact h2
theorem HsW.po {m0 m m' : Cm} (h : HsW w m0 m) (k : PO m m') : HsW w m0 m' := by
  unfold HsW; rw [k.1 17 rfl, k.1 18 rfl, k.1 16 rfl, k.1 2 rfl, k.1 3 rfl]; exact h
theorem HsA.po {M0 M : Wm} {m0 m m' : Cm} (h : HsA w M0 m0 M m) (k : PO m m') : HsA w M0 m0 M m' := ⟨h.1, h.2.1, h.2.2.1.po k, h.2.2.2⟩
/-- levels below one stay -/
def Kp (d : Int32) (m m' : Cm) : Prop := ∀ g : Nat, 31 ≤ g → g ≤ 45 → ∀ j : Int32, (if g = 43 then j.toInt < 3 * d.toInt else j.toInt < d.toInt) → m' g 0 j = m g 0 j
theorem Kp.refl (d : Int32) (m : Cm) : Kp d m m := fun _ _ _ _ _ => rfl
theorem Kp.trans {d : Int32} {a b c : Cm} (h : Kp d a b) (k : Kp d b c) : Kp d a c := fun g h1 h2 j hj => (k g h1 h2 j hj).trans (h g h1 h2 j hj)
theorem Kp.mono {d d' : Int32} {m m' : Cm} (h : Kp d' m m') (hd : d.toInt ≤ d'.toInt) : Kp d m m' := fun g h1 h2 j hj => h g h1 h2 j (by
  by_cases c : g = 43
  · rw [if_pos c] at hj ⊢; omega
  · rw [if_neg c] at hj ⊢; omega)
theorem Kp.s (d : Int32) (m : Cm) (k x : Int32) : Kp d m (u3 m 0 0 k x) := fun g h1 _ j _ => by rw [u3_ne _ _ _ (by omega)]
theorem Kp.o (d : Int32) (m : Cm) {g : Nat} (j x : Int32) (hg : g < 31 ∨ 45 < g) : Kp d m (u3 m g 0 j x) := fun q h1 h2 k _ => by rw [u3_ne _ _ _ (by omega)]
theorem Kp.l {d : Int32} (m : Cm) {g : Nat} {j : Int32} (x : Int32) (hg : ¬ g = 43) (hj : d.toInt ≤ j.toInt) : Kp d m (u3 m g 0 j x) := fun q h1 h2 k hk => by
  by_cases c : q = g
  · subst c
    rw [if_neg hg] at hk
    exact u3_j (fun z => by rw [z] at hk; omega)
  · rw [u3_ne _ _ _ c]
theorem Kp.next {d : Int32} (m : Cm) {l : Int32} (i : Int32) (hl : d.toInt ≤ l.toInt) : Kp d m (f12_valueNext m l i) := by
  unfold f12_valueNext
  simp only [bnd]
  exact (((Kp.l m i (by decide) hl).trans (Kp.s _ _ _ _)).trans (Kp.s _ _ _ _)).trans (Kp.s _ _ _ _)
theorem Kp.fin (d : Int32) (m : Cm) (v : Int32) : Kp d m (f12_finish m v) := by
  unfold f12_finish
  simp only [bnd]
  exact (Kp.s d m _ _).trans (Kp.s _ _ _ _)
/-- fuel is used, the budget stays -/
def Us (M0 M : Wm) : Prop := (M0 7 0 0 9).toInt < (M 7 0 0 9).toInt ∧ M 7 0 0 8 = M0 7 0 0 8 ∧ M 7 0 0 7 = M0 7 0 0 7
theorem Us.trans {a b c : Wm} (h : Us a b) (k : Us b c) : Us a c := ⟨by have := h.1; have := k.1; omega, k.2.1.trans h.2.1, k.2.2.trans h.2.2⟩
/-- steps of the list machine -/
def Stps : Nat → Cm → Cm → Prop
  | 0, m, m' => m = m'
  | k + 1, m, m' => go12 m ∧ StpP m ∧ Stps k (stp12 m) m'
def St (m m' : Cm) : Prop := ∃ k, Stps k m m'
theorem St.refl (m : Cm) : St m m := ⟨0, rfl⟩
theorem Stps.trans : ∀ {k j : Nat} {a b c : Cm}, Stps k a b → Stps j b c → Stps (k + j) a c := by
  intro k
  induction k with
  | zero => intro j a b c h h'; cases h; rw [Nat.zero_add]; exact h'
  | succ k ih => intro j a b c h h'; rw [Nat.succ_add]; exact ⟨h.1, h.2.1, ih h.2.2 h'⟩
theorem St.trans {a b c : Cm} (h : St a b) (k : St b c) : St a c := by
  obtain ⟨i, h⟩ := h; obtain ⟨j, k⟩ := k; exact ⟨i + j, h.trans k⟩
theorem St.one {m : Cm} (h : go12 m) (hp : StpP m) : St m (stp12 m) := ⟨1, h, hp, rfl⟩
theorem Stps.run : ∀ {k : Nat} {m m' : Cm}, Stps k m m' → ¬ go12 m' → Run12 k m m' := by
  intro k
  induction k with
  | zero => intro m m' h hn; cases h; exact ⟨hn, rfl⟩
  | succ k ih => intro m m' h hn; exact ⟨h.1, h.2.1, ih h.2.2 hn⟩
/-- what stands when an expression has been valued, or a run has ended in it -/
def PostA (t x8 : Cm) (E : Int32 → Int32 → Prop) (L : Int) (w : Int32) (M0 : Wm) (m0 : Cm) (d : Int32) (r : Int32 × Wm) (mA : Cm) : Prop := ∃ m', St mA m' ∧ HsA w M0 m0 r.2 m' ∧ WR t x8 E L w r.2 m' ∧ (r.2 7 0 0 10 = 0 → NR t E r.2 m' ∧ (m' 0 0 63 = 0 ∧ m' 0 0 59 = 0 ∧ m' 0 0 45 = d ∧ m' 0 0 62 = r.1) ∧ Kp d m0 m' ∧ r.2 2 0 0 2 = M0 2 0 0 2 ∧ r.2 2 0 0 3 = M0 2 0 0 3 ∧ Us M0 r.2) ∧ (¬ r.2 7 0 0 10 = 0 → m' 0 0 63 = r.2 7 0 0 10)
theorem PostA.st {M0 : Wm} {m0 : Cm} {d : Int32} {r : Int32 × Wm} {mA mB : Cm} (h : PostA t x8 E L w M0 m0 d r mB) (k : St mA mB) : PostA t x8 E L w M0 m0 d r mA := by
  obtain ⟨m', h1, h2⟩ := h; exact ⟨m', k.trans h1, h2⟩
/-- ahead of an expression -/
def PreE (t x8 : Cm) (E : Int32 → Int32 → Prop) (L : Int) (w : Int32) (M : Wm) (m : Cm) (s i d : Int32) : Prop := WR t x8 E L w M m ∧ NR t E M m ∧ (M 7 0 0 10 = 0 ∧ m 0 0 63 = 0) ∧ (¬ m 0 0 59 = 0 ∧ m 0 0 60 = s ∧ m 0 0 61 = i ∧ m 0 0 45 = d) ∧ (vp_in s 8 ∧ f12_faultOf m s = -1 ∧ E s i) ∧ (M 2 0 0 2).toInt ≤ 3 * d.toInt
def SimV (t x8 : Cm) (E : Int32 → Int32 → Prop) (L : Int) (w : Int32) (VA : Wm → Int32 → Int32 → Int32 × Wm) (d : Int32) : Prop := ∀ (M : Wm) (m : Cm) (s i : Int32), PreE t x8 E L w M m s i d → PostA t x8 E L w M m d (VA M (Pl s i) d) m
def H0 (VA : Wm → Int32 → Int32 → Int32 × Wm) : Prop := ∀ (M : Wm) (a d : Int32), ¬ M 7 0 0 10 = 0 → VA M a d = (0, M)
/-- in the midst of a list on level d of the pile -/
def Mid (t x8 : Cm) (E : Int32 → Int32 → Prop) (L : Int) (w : Int32) (M0 : Wm) (m0 : Cm) (d : Int32) (M : Wm) (m : Cm) : Prop := WR t x8 E L w M m ∧ NR t E M m ∧ (M 7 0 0 10 = 0 ∧ m 0 0 63 = 0) ∧ (m 0 0 59 = 0 ∧ m 0 0 45 = d + 1) ∧ HsA w M0 m0 M m ∧ Kp d m0 m ∧ (0 ≤ d.toInt ∧ d.toInt < 30) ∧ Us M0 M
/-- cells of a level that a step leaves -/
def LvK (d : Int32) (m m' : Cm) : Prop := (∀ g : Nat, 31 ≤ g → g ≤ 45 → ¬ g = 33 → ¬ g = 34 → ¬ g = 43 → m' g 0 d = m g 0 d) ∧ ∀ k : Int32, 0 ≤ k.toInt → k.toInt < 3 → m' 43 0 (3 * d + k) = m 43 0 (3 * d + k)
theorem lv_inc {d : Int32} (h : 0 ≤ d.toInt ∧ d.toInt < 30) : (d + 1).toInt = d.toInt + 1 ∧ d + 1 - 1 = d ∧ vp_in d 32 := ⟨inc_t h.1 (by omega), Int32.add_sub_cancel _ _, by rw [vp_in_iff]; omega⟩
theorem idx3_t {d k : Int32} (h : 0 ≤ d.toInt ∧ d.toInt < 30) (k0 : 0 ≤ k.toInt) (k1 : k.toInt < 3) : (3 * d + k).toInt = 3 * d.toInt + k.toInt := by
  have hm : (3 * d).toInt = 3 * d.toInt := by rw [i32muln (by rw [t32_3]; omega) (by rw [t32_3]; omega), t32_3]
  rw [i32addn (by rw [hm]; omega) (by rw [hm]; omega), hm]
theorem valueNext_c (m : Cm) (l i : Int32) : f12_valueNext m l i 0 0 59 = 1 ∧ f12_valueNext m l i 0 0 60 = m 31 0 l ∧ f12_valueNext m l i 0 0 61 = i ∧ f12_valueNext m l i 0 0 45 = m 0 0 45 ∧ f12_valueNext m l i 0 0 63 = m 0 0 63 ∧ f12_valueNext m l i 34 0 l = i ∧ ∀ g : Nat, ¬ g = 0 → ¬ g = 34 → f12_valueNext m l i g = m g := by
  unfold f12_valueNext
  simp only [bnd]
  refine ⟨rfl, rfl, rfl, rfl, rfl, ?_, fun g h0 h1 => ?_⟩
  · show u3 m 34 0 l i 34 0 l = i
    exact u3_at _ _ _ _ _
  · rw [u3_ne _ _ _ h0, u3_ne _ _ _ h0, u3_ne _ _ _ h0, u3_ne _ _ _ h1]
/-- a list lets an expression be valued, and goes on -/
theorem next_c {VA : Wm → Int32 → Int32 → Int32 × Wm} {M0 M : Wm} {m0 m1 : Cm} {d s idx : Int32} (hV : SimV t x8 E L w VA (d + 1)) (hM : Mid t x8 E L w M0 m0 d M m1) (hs : m1 31 0 d = s) (hE : E s idx) (hsv : vp_in s 8) (hft : f12_faultOf m1 s = -1) (hc : (M 2 0 0 2).toInt ≤ 3 * d.toInt + 3) :
    (¬ (VA M (Pl s idx) (d + 1)).2 7 0 0 10 = 0 ∧ ∀ x : Int32, PostA t x8 E L w M0 m0 d (x, (VA M (Pl s idx) (d + 1)).2) (f12_valueNext m1 d idx)) ∨
    ((VA M (Pl s idx) (d + 1)).2 7 0 0 10 = 0 ∧ ∃ m4, Mid t x8 E L w M0 m0 d (VA M (Pl s idx) (d + 1)).2 m4 ∧ m4 0 0 62 = (VA M (Pl s idx) (d + 1)).1 ∧ LvK d m1 m4 ∧ m4 33 0 d = m1 33 0 d + 1 ∧ m4 34 0 d = idx ∧ ((VA M (Pl s idx) (d + 1)).2 2 0 0 2 = M 2 0 0 2 ∧ (VA M (Pl s idx) (d + 1)).2 2 0 0 3 = M 2 0 0 3 ∧ Us M (VA M (Pl s idx) (d + 1)).2) ∧ (m4 2 = m1 2 ∧ m4 3 = m1 3) ∧ (AdvP m4 d → ∀ q, PostA t x8 E L w M0 m0 d q (f12_advance m4 d) → PostA t x8 E L w M0 m0 d q (f12_valueNext m1 d idx))) := by
  obtain ⟨h1, h2, ⟨h3, h3'⟩, ⟨h4, h5⟩, h6, h7, h8, hU⟩ := hM
  obtain ⟨i1, i2, i3⟩ := lv_inc h8
  have po := PO.next m1 d idx
  obtain ⟨c59, c60, c61, c45, c63, c34, cg⟩ := valueNext_c m1 d idx
  have ok2 : Ok12 (f12_valueNext m1 d idx) := (okT_f12_valueNext (m0 := m1) ⟨h1.2.2.2.2.2.2.1, rfl, rfl⟩ d idx i3).1
  have tx2 : (f12_valueNext m1 d idx) 2 = m1 2 ∧ (f12_valueNext m1 d idx) 3 = m1 3 := ⟨po.1 2 rfl, po.1 3 rfl⟩
  have pre : PreE t x8 E L w M (f12_valueNext m1 d idx) s idx (d + 1) := ⟨h1.po po ok2, h2.po po, ⟨h3, c63.trans h3'⟩, ⟨by rw [c59]; decide, c60.trans hs, c61, c45.trans h5⟩, ⟨hsv, by rw [faultOf_fr tx2]; exact hft, hE⟩, by rw [i1]; omega⟩
  obtain ⟨m3, s1, s2, s3, s4, s5⟩ := hV _ _ _ _ pre
  have hA : HsA w M0 m0 (VA M (Pl s idx) (d + 1)).2 m3 := (h6.po po).trans s2
  by_cases ct : (VA M (Pl s idx) (d + 1)).2 7 0 0 10 = 0
  · right
    refine ⟨ct, ?_⟩
    obtain ⟨n1, ⟨n2, n3, n4, n5⟩, n6, n7, n8, n9⟩ := s4 ct
    have go : go12 m3 := ⟨n2, Or.inr (by rw [n4]; simp only [i32lt, t32_0]; omega)⟩
    have hl : m3 0 0 45 - 1 = d := by rw [n4]; exact i2
    have ok3 : Ok12 m3 := s3.2.2.2.2.2.2.1
    have ok4 : Ok12 (adv12 m3) := ok12_putA ok3 (by decide)
    have poA := PO.adv m3
    have cell : ∀ g : Nat, 31 ≤ g → g ≤ 45 → ¬ g = 43 → m3 g 0 d = (f12_valueNext m1 d idx) g 0 d := fun g a b c => n6 g a b d (by rw [if_neg c, i1]; omega)
    refine ⟨adv12 m3, ⟨s3.po poA ok4, n1.po poA, ⟨ct, n2⟩, ⟨n3, n4⟩, hA.po poA, ?_, h8, hU.trans n9⟩, n5, ⟨fun g a b c33 c34' c43 => ?_, fun k k0 k1 => ?_⟩, ?_, ?_, ⟨n7, n8, n9⟩, ?_, fun hP q hq => ?_⟩
    · exact ((h7.trans (Kp.next m1 idx (Int.le_refl _))).trans (n6.mono (by omega))).trans (by unfold adv12; rw [hl]; exact Kp.l _ _ (by decide) (Int.le_refl _))
    · show u3 m3 33 0 _ _ g 0 d = _
      rw [u3_ne _ _ _ c33, cell g a b c43, cg g (by omega) c34']
    · show u3 m3 33 0 _ _ 43 0 _ = _
      rw [u3_ne _ _ _ (by decide), n6 43 (by decide) (by decide) _ (by rw [if_pos rfl, idx3_t h8 k0 k1, i1]; omega), cg 43 (by decide) (by decide)]
    · unfold adv12
      rw [hl, u3_at, cell 33 (by decide) (by decide) (by decide), cg 33 (by decide) (by decide)]
    · show u3 m3 33 0 _ _ 34 0 d = _
      rw [u3_ne _ _ _ (by decide), cell 34 (by decide) (by decide) (by decide), c34]
    · have e2 : (adv12 m3) 2 = m3 2 ∧ (adv12 m3) 3 = m3 3 := ⟨u3_ne _ _ _ (by decide), u3_ne _ _ _ (by decide)⟩
      exact ⟨e2.1.trans (s2.2.2.1.2.2.2.1.trans tx2.1), e2.2.trans (s2.2.2.1.2.2.2.2.trans tx2.2)⟩
    · have sp : StpP m3 := ⟨fun z => absurd n3 z, fun _ => ⟨ok3, by rw [hl]; exact hP⟩⟩
      have st := St.one go sp
      have e : stp12 m3 = f12_advance (adv12 m3) d := by unfold stp12; rw [if_pos n3, hl]
      rw [e] at st
      exact hq.st (s1.trans st)
  · left
    refine ⟨ct, fun x => ⟨m3, s1, hA, s3, fun z => absurd z ct, fun _ => s5 ct⟩⟩
/-- a list is done with -/
theorem fin_c {M0 M : Wm} {m0 m : Cm} {d v : Int32} (hM : Mid t x8 E L w M0 m0 d M m) (h2 : M 2 0 0 2 = M0 2 0 0 2 ∧ M 2 0 0 3 = M0 2 0 0 3) : PostA t x8 E L w M0 m0 d (v, M) (f12_finish m v) := by
  obtain ⟨a1, a2, ⟨a3, a3'⟩, ⟨a4, a5⟩, a6, a7, a8, aU⟩ := hM
  obtain ⟨i1, i2, i3⟩ := lv_inc a8
  have po := PO.fin m v
  have ok : Ok12 (f12_finish m v) := (okT_f12_finish (m0 := m) ⟨a1.2.2.2.2.2.2.1, rfl, rfl⟩ v (by rw [a5]; omega)).1
  refine ⟨f12_finish m v, St.refl _, a6.po po, a1.po po ok, fun _ => ⟨a2.po po, ⟨a3', a4, ?_, rfl⟩, a7.trans (Kp.fin d m v), h2.1, h2.2, aU⟩, fun z => absurd a3 z⟩
  show m 0 0 45 - 1 = d
  rw [a5]; exact i2
/-- a run ends in a list -/
theorem err_c {M0 M : Wm} {m0 m : Cm} {d v x : Int32} (hM : Mid t x8 E L w M0 m0 d M m) (hx : ¬ x = 0) : PostA t x8 E L w M0 m0 d (v, uW M 7 (u3 (M 7) 0 0 10 x)) (u3 m 0 0 63 x) := by
  obtain ⟨a1, a2, ⟨a3, a3'⟩, ⟨a4, a5⟩, a6, a7, a8, aU⟩ := hM
  obtain ⟨b1, b2, b3, b4, b5, b6, b7, b8⟩ := a1
  refine ⟨u3 m 0 0 63 x, St.refl _, ⟨a6.1, a6.2.1, a6.2.2.1, a6.2.2.2⟩, ⟨b1, b2.fr ⟨u3_ne _ _ _ (by decide), u3_ne _ _ _ (by decide)⟩, b3, b4, b5, b6, ok12_put0 b7 (by decide), b8⟩, fun z => ?_, fun _ => rfl⟩
  exact absurd z hx
end SIM
