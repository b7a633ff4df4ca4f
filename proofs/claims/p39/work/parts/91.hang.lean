/-! THE TREE WHILE A TEXT IS READ: cells behind the beginning of an expression -/
section HANG
variable {t m : Cm} {s : Int32}
theorem u3_c (m : Cm) (g : Nat) (j x : Int32) (g2 : Nat) (q : Int32) : u3 m g 0 j x g2 0 q = if g2 = g ∧ q = j then x else m g2 0 q := by
  unfold u3 fI
  by_cases h : g2 = g
  · subst h
    rw [if_pos ⟨rfl, rfl⟩]
    by_cases h2 : q = j
    · rw [if_pos h2, if_pos ⟨rfl, h2⟩]
    · rw [if_neg h2, if_neg (fun z => h2 z.2)]
  · rw [if_neg (fun z => h z.1), if_neg (fun z => h z.1)]
def mkT (t : Cm) (P k : Int32) : Cm := u3 (u3 (u3 (u3 (u3 (u3 t 1 0 P k) 2 0 P 0) 3 0 P 0) 4 0 P (-1)) 5 0 P (-1)) 6 0 P (-1)
theorem make_e {P : Int32} (k : Int32) (h0 : ¬ P < 0) (h1 : ¬ 968 ≤ P) : f9_make t P k = mkT t P k := by
  unfold f9_make; rw [if_neg h0, if_neg h1]; rfl
theorem mkT_c (t : Cm) (P k q : Int32) : mkT t P k 1 0 q = (if q = P then k else t 1 0 q) ∧ mkT t P k 2 0 q = (if q = P then 0 else t 2 0 q) ∧ mkT t P k 3 0 q = (if q = P then 0 else t 3 0 q) ∧ mkT t P k 4 0 q = (if q = P then -1 else t 4 0 q) ∧ mkT t P k 5 0 q = (if q = P then -1 else t 5 0 q) ∧ mkT t P k 6 0 q = (if q = P then -1 else t 6 0 q) := by
  unfold mkT
  refine ⟨?_, ?_, ?_, ?_, ?_, ?_⟩ <;> simp only [u3_c, Nat.reduceEqDiff, false_and, true_and, if_false]
/-- an expression begins as a part of a list -/
def begT (t : Cm) (A P k : Int32) : Cm := f9_hang (f9_make t P k) A P
theorem begT_0 {A P : Int32} (k : Int32) (hA : ¬ A < 0 ∧ ¬ 968 ≤ A ∧ A < 968) (hP : ¬ P < 0 ∧ ¬ 968 ≤ P ∧ P < 968) (hn : ¬ A = P) (h5 : t 5 0 A = -1) : begT t A P k = u3 (u3 (u3 (mkT t P k) 4 0 A P) 5 0 A P) 3 0 A (t 3 0 A + 1) := by
  unfold begT
  rw [make_e k hP.1 hP.2.1]
  unfold f9_hang
  simp only [bnd_e, jn_e]
  have e5 : mkT t P k 5 0 A = -1 := by rw [(mkT_c t P k A).2.2.2.2.1, if_neg hn, h5]
  have e3 : u3 (mkT t P k) 4 0 A P 3 0 A = t 3 0 A := by rw [u3_ne _ _ _ (by decide), (mkT_c t P k A).2.2.1, if_neg hn]
  rw [if_neg hA.1, if_pos hA.2.2, e5, if_pos (show (-1 : Int32) < 0 by decide), e3]
theorem begT_1 {A P C : Int32} (k : Int32) (hA : ¬ A < 0 ∧ ¬ 968 ≤ A ∧ A < 968) (hP : ¬ P < 0 ∧ ¬ 968 ≤ P ∧ P < 968) (hn : ¬ A = P) (h5 : t 5 0 A = C) (hC : ¬ C < 0 ∧ ¬ 968 ≤ C ∧ C < 968) : begT t A P k = u3 (u3 (u3 (mkT t P k) 6 0 C P) 5 0 A P) 3 0 A (t 3 0 A + 1) := by
  unfold begT
  rw [make_e k hP.1 hP.2.1]
  unfold f9_hang
  simp only [bnd_e, jn_e]
  have e5 : mkT t P k 5 0 A = C := by rw [(mkT_c t P k A).2.2.2.2.1, if_neg hn, h5]
  have e3 : u3 (mkT t P k) 6 0 C P 3 0 A = t 3 0 A := by rw [u3_ne _ _ _ (by decide), (mkT_c t P k A).2.2.1, if_neg hn]
  rw [if_neg hA.1, if_pos hA.2.2, e5, if_neg hC.1, if_neg hC.2.1, e3]
/-- cells then: x is 0 for the first part, 1 for a later one, behind the one on C -/
theorem begT_c {A P : Int32} (k : Int32) (hA : ¬ A < 0 ∧ ¬ 968 ≤ A ∧ A < 968) (hP : ¬ P < 0 ∧ ¬ 968 ≤ P ∧ P < 968) (hn : ¬ A = P) (h5 : t 5 0 A = -1 ∨ (¬ t 5 0 A < 0 ∧ ¬ 968 ≤ t 5 0 A ∧ t 5 0 A < 968)) (q : Int32) : begT t A P k 1 0 q = (if q = P then k else t 1 0 q) ∧ begT t A P k 2 0 q = (if q = P then 0 else t 2 0 q) ∧ begT t A P k 3 0 q = (if q = A then t 3 0 A + 1 else if q = P then 0 else t 3 0 q) ∧ begT t A P k 4 0 q = (if t 5 0 A = -1 ∧ q = A then P else if q = P then -1 else t 4 0 q) ∧ begT t A P k 5 0 q = (if q = A then P else if q = P then -1 else t 5 0 q) ∧ begT t A P k 6 0 q = (if ¬ t 5 0 A = -1 ∧ q = t 5 0 A then P else if q = P then -1 else t 6 0 q) := by
  obtain ⟨c1, c2, c3, c4, c5, c6⟩ := mkT_c t P k q
  rcases h5 with h5 | h5
  · rw [begT_0 k hA hP hn h5]
    simp only [u3_c, Nat.reduceEqDiff, false_and, true_and, if_false, c1, c2, c3, c4, c5, c6, h5, not_true_eq_false, and_self]
  · have n5 : ¬ t 5 0 A = -1 := by intro z; rw [z] at h5; exact h5.1 (by decide)
    rw [begT_1 k hA hP hn rfl h5]
    simp only [u3_c, Nat.reduceEqDiff, false_and, true_and, if_false, c1, c2, c3, c4, c5, c6, n5, not_false_eq_true, and_self]
/-- open lists: where one stands, and where its parts begin -/
def tpO : List Int32 → Int32
  | [] => 120
  | o :: _ => o
def stO : List Int32 → Int32
  | [] => 0
  | o :: _ => o + 1
/-- a list with n parts so far, the last one c -/
def LsI (t m : Cm) (s a A : Int32) (n : Nat) (c : Int32) : Prop := (t 3 0 A).toInt = (n : Int) ∧ (n = 0 → t 4 0 A = -1 ∧ t 5 0 A = -1) ∧ (0 < n → Bx m s (f12_nextAt m s a) ∧ t 4 0 A = Pl s (f12_nextAt m s a) ∧ skp12 m s (n - 1) (f12_nextAt m s a) = c ∧ t 5 0 A = Pl s c ∧ (n : Int) ≤ c.toInt + 1)
def OvI (t m : Cm) (s : Int32) : List Int32 → Prop
  | [] => True
  | o :: os => (∃ n : Nat, LsI t m s (stO os) (Pl s (tpO os)) (n + 1) o) ∧ OvI t m s os
def NsI (m : Cm) (s p : Int32) : List Int32 → Prop
  | [] => True
  | o :: os => (Bx m s o ∧ f12_signAt m s o = 40 ∧ o.toInt < p.toInt ∧ (∀ q ∈ os, q.toInt < o.toInt) ∧ dp m s o = os.length ∧ ∀ j : Int32, o.toInt < j.toInt → j.toInt ≤ p.toInt → (os.length : Int) < dp m s j) ∧ NsI m s p os
theorem NsI.nxt {p : Int32} (h0 : 0 ≤ p.toInt) (h1 : p.toInt < 1000) : ∀ {os : List Int32}, NsI m s p os → (os.length : Int) ≤ dp m s (p + 1) → NsI m s (p + 1) os := by
  have e1 : (p + 1).toInt = p.toInt + 1 := inc_t h0 (by omega)
  intro os
  induction os with
  | nil => intro _ _; trivial
  | cons o os ih =>
    intro h hd
    obtain ⟨⟨a1, a2, a3, a4, a5, a6⟩, b⟩ := h
    rw [List.length_cons] at hd
    refine ⟨⟨a1, a2, by omega, a4, a5, fun j j0 j1 => ?_⟩, ih b (by omega)⟩
    by_cases c : j.toInt ≤ p.toInt
    · exact a6 j j0 c
    · have : j = p + 1 := Int32.toInt_inj.1 (by omega)
      rw [this]; omega
theorem NsI.mem {p : Int32} : ∀ {os : List Int32}, NsI m s p os → ∀ o ∈ os, Bx m s o ∧ f12_signAt m s o = 40 ∧ o.toInt < p.toInt := by
  intro os
  induction os with
  | nil => intro _ o h; cases h
  | cons a os ih =>
    intro h o ho
    rcases List.mem_cons.1 ho with z | z
    · rw [z]; exact ⟨h.1.1, h.1.2.1, h.1.2.2.1⟩
    · exact ih h.2 o z
theorem OvI.fr {t t' : Cm} : ∀ {os : List Int32}, OvI t m s os → (∀ q : Int32, (q = 120 ∨ q ∈ os.drop 1) → t' 3 0 (Pl s q) = t 3 0 (Pl s q) ∧ t' 4 0 (Pl s q) = t 4 0 (Pl s q) ∧ t' 5 0 (Pl s q) = t 5 0 (Pl s q)) → OvI t' m s os := by
  intro os
  induction os with
  | nil => intro _ _; trivial
  | cons o os ih =>
    intro h k
    obtain ⟨⟨n, hn⟩, h2⟩ := h
    refine ⟨⟨n, ?_⟩, ih h2 (fun q hq => k q (hq.elim Or.inl (fun z => Or.inr (List.mem_of_mem_drop z))))⟩
    have e : tpO os = 120 ∨ tpO os ∈ os := by
      cases os with
      | nil => exact Or.inl rfl
      | cons a b => exact Or.inr (List.mem_cons_self)
    obtain ⟨k3, k4, k5⟩ := k (tpO os) e
    unfold LsI at hn ⊢
    rw [k3, k4, k5]; exact hn
/-- the tree of what was read: p signs, the lists os open, n parts of the last one, c the latest of them, which is a word that may go on if w is true -/
def TrI (t m : Cm) (s p : Int32) (os : List Int32) (n : Nat) (c : Int32) (w : Bool) : Prop :=
  (LsI t m s (stO os) (Pl s (tpO os)) n c ∧ OvI t m s os) ∧
  (∀ i : Int32, Bx m s i → i.toInt < p.toInt → ¬ i ∈ os → ¬ (0 < n ∧ i = c) → ExE (Bx m s) (f12_following m s i) ∧ t 6 0 (Pl s i) = Px s (f12_following m s i)) ∧
  ((∀ o ∈ os, t 6 0 (Pl s o) = -1) ∧ (0 < n → t 6 0 (Pl s c) = -1)) ∧
  (∀ i : Int32, Bx m s i → i.toInt < p.toInt → f12_signAt m s i = 40 → t 1 0 (Pl s i) = 3 ∧ (¬ i ∈ os → ExE (Bx m s) (f12_nextAt m s (i + 1)) ∧ LsT t m s (Pl s i) (f12_nextAt m s (i + 1)))) ∧
  (∀ i : Int32, Bx m s i → i.toInt < p.toInt → f12_isLetter (f12_signAt m s i) = true → t 1 0 (Pl s i) = 2 ∧ (¬ (w = true ∧ i = c) → t 2 0 (Pl s i) = f12_nameAt m s i)) ∧
  (∀ i : Int32, Bx m s i → i.toInt < p.toInt → ¬ f12_signAt m s i = 40 → ¬ f12_isLetter (f12_signAt m s i) = true → t 1 0 (Pl s i) = 1 ∧ (¬ (w = true ∧ i = c) → t 2 0 (Pl s i) = f12_numberAt m s i))
def ScI (m : Cm) (s p : Int32) (os : List Int32) (n : Nat) (c : Int32) (w : Bool) : Prop :=
  NsI m s p os ∧ dp m s p = os.length ∧ (0 < n → Bx m s c ∧ c.toInt < p.toInt ∧ ∀ o ∈ os, o.toInt < c.toInt) ∧ (n = 0 → w = false ∧ Bk m s (stO os) p) ∧ (0 < n → w = false → ∃ e : Int32, f12_endOf m s c = e ∧ c.toInt < e.toInt ∧ e.toInt ≤ p.toInt ∧ Bk m s e p) ∧ (w = true → 0 < n ∧ ¬ f12_signAt m s c = 40 ∧ ∀ j : Int32, c.toInt < j.toInt → j.toInt < p.toInt → wd12 (f12_signAt m s j))
end HANG
