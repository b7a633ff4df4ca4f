/-! THE TREE WHILE A TEXT IS READ: what the reader does, sign by sign -/
section HANG
variable {t m : Cm} {s p c : Int32} {os : List Int32} {n : Nat} {w : Bool} {M N : Wm}
theorem dl_0 {g : Int32} (h40 : ¬ g = 40) (h41 : ¬ g = 41) : dl12 g = 0 := by unfold dl12; rw [if_neg h40, if_neg h41]
theorem ScI.dp0 (hS : ScI m s p os n c w) (h0 : 0 ≤ p.toInt) (h1 : p.toInt < 1000) (h40 : ¬ f12_signAt m s p = 40) (h41 : ¬ f12_signAt m s p = 41) : dp m s (p + 1) = os.length := by
  rw [dp_s h0 (by omega), hS.2.1, dl_0 h40 h41]; omega
theorem ScI.pos (hS : ScI m s p os n c w) : ∀ o ∈ os, o.toInt < p.toInt := fun o ho => (hS.1.mem o ho).2.2
theorem ScI.word (h0 : 0 ≤ p.toInt) (h1 : p.toInt < 120) (hS : ScI m s p os n c false) (hB : Bx m s p) (h40 : ¬ f12_signAt m s p = 40) : ScI m s (p + 1) os (n + 1) p true := by
  have e1 : (p + 1).toInt = p.toInt + 1 := inc_t h0 (by omega)
  have d := hS.dp0 h0 (by omega) h40 hB.ne.2.1
  exact ⟨hS.1.nxt h0 (by omega) (by omega), d, fun _ => ⟨hB, by omega, hS.pos⟩, fun z => by omega, fun _ z => (by cases z), fun _ => ⟨by omega, h40, fun j a b => by omega⟩⟩
theorem ScI.cont (h0 : 0 ≤ p.toInt) (h1 : p.toInt < 120) (hS : ScI m s p os n c true) (hw : wd12 (f12_signAt m s p)) : ScI m s (p + 1) os n c true := by
  have e1 : (p + 1).toInt = p.toInt + 1 := inc_t h0 (by omega)
  have d := hS.dp0 h0 (by omega) (wd_ne hw (by decide)) (wd_ne hw (by decide))
  obtain ⟨s1, s2, s3, s4, s5, s6⟩ := hS
  obtain ⟨a, b, e⟩ := s6 rfl
  refine ⟨s1.nxt h0 (by omega) (by omega), d, fun z => ⟨(s3 z).1, by have := (s3 z).2.1; omega, (s3 z).2.2⟩, fun z => by omega, fun _ z => (by cases z), fun _ => ⟨a, b, fun j x y => ?_⟩⟩
  by_cases z : j = p
  · rw [z]; exact hw
  · rw [i32eq] at z; exact e j x (by omega)
theorem ScI.blank (h0 : 0 ≤ p.toInt) (h1 : p.toInt < 120) (hS : ScI m s p os n c false) (h32 : f12_signAt m s p = 32) : ScI m s (p + 1) os n c false := by
  have e1 : (p + 1).toInt = p.toInt + 1 := inc_t h0 (by omega)
  have d := hS.dp0 h0 (by omega) (by rw [h32]; decide) (by rw [h32]; decide)
  obtain ⟨s1, s2, s3, s4, s5, s6⟩ := hS
  have bk : ∀ a : Int32, Bk m s a p → Bk m s a (p + 1) := fun a h j x y => by
    by_cases z : j = p
    · rw [z]; exact h32
    · rw [i32eq] at z; exact h j x (by omega)
  refine ⟨s1.nxt h0 (by omega) (by omega), d, fun z => ⟨(s3 z).1, by have := (s3 z).2.1; omega, (s3 z).2.2⟩, fun z => ⟨rfl, bk _ (s4 z).2⟩, fun z y => ?_, fun z => by cases z⟩
  obtain ⟨e, a, b, d, f⟩ := s5 z y
  exact ⟨e, a, b, by omega, bk _ f⟩
theorem ScI.list (h0 : 0 ≤ p.toInt) (h1 : p.toInt < 120) (hS : ScI m s p os n c false) (hB : Bx m s p) (h40 : f12_signAt m s p = 40) : ScI m s (p + 1) (p :: os) 0 0 false := by
  have e1 : (p + 1).toInt = p.toInt + 1 := inc_t h0 (by omega)
  have d : dp m s (p + 1) = os.length + 1 := by rw [dp_s h0 (by omega), hS.2.1, h40]; rfl
  refine ⟨⟨⟨hB, h40, by omega, hS.pos, hS.2.1, fun j a b => ?_⟩, hS.1.nxt h0 (by omega) (by omega)⟩, by rw [d, List.length_cons]; omega, fun z => by omega, fun _ => ⟨rfl, fun j a b => ?_⟩, fun z => by omega, fun z => by cases z⟩
  · have : j = p + 1 := Int32.toInt_inj.1 (by omega)
    rw [this, d]; omega
  · have a' : (p + 1).toInt ≤ j.toInt := a
    omega
/-- the reader's own cells -/
def StkL (r : Cm) (s : Int32) : List Int32 → Prop
  | [] => r 2 0 0 = Pl s 120
  | o :: os => r 2 0 (nI (os.length + 1)) = Pl s o ∧ StkL r s os
theorem StkL.top {r : Cm} {d : Int32} (h : StkL r s os) (hd : d.toInt = (os.length : Int)) : r 2 0 d = Pl s (tpO os) := by
  cases os with
  | nil =>
    have : d = 0 := Int32.toInt_inj.1 (by rw [hd, t32_0]; rfl)
    rw [this]; exact h
  | cons o os =>
    have : nI (os.length + 1) = d := nI_e (by rw [hd, List.length_cons])
    rw [← this]; exact h.1
theorem StkL.fr {r r' : Cm} : ∀ {os : List Int32}, StkL r s os → r' 2 = r 2 → StkL r' s os := by
  intro os
  induction os with
  | nil => intro h e; show r' 2 0 0 = _; rw [e]; exact h
  | cons o os ih => intro h e; exact ⟨by rw [e]; exact h.1, ih h.2 e⟩
theorem StkL.put {r : Cm} {j x : Int32} : ∀ {os : List Int32}, StkL r s os → (os.length : Int) < j.toInt → StkL (u3 r 2 0 j x) s os := by
  intro os
  induction os with
  | nil =>
    intro h e
    show u3 r 2 0 j x 2 0 0 = _
    rw [u3_j (fun z => by rw [← z, t32_0] at e; exact absurd e (by show ¬ ((0 : Nat) : Int) < 0; omega))]; exact h
  | cons o os ih =>
    intro h e
    rw [List.length_cons] at e
    refine ⟨?_, ih h.2 (by omega)⟩
    have hr := (i32rng j).2
    have hl : os.length + 1 < 2147483648 := by omega
    rw [u3_j (fun z => by rw [← z, nI_toInt hl] at e; omega)]; exact h.1
def WdI (r t m : Cm) (s p c : Int32) : Prop := r 0 0 4 = Pl s c ∧ (f12_isLetter (f12_signAt m s c) = true → r 0 0 3 = 3 ∧ NmI m s c p (t 2 0 (Pl s c))) ∧ (¬ f12_isLetter (f12_signAt m s c) = true → (r 0 0 3 = 1 ∨ r 0 0 3 = 2) ∧ (r 0 0 6 = 0 ↔ ¬ f12_signAt m s c = 45) ∧ (ngS (f12_signAt m s c) c).toInt ≤ p.toInt ∧ NuI m s c p (t 2 0 (Pl s c)))
def RdI (N : Wm) (m : Cm) (s p : Int32) (os : List Int32) (n : Nat) (c : Int32) (w : Bool) : Prop := (TrI (N 9) m s p os n c w ∧ ScI m s p os n c w) ∧ (StkL (N 6) s os ∧ (N 6 0 0 2).toInt = (os.length : Int)) ∧ (w = false → N 6 0 0 3 = 0) ∧ (w = true → WdI (N 6) (N 9) m s p c) ∧ Rd (N 6) (ah m s p)
theorem WdI.n0 {r : Cm} (h : WdI r t m s p c) : ¬ r 0 0 3 = 0 := by
  by_cases l : f12_isLetter (f12_signAt m s c) = true
  · rw [(h.2.1 l).1]; decide
  · rcases (h.2.2 l).1 with z | z <;> rw [z] <;> decide
/-- nothing goes on -/
theorem RdI.settle (hk : Ok12 m) (hs : vp_in s 8) (h : RdI N m s p os n c w) (h0 : 0 ≤ p.toInt) (hp : p.toInt ≤ 120) (hw : ¬ wd12 (f12_signAt m s p)) : TrI (N 9) m s p os n c false ∧ ScI m s p os n c false := by
  obtain ⟨⟨a, b⟩, d, e, f, g⟩ := h
  cases w with
  | false => exact ⟨a, b⟩
  | true =>
    have W := f rfl
    obtain ⟨x1, x2, x3⟩ := b.2.2.2.2.2 rfl
    obtain ⟨b1, b2, b3⟩ := b.2.2.1 x1
    refine ⟨a.settle (fun l => ?_) (fun l => ?_), b.settle hp hw⟩
    · exact ((W.2.1 l).2.done b1.1.1 (by omega) hp (fun z => hw (Or.inr z))).symm
    · obtain ⟨y1, y2, y3, y4⟩ := W.2.2 l
      exact (y4.done b1.1.1 (by omega) y3 hp (fun z => hw (Or.inl z))).symm
/-- the reader's steps -/
theorem dig_0 (P v : Int32) (h : M 6 0 0 3 = 0) : (f6_takesDigit M P v).2 9 = f9_setContent (begT (M 9) (M 6 2 0 (M 6 0 0 2)) P 1) P ((f9_contentOf (begT (M 9) (M 6 2 0 (M 6 0 0 2)) P 1) P * 10) + v) ∧ (f6_takesDigit M P v).2 6 2 = M 6 2 ∧ (f6_takesDigit M P v).2 6 0 0 2 = M 6 0 0 2 ∧ (f6_takesDigit M P v).2 6 0 0 3 = 2 ∧ (f6_takesDigit M P v).2 6 0 0 4 = P ∧ (f6_takesDigit M P v).2 6 0 0 6 = 0 := by
  have e : f6_takesDigit M P v = (true, growW (uW (f6_beginWord M P 1) 6 (u3 (f6_beginWord M P 1 6) 0 0 3 2)) 10 v) := by
    unfold f6_takesDigit
    simp only [bnd_e, jn_e]
    rw [if_neg (by rw [h]; decide), if_pos h, if_pos (show f6_beginWord M P 1 6 0 0 6 = 0 from rfl), grows_e]
    rw [if_pos (show (uW (f6_beginWord M P 1) 6 (u3 (f6_beginWord M P 1 6) 0 0 3 2)) 6 0 0 5 < 6 from by show (0 : Int32) < 6; decide)]
  rw [e]
  exact ⟨rfl, rfl, rfl, rfl, rfl, rfl⟩
theorem dig_1 (P v : Int32) (h3 : ¬ M 6 0 0 3 = 3) (h0 : ¬ M 6 0 0 3 = 0) (ht : (f6_takesDigit M P v).1 = true) : (f6_takesDigit M P v).2 9 = f9_setContent (M 9) (M 6 0 0 4) ((f9_contentOf (M 9) (M 6 0 0 4) * 10) + (if M 6 0 0 6 = 0 then v else -v)) ∧ (f6_takesDigit M P v).2 6 2 = M 6 2 ∧ (f6_takesDigit M P v).2 6 0 0 2 = M 6 0 0 2 ∧ (f6_takesDigit M P v).2 6 0 0 3 = 2 ∧ (f6_takesDigit M P v).2 6 0 0 4 = M 6 0 0 4 ∧ (f6_takesDigit M P v).2 6 0 0 6 = M 6 0 0 6 := by
  have e : f6_takesDigit M P v = f6_growsWord (uW M 6 (u3 (M 6) 0 0 3 2)) 10 (if M 6 0 0 6 = 0 then v else -v) := by
    unfold f6_takesDigit
    simp only [bnd_e, jn_e]
    rw [if_neg h3, if_neg h0]
    by_cases z : M 6 0 0 6 = 0
    · rw [if_pos z, if_pos z]
    · rw [if_neg z, if_neg z]
  rw [e, grows_e] at ht
  rw [e, grows_e]
  by_cases z : (uW M 6 (u3 (M 6) 0 0 3 2)) 6 0 0 5 < 6
  · rw [if_pos z]
    exact ⟨rfl, rfl, rfl, rfl, rfl, rfl⟩
  · rw [if_neg z] at ht; cases ht
theorem let_0 (P v : Int32) (h : M 6 0 0 3 = 0) : (f6_takesLetter M P v).2 9 = f9_setContent (begT (M 9) (M 6 2 0 (M 6 0 0 2)) P 2) P ((f9_contentOf (begT (M 9) (M 6 2 0 (M 6 0 0 2)) P 2) P * 27) + v) ∧ (f6_takesLetter M P v).2 6 2 = M 6 2 ∧ (f6_takesLetter M P v).2 6 0 0 2 = M 6 0 0 2 ∧ (f6_takesLetter M P v).2 6 0 0 3 = 3 ∧ (f6_takesLetter M P v).2 6 0 0 4 = P := by
  have e : f6_takesLetter M P v = (true, growW (uW (f6_beginWord M P 2) 6 (u3 (f6_beginWord M P 2 6) 0 0 3 3)) 27 v) := by
    unfold f6_takesLetter
    simp only [bnd_e, jn_e]
    rw [if_neg (by rw [h]; decide), if_neg (by rw [h]; decide), if_pos h, grows_e]
    rw [if_pos (show (uW (f6_beginWord M P 2) 6 (u3 (f6_beginWord M P 2 6) 0 0 3 3)) 6 0 0 5 < 6 from by show (0 : Int32) < 6; decide)]
  rw [e]
  exact ⟨rfl, rfl, rfl, rfl, rfl⟩
theorem let_1 (P v : Int32) (h0 : ¬ M 6 0 0 3 = 0) (ht : (f6_takesLetter M P v).1 = true) : (f6_takesLetter M P v).2 9 = f9_setContent (M 9) (M 6 0 0 4) ((f9_contentOf (M 9) (M 6 0 0 4) * 27) + v) ∧ (f6_takesLetter M P v).2 6 2 = M 6 2 ∧ (f6_takesLetter M P v).2 6 0 0 2 = M 6 0 0 2 ∧ (f6_takesLetter M P v).2 6 0 0 3 = 3 ∧ (f6_takesLetter M P v).2 6 0 0 4 = M 6 0 0 4 ∧ ¬ M 6 0 0 3 = 1 ∧ ¬ M 6 0 0 3 = 2 := by
  by_cases h1 : M 6 0 0 3 = 1
  · exfalso; unfold f6_takesLetter at ht; rw [if_pos h1] at ht; cases ht
  · by_cases h2 : M 6 0 0 3 = 2
    · exfalso; unfold f6_takesLetter at ht; rw [if_neg h1, if_pos h2] at ht; cases ht
    · have e : f6_takesLetter M P v = f6_growsWord (uW M 6 (u3 (M 6) 0 0 3 3)) 27 v := by
        unfold f6_takesLetter
        simp only [bnd_e, jn_e]
        rw [if_neg h1, if_neg h2, if_neg h0]
      rw [e, grows_e] at ht
      rw [e, grows_e]
      by_cases z : (uW M 6 (u3 (M 6) 0 0 3 3)) 6 0 0 5 < 6
      · rw [if_pos z]
        exact ⟨rfl, rfl, rfl, rfl, rfl, h1, h2⟩
      · rw [if_neg z] at ht; cases ht
theorem min_0 (P : Int32) (h : M 6 0 0 3 = 0) : (f6_takesMinus M P).2 9 = begT (M 9) (M 6 2 0 (M 6 0 0 2)) P 1 ∧ (f6_takesMinus M P).2 6 2 = M 6 2 ∧ (f6_takesMinus M P).2 6 0 0 2 = M 6 0 0 2 ∧ (f6_takesMinus M P).2 6 0 0 3 = 1 ∧ (f6_takesMinus M P).2 6 0 0 4 = P ∧ (f6_takesMinus M P).2 6 0 0 6 = 1 := by
  have q : f6_takesMinus M P = if M 6 0 0 3 = 0 then (true, uW (uW (f6_beginWord M P 1) 6 (u3 (f6_beginWord M P 1 6) 0 0 6 1)) 6 (u3 (u3 (f6_beginWord M P 1 6) 0 0 6 1) 0 0 3 1)) else (false, M) := rfl
  rw [q, if_pos h]
  have e9 : (uW (uW (f6_beginWord M P 1) 6 (u3 (f6_beginWord M P 1 6) 0 0 6 1)) 6 (u3 (u3 (f6_beginWord M P 1 6) 0 0 6 1) 0 0 3 1)) 9 = f6_beginWord M P 1 9 := by rw [uW_ne _ _ (by decide), uW_ne _ _ (by decide)]
  have e9' : f6_beginWord M P 1 9 = begT (M 9) (M 6 2 0 (M 6 0 0 2)) P 1 := rfl
  have e6 : (uW (uW (f6_beginWord M P 1) 6 (u3 (f6_beginWord M P 1 6) 0 0 6 1)) 6 (u3 (u3 (f6_beginWord M P 1 6) 0 0 6 1) 0 0 3 1)) 6 = u3 (u3 (u3 (u3 (u3 (M 6) 0 0 4 P) 0 0 5 0) 0 0 6 0) 0 0 6 1) 0 0 3 1 := by rw [uW_at, begin_6]
  refine ⟨e9.trans e9', ?_, ?_, ?_, ?_, ?_⟩
  · show (uW (uW (f6_beginWord M P 1) 6 (u3 (f6_beginWord M P 1 6) 0 0 6 1)) 6 (u3 (u3 (f6_beginWord M P 1 6) 0 0 6 1) 0 0 3 1)) 6 2 = M 6 2
    rw [e6]; rfl
  · show (uW (uW (f6_beginWord M P 1) 6 (u3 (f6_beginWord M P 1 6) 0 0 6 1)) 6 (u3 (u3 (f6_beginWord M P 1 6) 0 0 6 1) 0 0 3 1)) 6 0 0 2 = M 6 0 0 2
    rw [e6]; rfl
  · show (uW (uW (f6_beginWord M P 1) 6 (u3 (f6_beginWord M P 1 6) 0 0 6 1)) 6 (u3 (u3 (f6_beginWord M P 1 6) 0 0 6 1) 0 0 3 1)) 6 0 0 3 = 1
    rw [e6]; rfl
  · show (uW (uW (f6_beginWord M P 1) 6 (u3 (f6_beginWord M P 1 6) 0 0 6 1)) 6 (u3 (u3 (f6_beginWord M P 1 6) 0 0 6 1) 0 0 3 1)) 6 0 0 4 = P
    rw [e6]; rfl
  · show (uW (uW (f6_beginWord M P 1) 6 (u3 (f6_beginWord M P 1 6) 0 0 6 1)) 6 (u3 (u3 (f6_beginWord M P 1 6) 0 0 6 1) 0 0 3 1)) 6 0 0 6 = 1
    rw [e6]; rfl
end HANG
