/-! THE TREE behind the reading of a text without fault -/
section HANG
variable {t m x : Cm} {s p c : Int32} {os : List Int32} {n : Nat} {w : Bool} {M N : Wm}
theorem tree_lp (hk : Ok12 m) (hs : vp_in s 8) (hX : Tx12 m s) (hT : RelT x m) (hS : SgS m s) : ∀ (k : Nat) (p : Int32) (N : Wm) (os : List Int32) (n : Nat) (c : Int32) (w : Bool), N 8 = x → RdI N m s p os n c w → (0 ≤ (N 6 0 0 2).toInt ∧ (N 6 0 0 2).toInt ≤ 20) → 0 ≤ p.toInt → p.toInt ≤ (m 3 0 s).toInt → 121 - p.toInt < k → f12_faultOf_lp7 m s (K12 m s) k (p, ah m s p, N 6 0 0 2) = -1 → TreeOk ((f8_faultRead_lp13 s (K8 s) k (p, N)).2 9) m s (Bx m s) := by
  have hL := hk.len s hs
  intro k
  induction k with
  | zero => intro p N os n c w _ _ _ _ b c'; omega
  | succ k ih =>
    intro p N os n c w hN hI hd h0 h1 hc hF
    have hRd := hI.2.2.2.2
    rw [f12_faultOf_lp7_s] at hF
    rw [f8_faultRead_lp13_s]
    simp only [bnd_e, jn_e] at hF ⊢
    rw [hN, (hT s hs).1]
    have hne : ¬ p = -1 := by intro z; rw [z] at h0; exact absurd h0 (by decide)
    by_cases c0 : m 3 0 s ≤ p
    · rw [if_pos c0] at hF ⊢
      simp only [i32le] at c0
      have pe : p = m 3 0 s := Int32.toInt_inj.1 (by omega)
      have z0 : f12_signAt m s p = 0 := signAt_z c0
      obtain ⟨T', S'⟩ := hI.settle hk hs h0 (by omega) (by rw [z0]; exact fun z => by rcases z with z | z <;> exact absurd z (by decide))
      have lne : ¬ m 3 0 s = -1 := by rw [← pe]; exact hne
      have hd0 : os = [] := by
        unfold K12 at hF
        dsimp only at hF
        by_cases z : 0 < N 6 0 0 2
        · rw [if_pos z] at hF; exact absurd hF lne
        · simp only [i32lt, t32_0] at z
          have := hI.2.1.2
          cases os with
          | nil => rfl
          | cons a b => rw [List.length_cons] at this; omega
      subst hd0
      have e : (K8 s N).2 = N := by unfold K8; split <;> rfl
      show TreeOk ((K8 s N).2 9) m s (Bx m s)
      rw [e]
      exact TrI.ends hk hs hX pe T' S'
    · rw [if_neg c0] at hF ⊢
      simp only [i32le] at c0
      have hp : p.toInt < (m 3 0 s).toInt := by omega
      have hIx : Ix12 m s p := ⟨h0, hp⟩
      have e1 : (p + 1).toInt = p.toInt + 1 := inc_t h0 (by omega)
      have sg := hS p h0 hp
      have C := sign_c (M := N) (p := f9_placeOf s p) hRd hd sg
      have t20 : (20 : Int32).toInt = 20 := by decide
      have hF2 : (if f12_read (f12_signAt m s p) (ah m s p) = -1 then p else if N 6 0 0 2 + dl32 (f12_signAt m s p) < 0 then p else if N 6 0 0 2 + dl32 (f12_signAt m s p) ≤ 20 then f12_faultOf_lp7 m s (K12 m s) k (p + 1, f12_read (f12_signAt m s p) (ah m s p), N 6 0 0 2 + dl32 (f12_signAt m s p)) else p) = -1 := by
        unfold dl32
        by_cases d1 : f12_signAt m s p = 40
        · rw [if_pos d1] at hF ⊢; exact hF
        · rw [if_neg d1] at hF ⊢
          by_cases d2 : f12_signAt m s p = 41
          · rw [if_pos d2] at hF ⊢; exact hF
          · rw [if_neg d2] at hF ⊢; exact hF
      clear hF
      by_cases a1 : f12_read (f12_signAt m s p) (ah m s p) = -1
      · rw [if_pos a1] at hF2; exact absurd hF2 hne
      · rw [if_neg a1] at hF2
        by_cases a2 : N 6 0 0 2 + dl32 (f12_signAt m s p) < 0
        · rw [if_pos a2] at hF2; exact absurd hF2 hne
        · rw [if_neg a2] at hF2
          by_cases a3 : N 6 0 0 2 + dl32 (f12_signAt m s p) ≤ 20
          · rw [if_pos a3] at hF2
            obtain ⟨b1, b2, b3⟩ := C.1 a1 a2 a3
            have hah : ah m s (p + 1) = f12_read (f12_signAt m s p) (ah m s p) := ah_s h0 (by omega)
            have dl : (dl32 (f12_signAt m s p)).toInt = dl12 (f12_signAt m s p) := by
              unfold dl32 dl12
              split
              · decide
              · split <;> decide
            have dr := dl12_r (f12_signAt m s p)
            have ed : (N 6 0 0 2 + dl32 (f12_signAt m s p)).toInt = (N 6 0 0 2).toInt + dl12 (f12_signAt m s p) := by
              rw [i32addn (by rw [dl]; omega) (by rw [dl]; omega), dl]
            have a2' := a2
            have a3' := a3
            simp only [i32lt, i32le, t32_0, t20, ed] at a2' a3'
            rw [hT.sign hs h0 hp]
            have ep : f9_placeOf s p = Pl s p := rfl
            rw [ep] at b1 b2 b3 ⊢
            rw [if_pos b1]
            rw [← hah] at b2 hF2
            have st : ∃ os' n' c' w', RdI (f6_takesSign N (Pl s p) (f12_signAt m s p)).2 m s (p + 1) os' n' c' w' := by
              by_cases cd : f12_isDigit (f12_signAt m s p) = true
              · obtain ⟨n', c', w', r⟩ := hI.dig hk hs hIx cd b1 b2
                exact ⟨os, n', c', w', r⟩
              · by_cases cl : f12_isLetter (f12_signAt m s p) = true
                · obtain ⟨n', c', w', r⟩ := hI.let hk hs hIx cd cl b1 b2
                  exact ⟨os, n', c', w', r⟩
                · by_cases cm : f12_signAt m s p = 45
                  · obtain ⟨n', c', w', r⟩ := hI.min hk hs hIx cm b1 b2
                    exact ⟨os, n', c', w', r⟩
                  · have cg : f12_signAt m s p = 40 ∨ f12_signAt m s p = 41 ∨ f12_signAt m s p = 32 := by
                      rcases sg with (z | z) | (z | z) | z | z
                      · exact Or.inr (Or.inr z)
                      · exact Or.inl z
                      · exact Or.inr (Or.inl z)
                      · exact absurd z cm
                      · exact absurd z cd
                      · exact absurd z cl
                    exact hI.rest hk hs hX hIx cd cl cm cg b1 b2 (by omega) (by omega)
            obtain ⟨os', n', c', w', r⟩ := st
            refine ih (p + 1) (f6_takesSign N (Pl s p) (f12_signAt m s p)).2 os' n' c' w' ((takes_8 N _ _).trans hN) r ?_ (by omega) (by omega) (by omega) (by rw [b3]; exact hF2)
            rw [b3, ed]; omega
          · rw [if_neg a3] at hF2; exact absurd hF2 hne
/-- a text without fault: its tree -/
theorem tree_e (hk : Ok12 m) (hs : vp_in s 8) (hT : RelT (M 8) m) (hS : SgS m s) (hF : f12_faultOf m s = -1) : TreeOk ((f8_faultRead M s).2 9) m s (Bx m s) := by
  have hL := hk.len s hs
  have hX := faultOf_T hk hs hF
  have t120 : (120 : Int32).toInt = 120 := by decide
  have hP := Pl_in hs (i := 120) (by rw [t120]; omega) (by rw [t120]; omega)
  have e1 : f8_faultRead M s = f8_faultRead_lp13 s (K8 s) 122 (0, f6_begin M (f9_rowOf s)) := rfl
  rw [e1]
  have er : f9_rowOf s = Pl s 120 := rfl
  have e9 : f6_begin M (f9_rowOf s) 9 = mkT (M 9) (Pl s 120) 3 := by
    rw [er]
    show f9_make (M 9) (Pl s 120) 3 = _
    exact make_e 3 hP.1 hP.2.1
  have key : f12_faultOf_lp7 m s (K12 m s) 122 (0, 0, 0) = -1 := hF
  obtain ⟨c1, c2, c3, c4, c5, c6⟩ := mkT_c (M 9) (Pl s 120) 3 (Pl s 120)
  refine tree_lp (x := M 8) hk hs hX hT hS 122 0 (f6_begin M (f9_rowOf s)) [] 0 0 false rfl ⟨⟨⟨⟨⟨?_, fun _ => ⟨?_, ?_⟩, fun z => by omega⟩, trivial⟩, fun i i1 i2 => ?_, ⟨fun o ho => (by cases ho), fun z => by omega⟩, fun i i1 i2 => ?_, fun i i1 i2 => ?_, fun i i1 i2 => ?_⟩, trivial, rfl, fun z => by omega, fun _ => ⟨rfl, fun j a b => ?_⟩, fun z => by omega, fun z => by cases z⟩, ⟨?_, rfl⟩, fun _ => rfl, fun z => (by cases z), Or.inl ⟨rfl, rfl⟩⟩ ⟨by show 0 ≤ (0 : Int32).toInt; decide, by show (0 : Int32).toInt ≤ 20; decide⟩ (by decide) hL.1 (by decide) key
  · rw [e9]; show (mkT (M 9) (Pl s 120) 3 3 0 (Pl s 120)).toInt = _
    rw [c3, if_pos rfl]; rfl
  · rw [e9]; show mkT (M 9) (Pl s 120) 3 4 0 (Pl s 120) = _
    rw [c4, if_pos rfl]
  · rw [e9]; show mkT (M 9) (Pl s 120) 3 5 0 (Pl s 120) = _
    rw [c5, if_pos rfl]
  · rw [t32_0] at i2; have := i1.1.1; omega
  · rw [t32_0] at i2; have := i1.1.1; omega
  · rw [t32_0] at i2; have := i1.1.1; omega
  · rw [t32_0] at i2; have := i1.1.1; omega
  · have a' : (0 : Int32).toInt ≤ j.toInt := a
    omega
  · show f6_begin M (f9_rowOf s) 6 2 0 0 = Pl s 120
    rfl
end HANG
/-! THE TREE of another text stays -/
section FRT
variable {t t1 m : Cm} {s p c : Int32} {M N : Wm}
def inT (s q : Int32) : Prop := ∃ i : Int32, (0 ≤ i.toInt ∧ i.toInt ≤ 120) ∧ q = Pl s i
def FrT (s : Int32) (t t1 : Cm) : Prop := ∀ q : Int32, ¬ inT s q → t1 1 0 q = t 1 0 q ∧ t1 2 0 q = t 2 0 q ∧ t1 3 0 q = t 3 0 q ∧ t1 4 0 q = t 4 0 q ∧ t1 6 0 q = t 6 0 q
theorem FrT.refl (s : Int32) (t : Cm) : FrT s t t := fun _ _ => ⟨rfl, rfl, rfl, rfl, rfl⟩
theorem FrT.trans {a b c : Cm} (h : FrT s a b) (k : FrT s b c) : FrT s a c := fun q hq => by
  obtain ⟨a1, a2, a3, a4, a5⟩ := h q hq
  obtain ⟨b1, b2, b3, b4, b5⟩ := k q hq
  exact ⟨b1.trans a1, b2.trans a2, b3.trans a3, b4.trans a4, b5.trans a5⟩
theorem FrT.put {q : Int32} (g : Nat) (x : Int32) (h : inT s q) : FrT s t (u3 t g 0 q x) := fun k hk => by
  have n : ¬ k = q := fun z => hk (by rw [z]; exact h)
  simp only [u3_c]
  refine ⟨?_, ?_, ?_, ?_, ?_⟩ <;> exact if_neg (fun z => n z.2)
theorem inT.r {q : Int32} (hs : vp_in s 8) (h : inT s q) : ¬ q < 0 ∧ ¬ 968 ≤ q ∧ q < 968 := by
  obtain ⟨i, hi, e⟩ := h
  rw [e]; exact Pl_in hs hi.1 hi.2
theorem make_f {P : Int32} (k : Int32) (hs : vp_in s 8) (hP : inT s P) : FrT s t (f9_make t P k) ∧ ∀ q : Int32, f9_make t P k 5 0 q = if q = P then -1 else t 5 0 q := by
  have r := hP.r hs
  rw [make_e k r.1 r.2.1]
  refine ⟨?_, fun q => (mkT_c t P k q).2.2.2.2.1⟩
  unfold mkT
  exact (((((FrT.put 1 k hP).trans (FrT.put 2 0 hP)).trans (FrT.put 3 0 hP)).trans (FrT.put 4 (-1) hP)).trans (FrT.put 5 (-1) hP)).trans (FrT.put 6 (-1) hP)
theorem hang_f {A P : Int32} (hs : vp_in s 8) (hA : inT s A) (hP : inT s P) (h5 : t 5 0 A = -1 ∨ inT s (t 5 0 A)) : FrT s t (f9_hang t A P) ∧ ∀ q : Int32, f9_hang t A P 5 0 q = if q = A then P else t 5 0 q := by
  have r := hA.r hs
  rcases h5 with h5 | h5
  · have e : f9_hang t A P = u3 (u3 (u3 t 4 0 A P) 5 0 A P) 3 0 A (u3 t 4 0 A P 3 0 A + 1) := by
      unfold f9_hang
      simp only [bnd_e, jn_e]
      rw [if_neg r.1, if_pos r.2.2, h5, if_pos (show (-1 : Int32) < 0 by decide)]
    rw [e]
    refine ⟨((FrT.put 4 P hA).trans (FrT.put 5 P hA)).trans (FrT.put 3 _ hA), fun q => ?_⟩
    simp only [u3_c, Nat.reduceEqDiff, false_and, true_and, if_false]
  · have r5 := h5.r hs
    have e : f9_hang t A P = u3 (u3 (u3 t 6 0 (t 5 0 A) P) 5 0 A P) 3 0 A (u3 t 6 0 (t 5 0 A) P 3 0 A + 1) := by
      unfold f9_hang
      simp only [bnd_e, jn_e]
      rw [if_neg r.1, if_pos r.2.2, if_neg r5.1, if_neg r5.2.1]
    rw [e]
    refine ⟨((FrT.put 6 P h5).trans (FrT.put 5 P hA)).trans (FrT.put 3 _ hA), fun q => ?_⟩
    simp only [u3_c, Nat.reduceEqDiff, false_and, true_and, if_false]
theorem set_f {P : Int32} (v : Int32) (hs : vp_in s 8) (hP : inT s P) : FrT s t (f9_setContent t P v) ∧ ∀ q : Int32, f9_setContent t P v 5 0 q = t 5 0 q := by
  have r := hP.r hs
  have e : f9_setContent t P v = u3 t 2 0 P v := by unfold f9_setContent; rw [if_neg r.1, if_neg r.2.1]; rfl
  rw [e]
  exact ⟨FrT.put 2 v hP, fun q => by rw [u3_ne _ _ _ (by decide)]⟩
/-- what the reader holds belongs to its text -/
def FrI (s : Int32) (N : Wm) : Prop := (0 ≤ (N 6 0 0 2).toInt ∧ (N 6 0 0 2).toInt ≤ 20) ∧ (∀ k : Int32, 0 ≤ k.toInt → k.toInt ≤ (N 6 0 0 2).toInt → inT s (N 6 2 0 k) ∧ (N 9 5 0 (N 6 2 0 k) = -1 ∨ inT s (N 9 5 0 (N 6 2 0 k)))) ∧ (¬ N 6 0 0 3 = 0 → inT s (N 6 0 0 4))
def FrS (s : Int32) (M N : Wm) : Prop := FrI s N ∧ FrT s (M 9) (N 9)
theorem FrI.cells {N N' : Wm} (h : FrI s N) (e2 : N' 6 2 = N 6 2) (ed : N' 6 0 0 2 = N 6 0 0 2) (e5 : ∀ q : Int32, N' 9 5 0 q = N 9 5 0 q ∨ inT s (N' 9 5 0 q) ∨ N' 9 5 0 q = -1) (e4 : ¬ N' 6 0 0 3 = 0 → inT s (N' 6 0 0 4)) : FrI s N' := by
  obtain ⟨a, b, d⟩ := h
  refine ⟨by rw [ed]; exact a, fun k k0 k1 => ?_, e4⟩
  rw [ed] at k1
  obtain ⟨b1, b2⟩ := b k k0 k1
  rw [e2]
  refine ⟨b1, ?_⟩
  rcases e5 (N 6 2 0 k) with z | z | z
  · rw [z]; exact b2
  · exact Or.inr z
  · exact Or.inl z
theorem word_f {k P : Int32} (hs : vp_in s 8) (h : FrI s N) (hP : inT s P) : FrI s (f6_beginWord N P k) ∧ FrT s (N 9) (f6_beginWord N P k 9) ∧ inT s (f6_beginWord N P k 6 0 0 4) := by
  have e9 : f6_beginWord N P k 9 = f9_hang (f9_make (N 9) P k) (N 6 2 0 (N 6 0 0 2)) P := rfl
  obtain ⟨b1, b2⟩ := h.2.1 (N 6 0 0 2) h.1.1 (Int.le_refl _)
  obtain ⟨f1, f2⟩ := make_f (t := N 9) k hs hP
  obtain ⟨g1, g2⟩ := hang_f (t := f9_make (N 9) P k) hs b1 hP (by
    rw [f2]
    split
    · exact Or.inl rfl
    · exact b2)
  refine ⟨h.cells rfl rfl (fun q => ?_) (fun _ => hP), by rw [e9]; exact f1.trans g1, hP⟩
  rw [e9, g2]
  by_cases z : q = N 6 2 0 (N 6 0 0 2)
  · rw [if_pos z]; exact Or.inr (Or.inl hP)
  · rw [if_neg z, f2]
    by_cases y : q = P
    · rw [if_pos y]; exact Or.inr (Or.inr rfl)
    · rw [if_neg y]; exact Or.inl rfl
theorem grow_f (a b : Int32) (hs : vp_in s 8) (h : FrI s N) (h4 : inT s (N 6 0 0 4)) : FrI s (f6_growsWord N a b).2 ∧ FrT s (N 9) ((f6_growsWord N a b).2 9) := by
  rw [grows_e]
  by_cases z : N 6 0 0 5 < 6
  · rw [if_pos z]
    obtain ⟨f1, f2⟩ := set_f (t := N 9) ((f9_contentOf (N 9) (N 6 0 0 4) * a) + b) hs h4
    exact ⟨h.cells rfl rfl (fun q => Or.inl (f2 q)) (fun _ => h4), f1⟩
  · rw [if_neg z]
    exact ⟨h, FrT.refl _ _⟩
theorem FrI.st {N : Wm} (h : FrI s N) (x : Int32) (h4 : inT s (N 6 0 0 4)) : FrI s (uW N 6 (u3 (N 6) 0 0 3 x)) := h.cells rfl rfl (fun _ => Or.inl rfl) (fun _ => h4)
theorem takes_f {P : Int32} (g : Int32) (hs : vp_in s 8) (h : FrI s N) (hP : inT s P) : FrI s (f6_takesSign N P g).2 ∧ FrT s (N 9) ((f6_takesSign N P g).2 9) := by
  by_cases c1 : f12_isDigit g = true
  · rw [takes_dig c1]
    have body : ∀ N' : Wm, FrI s N' → FrT s (N 9) (N' 9) → inT s (N' 6 0 0 4) → ∀ q : Int32, FrI s (f6_growsWord (uW N' 6 (u3 (N' 6) 0 0 3 2)) 10 q).2 ∧ FrT s (N 9) ((f6_growsWord (uW N' 6 (u3 (N' 6) 0 0 3 2)) 10 q).2 9) := by
      intro N' a b d q
      obtain ⟨g1, g2⟩ := grow_f (N := uW N' 6 (u3 (N' 6) 0 0 3 2)) 10 q hs (a.st 2 d) d
      exact ⟨g1, b.trans g2⟩
    unfold f6_takesDigit
    simp only [bnd_e, jn_e]
    by_cases z3 : N 6 0 0 3 = 3
    · rw [if_pos z3]; exact ⟨h, FrT.refl _ _⟩
    · rw [if_neg z3]
      by_cases z0 : N 6 0 0 3 = 0
      · rw [if_pos z0]
        obtain ⟨a, b, d⟩ := word_f (k := 1) hs h hP
        by_cases z6 : f6_beginWord N P 1 6 0 0 6 = 0
        · rw [if_pos z6]; exact body _ a b d _
        · rw [if_neg z6]; exact body _ a b d _
      · rw [if_neg z0]
        by_cases z6 : N 6 0 0 6 = 0
        · rw [if_pos z6]; exact body _ h (FrT.refl _ _) (h.2.2 z0) _
        · rw [if_neg z6]; exact body _ h (FrT.refl _ _) (h.2.2 z0) _
  · by_cases c2 : f12_isLetter g = true
    · rw [takes_let c1 c2]
      have body : ∀ N' : Wm, FrI s N' → FrT s (N 9) (N' 9) → inT s (N' 6 0 0 4) → ∀ q : Int32, FrI s (f6_growsWord (uW N' 6 (u3 (N' 6) 0 0 3 3)) 27 q).2 ∧ FrT s (N 9) ((f6_growsWord (uW N' 6 (u3 (N' 6) 0 0 3 3)) 27 q).2 9) := by
        intro N' a b d q
        obtain ⟨g1, g2⟩ := grow_f (N := uW N' 6 (u3 (N' 6) 0 0 3 3)) 27 q hs (a.st 3 d) d
        exact ⟨g1, b.trans g2⟩
      unfold f6_takesLetter
      simp only [bnd_e, jn_e]
      by_cases z1 : N 6 0 0 3 = 1
      · rw [if_pos z1]; exact ⟨h, FrT.refl _ _⟩
      · rw [if_neg z1]
        by_cases z2 : N 6 0 0 3 = 2
        · rw [if_pos z2]; exact ⟨h, FrT.refl _ _⟩
        · rw [if_neg z2]
          by_cases z0 : N 6 0 0 3 = 0
          · rw [if_pos z0]
            obtain ⟨a, b, d⟩ := word_f (k := 2) hs h hP
            exact body _ a b d _
          · rw [if_neg z0]; exact body _ h (FrT.refl _ _) (h.2.2 z0) _
    · by_cases c3 : g = 45
      · rw [c3, takes_min]
        have q : f6_takesMinus N P = if N 6 0 0 3 = 0 then (true, uW (uW (f6_beginWord N P 1) 6 (u3 (f6_beginWord N P 1 6) 0 0 6 1)) 6 (u3 (u3 (f6_beginWord N P 1 6) 0 0 6 1) 0 0 3 1)) else (false, N) := rfl
        rw [q]
        by_cases z0 : N 6 0 0 3 = 0
        · rw [if_pos z0]
          obtain ⟨a, b, d⟩ := word_f (k := 1) hs h hP
          generalize f6_beginWord N P 1 = B at *
          exact ⟨a.cells rfl rfl (fun _ => Or.inl rfl) (fun _ => d), b⟩
        · rw [if_neg z0]; exact ⟨h, FrT.refl _ _⟩
      · by_cases c4 : N 6 0 0 3 = 1
        · have e : f6_takesSign N P g = (false, N) := by
            unfold f6_takesSign
            simp only [bnd_e]
            rw [if_neg (show ¬ f6_isDigit g = true from c1), if_neg (show ¬ f6_isLetter g = true from c2), if_neg c3, if_pos c4]
          rw [e]; exact ⟨h, FrT.refl _ _⟩
        · have h0 : FrI s (uW N 6 (u3 (N 6) 0 0 3 0)) := h.cells rfl rfl (fun _ => Or.inl rfl) (fun z => absurd rfl z)
          by_cases c5 : g = 40
          · rw [c5]
            by_cases c6 : N 6 0 0 2 < 20
            · rw [takes_open c4 c6]
              have t20 : (20 : Int32).toInt = 20 := by decide
              simp only [i32lt, t20] at c6
              have ed : (N 6 0 0 2 + 1).toInt = (N 6 0 0 2).toInt + 1 := inc_t h.1.1 (by omega)
              obtain ⟨b1, b2⟩ := h.2.1 (N 6 0 0 2) h.1.1 (Int.le_refl _)
              obtain ⟨f1, f2⟩ := make_f (t := N 9) 3 hs hP
              obtain ⟨g1, g2⟩ := hang_f (t := f9_make (N 9) P 3) hs b1 hP (by
                rw [f2]
                split
                · exact Or.inl rfl
                · exact b2)
              have eb : begT (N 9) (N 6 2 0 (N 6 0 0 2)) P 3 = f9_hang (f9_make (N 9) P 3) (N 6 2 0 (N 6 0 0 2)) P := rfl
              rw [← eb] at g1 g2
              have c5 : ∀ q : Int32, (N 9 5 0 q = -1 ∨ inT s (N 9 5 0 q)) ∨ q = P → begT (N 9) (N 6 2 0 (N 6 0 0 2)) P 3 5 0 q = -1 ∨ inT s (begT (N 9) (N 6 2 0 (N 6 0 0 2)) P 3 5 0 q) := by
                intro q hq
                rw [g2]
                by_cases z : q = N 6 2 0 (N 6 0 0 2)
                · rw [if_pos z]; exact Or.inr hP
                · rw [if_neg z, f2]
                  by_cases y : q = P
                  · rw [if_pos y]; exact Or.inl rfl
                  · rw [if_neg y]; exact hq.resolve_right y
              show FrI s (opW N P) ∧ FrT s (N 9) (opW N P 9)
              have o9 := opW_9 N P
              have o6 := opW_6 N P
              generalize opW N P = R at *
              refine ⟨⟨?_, fun k k0 k1 => ?_, fun z => ?_⟩, by rw [o9]; exact f1.trans g1⟩
              · rw [o6, u3_ne _ _ _ (show ¬ 0 = 2 by decide), u3_at]; have := h.1.1; omega
              · rw [o6, u3_ne _ _ _ (show ¬ 0 = 2 by decide), u3_at] at k1
                rw [o9, o6]
                by_cases z : k = N 6 0 0 2 + 1
                · rw [z, u3_at]; exact ⟨hP, c5 P (Or.inr rfl)⟩
                · rw [u3_j z, u3_ne _ _ _ (show ¬ 2 = 0 by decide), u3_ne _ _ _ (show ¬ 2 = 0 by decide)]
                  rw [i32eq] at z
                  obtain ⟨x1, x2⟩ := h.2.1 k k0 (by omega)
                  exact ⟨x1, c5 _ (Or.inl x2)⟩
              · rw [o6, u3_ne _ _ _ (show ¬ 0 = 2 by decide), u3_s (by decide), u3_at] at z
                exact absurd rfl z
            · have e : f6_takesSign N P 40 = (false, uW N 6 (u3 (N 6) 0 0 3 0)) := by
                have eo : f6_opensList (uW N 6 (u3 (N 6) 0 0 3 0)) P = (false, uW N 6 (u3 (N 6) 0 0 3 0)) := by
                  unfold f6_opensList
                  simp only [bnd_e]
                  exact if_neg c6
                unfold f6_takesSign
                simp only [bnd_e]
                rw [if_neg (show ¬ f6_isDigit 40 = true by decide), if_neg (show ¬ f6_isLetter 40 = true by decide), if_neg (show ¬ (40 : Int32) = 45 by decide), if_neg c4, if_pos trivial, eo]
              rw [e]; exact ⟨h0, FrT.refl _ _⟩
          · by_cases c6 : g = 32
            · rw [c6, takes_blank c4]; exact ⟨h0, FrT.refl _ _⟩
            · have e : f6_takesSign N P g = if 0 < N 6 0 0 2 then (true, clW N) else (false, uW N 6 (u3 (N 6) 0 0 3 0)) := by
                have ec : f6_closesList (u3 (N 6) 0 0 3 0) = if 0 < N 6 0 0 2 then (true, u3 (u3 (N 6) 0 0 3 0) 0 0 2 (N 6 0 0 2 - 1)) else (false, u3 (N 6) 0 0 3 0) := rfl
                unfold f6_takesSign
                simp only [bnd_e]
                rw [if_neg (show ¬ f6_isDigit g = true from c1), if_neg (show ¬ f6_isLetter g = true from c2), if_neg c3, if_neg c4, if_neg c5, if_neg c6]
                rw [show (uW N 6 (u3 (N 6) 0 0 3 0)) 6 = u3 (N 6) 0 0 3 0 from uW_at _ _ _, ec]
                by_cases z : 0 < N 6 0 0 2
                · rw [if_pos z, if_pos z]; exact if_pos rfl
                · rw [if_neg z, if_neg z, uW_uW]; exact if_neg (fun y => Bool.noConfusion y)
              rw [e]
              by_cases z : 0 < N 6 0 0 2
              · rw [if_pos z]
                simp only [i32lt, t32_0] at z
                have ed : (N 6 0 0 2 - 1).toInt = (N 6 0 0 2).toInt - 1 := by rw [i32subn (by rw [t32_1]; omega) (by rw [t32_1]; have := h.1.2; omega), t32_1]
                show FrI s (clW N) ∧ FrT s (N 9) (clW N 9)
                have o9 := clW_9 N
                have o6 := clW_6 N
                generalize clW N = R at *
                refine ⟨⟨?_, fun k k0 k1 => ?_, fun z => ?_⟩, by rw [o9]; exact FrT.refl _ _⟩
                · rw [o6, u3_at]; have := h.1.2; omega
                · rw [o6, u3_at] at k1
                  rw [o9, o6, u3_ne _ _ _ (show ¬ 2 = 0 by decide), u3_ne _ _ _ (show ¬ 2 = 0 by decide)]
                  exact h.2.1 k k0 (by omega)
                · rw [o6, u3_s (by decide), u3_at] at z
                  exact absurd rfl z
              · rw [if_neg z]; exact ⟨h0, FrT.refl _ _⟩
end FRT
