/-! the forms: both take the same lists -/
section OPS
variable {t x8 : Cm} {E : Int32 → Int32 → Prop} {L : Int} {w : Int32} {VA : Wm → Int32 → Int32 → Int32 × Wm} {M0 M : Wm} {m0 m1 : Cm} {d s P first : Int32}
theorem name_k (hL : LsC t E m0 s P first) {i : Int32} (hE : E s i) : f9_kindOf t (Pl s i) = 2 ↔ f12_isName m0 s i = true := by
  refine ⟨fun z => ?_, fun z => (letter_e hL hE z).2.2⟩
  have nd := hL.1.2.2.1.2 _ hE
  have l := (hL.ix hE).le hL.1.2.2.2.2 hL.1.1
  rw [kind_e hL.1.1 l.1 l.2] at z
  by_cases c40 : f12_signAt m0 s i = 40
  · have := (nd.2.2.2.1 c40).1
    rw [this] at z; exact absurd z (by decide)
  · by_cases cl : f12_isLetter (f12_signAt m0 s i) = true
    · unfold f12_isName
      rw [if_neg nd.1.ne]
      simp only [bnd_e]
      rw [if_pos cl]
    · have := (nd.2.2.2.2.2 c40 cl).1
      rw [this] at z; exact absurd z (by decide)
theorem list_k (hL : LsC t E m0 s P first) {i : Int32} (hE : E s i) : f9_kindOf t (Pl s i) = 3 ↔ f12_signAt m0 s i = 40 := by
  have nd := hL.1.2.2.1.2 _ hE
  have l := (hL.ix hE).le hL.1.2.2.2.2 hL.1.1
  rw [kind_e hL.1.1 l.1 l.2]
  refine ⟨fun z => ?_, fun z => (nd.2.2.2.1 z).1⟩
  by_cases c40 : f12_signAt m0 s i = 40
  · exact c40
  · by_cases cl : f12_isLetter (f12_signAt m0 s i) = true
    · have := (nd.2.2.2.2.1 cl).1
      rw [this] at z; exact absurd z (by decide)
    · have := (nd.2.2.2.2.2 c40 cl).1
      rw [this] at z; exact absurd z (by decide)
theorem suits_x (h9 : M 9 = t) (hL : LsC t E m0 s P first) {i : Int32} (hE : E s i) : f7_suits M (Pl s i) 120 = true ↔ f12_isName m0 s i = true := by
  have k := name_k hL hE
  have e : f7_suits M (Pl s i) 120 = if f9_kindOf (M 9) (Pl s i) = 2 then true else false := rfl
  rw [e, h9]
  by_cases c : f9_kindOf t (Pl s i) = 2
  · rw [if_pos c]; exact ⟨fun _ => k.mp c, fun _ => rfl⟩
  · rw [if_neg c]; exact ⟨fun z => absurd z (by decide), fun z => absurd (k.mpr z) c⟩
theorem suits_l (h9 : M 9 = t) (hL : LsC t E m0 s P first) {i : Int32} (hE : E s i) : f7_suits M (Pl s i) 108 = true ↔ f12_signAt m0 s i = 40 := by
  have k := list_k hL hE
  have e : f7_suits M (Pl s i) 108 = if f9_kindOf (M 9) (Pl s i) = 3 then true else false := rfl
  rw [e, h9]
  by_cases c : f9_kindOf t (Pl s i) = 3
  · rw [if_pos c]; exact ⟨fun _ => k.mp c, fun _ => rfl⟩
  · rw [if_neg c]; exact ⟨fun z => absurd z (by decide), fun z => absurd (k.mpr z) c⟩
theorem goodAt_e {i : Int32} : f12_goodAt m0 s i = if f12_isName m0 s i = true then f10_goodOf (f12_nameAt m0 s i) else -1 := by
  unfold f12_goodAt f10_goodOf
  simp only [bnd_e, jn]
  by_cases c : f12_isName m0 s i = true
  · rw [if_pos c, if_pos c]
    unfold f12_in
    by_cases c1 : f12_nameAt m0 s i < 1
    · rw [if_pos c1, if_pos c1]; rfl
    · rw [if_neg c1, if_neg c1]
      by_cases c2 : 8 < f12_nameAt m0 s i
      · rw [if_pos c2, if_pos c2]; rfl
      · rw [if_neg c2, if_neg c2]; rfl
  · rw [if_neg c, if_neg c]; rfl
theorem suits_g (h9 : M 9 = t) (hL : LsC t E m0 s P first) {i : Int32} (hE : E s i) : f7_suits M (Pl s i) 103 = true ↔ ¬ f12_goodAt m0 s i = -1 := by
  have k := name_k hL hE
  have e : f7_suits M (Pl s i) 103 = if f9_kindOf (M 9) (Pl s i) = 2 then (if f10_goodOf (f9_contentOf (M 9) (Pl s i)) = -1 then false else true) else false := rfl
  rw [e, h9, goodAt_e]
  by_cases c : f9_kindOf t (Pl s i) = 2
  · have c' := k.mp c
    rw [if_pos c, if_pos c', (letter_e hL hE c').2.1]
    by_cases z : f10_goodOf (f12_nameAt m0 s i) = -1
    · rw [if_pos z]; exact ⟨fun q => absurd q (by decide), fun q => absurd z q⟩
    · rw [if_neg z]; exact ⟨fun _ => z, fun _ => rfl⟩
  · rw [if_neg c, if_neg (fun z => c (k.mpr z))]; exact ⟨fun z => absurd z (by decide), fun z => absurd rfl z⟩
/-- how many a word takes -/
theorem allows_e {op : Int32} {n : Nat} (ho : vp_in op 26) (hn : n < 123) : f10_allows op (nI n) = true ↔ ((stLen (wdForm op) : Nat) ≤ n ∧ (wdOn op = 0 → n = stLen (wdForm op))) := by
  have hl : stLen (wdForm op) < 4 := by
    refine in26 (P := fun op => stLen (wdForm op) < 4) ?_ ho
    decide +kernel
  unfold f10_allows fstrLen
  have tn : (nI n : Int32).toInt = n := nI_toInt (by omega)
  have tl : (nI (stLen (wdForm op)) : Int32).toInt = stLen (wdForm op) := nI_toInt (by omega)
  by_cases c1 : nI n = nI (stLen (wdForm op))
  · rw [if_pos c1]
    rw [i32eq, tn, tl] at c1
    exact ⟨fun _ => ⟨by omega, fun _ => by omega⟩, fun _ => rfl⟩
  · rw [if_neg c1]
    rw [i32eq, tn, tl] at c1
    by_cases c2 : wdOn op = 0
    · rw [if_pos c2]
      exact ⟨fun z => absurd z (by decide), fun z => absurd (z.2 c2) (by omega)⟩
    · rw [if_neg c2]
      by_cases c3 : nI n ≤ nI (stLen (wdForm op))
      · rw [if_pos c3]
        simp only [i32le, tn, tl] at c3
        exact ⟨fun z => absurd z (by decide), fun z => absurd z.1 (by omega)⟩
      · rw [if_neg c3]
        simp only [i32le, tn, tl] at c3
        exact ⟨fun _ => ⟨by omega, fun z => absurd z c2⟩, fun _ => rfl⟩
/-- the rows of forms, word by word -/
def fmB (M : Wm) (op x : Int32) : Bool := if op = 15 ∨ op = 16 then (if f7_suits M x 120 = true then true else false) else if op = 17 then (if f7_suits M x 120 = true then (if f7_suits M (f9_nextOf (M 9) x) 108 = true then true else false) else false) else if op = 18 ∨ op = 19 then (if f7_suits M x 103 = true then true else false) else if op = 20 then (if f7_suits M (f9_nextOf (M 9) x) 103 = true then true else false) else true
theorem fits_lp {op x : Int32} (ho : vp_in op 26) : f7_fits_lp32 M op 5 (0, x) = fmB M op x := by
  refine in26 (P := fun op => f7_fits_lp32 M op 5 (0, x) = fmB M op x) (fun k hk => ?_) ho
  have : k = 0 ∨ k = 1 ∨ k = 2 ∨ k = 3 ∨ k = 4 ∨ k = 5 ∨ k = 6 ∨ k = 7 ∨ k = 8 ∨ k = 9 ∨ k = 10 ∨ k = 11 ∨ k = 12 ∨ k = 13 ∨ k = 14 ∨ k = 15 ∨ k = 16 ∨ k = 17 ∨ k = 18 ∨ k = 19 ∨ k = 20 ∨ k = 21 ∨ k = 22 ∨ k = 23 ∨ k = 24 ∨ k = 25 := by omega
  rcases this with z | z | z | z | z | z | z | z | z | z | z | z | z | z | z | z | z | z | z | z | z | z | z | z | z | z <;> subst z <;> rfl
end OPS
section OPS
variable {t x8 : Cm} {E : Int32 → Int32 → Prop} {L : Int} {w : Int32} {VA : Wm → Int32 → Int32 → Int32 × Wm} {M0 M : Wm} {m0 m1 : Cm} {d s P first : Int32}
theorem bool_e {a b : Bool} (h : a = true ↔ b = true) : a = b := by
  cases a <;> cases b
  · rfl
  · exact absurd (h.mpr rfl) (by decide)
  · exact absurd (h.mp rfl) (by decide)
  · rfl
theorem tf_e (b : Bool) : (if b = true then true else false) = b := by cases b <;> rfl
theorem lst_e {op : Int32} (ho : vp_in op 26) : (lst12 op).toInt = (stLen (wdForm op) : Int) ∧ (mst12 op).toInt = (if wdOn op = 0 then (stLen (wdForm op) : Int) else 99) := by
  refine in26 (P := fun op => (lst12 op).toInt = (stLen (wdForm op) : Int) ∧ (mst12 op).toInt = (if wdOn op = 0 then (stLen (wdForm op) : Int) else 99)) ?_ ho
  decide +kernel
/-- how many parts a list has beside its name -/
theorem parts1 (hL : LsC t E m0 s P first) : f9_partsOf t P - 1 = nI (CN12 m0 s first) ∧ CN12 m0 s first < 123 := by
  have hlt := CN12_lt hL.1.2.2.2.2 hL.1.1 hL.1.2.2.2.1 (hL.2.2.2.nx hL.1.2.2.1)
  refine ⟨?_, hlt⟩
  have e := hL.2.2.1
  rw [i32eq, nI_toInt (by omega), i32subn (by rw [e, t32_1]; omega) (by rw [e, t32_1]; omega), e, t32_1]; omega
/-- the counts of both -/
theorem count_e {op : Int32} {m' : Cm} (ho : vp_in op 26) (hL : LsC t E m0 s P first) (h99 : CN12 m0 s first ≤ 99) (e2 : m' 2 = m0 2 ∧ m' 3 = m0 3) (hC : Ct12 m') : f10_allows op (nI (CN12 m0 s first)) = true ↔ (¬ f12_countFrom m' s first < m' 29 0 op ∧ f12_countFrom m' s first ≤ m' 30 0 op) := by
  have hlt := (parts1 hL).2
  rw [allows_e ho hlt, (hC op ho).2.1, (hC op ho).2.2]
  have ec : (f12_countFrom m' s first).toInt = (CN12 m0 s first : Int) := by
    rw [countFrom_fr e2]; exact countFrom_eq hL.1.2.2.2.2 hL.1.1 hL.1.2.2.2.1 (hL.2.2.2.nx hL.1.2.2.1)
  obtain ⟨l1, l2⟩ := lst_e ho
  simp only [i32lt, i32le, ec, l1, l2]
  by_cases c : wdOn op = 0
  · rw [if_pos c]
    exact ⟨fun z => by have := z.2 c; omega, fun z => ⟨by omega, fun _ => by omega⟩⟩
  · rw [if_neg c]
    exact ⟨fun z => by omega, fun z => ⟨by omega, fun q => absurd q c⟩⟩
theorem formed_e {op fn : Int32} {m' : Cm} (ho : vp_in op 26) (h9 : M 9 = t) (hL : LsC t E m0 s P first) (h99 : CN12 m0 s first ≤ 99) (e2 : m' 2 = m0 2 ∧ m' 3 = m0 3) (e60 : m' 0 0 60 = s) (hC : Ct12 m') (h17 : ¬ op = 17) : f7_fits M P op = f12_isFormed m' op fn first := by
  have C := count_e ho hL h99 e2 hC
  have h26 : ¬ op = 26 := by intro z; rw [z, vp_in_iff] at ho; exact absurd ho (by decide)
  obtain ⟨p1, p2⟩ := parts1 hL
  unfold f7_fits f12_isFormed
  simp only [bnd_e]
  rw [h9, p1, e60, if_neg h26]
  by_cases c : f10_allows op (nI (CN12 m0 s first)) = true
  · obtain ⟨c1, c2⟩ := C.mp c
    rw [if_pos c, if_neg c1, if_pos c2, fits_lp ho]
    have hc := (allows_e ho p2).mp c
    have one : (9 ≤ op.toInt ∧ op.toInt ≤ 20) → E s first ∧ f9_partOf t P 1 = Pl s first := by
      intro z
      have l := lst12_1 ho (by intro z'; subst z'; simp only [t32_24] at z; omega) (by intro z'; subst z'; simp only [t32_25] at z; omega)
      have l' := (lst_e ho).1
      have : 1 ≤ CN12 m0 s first := by omega
      exact ⟨hL.e 0 (by omega), hL.p 0 (by omega) 1 (by decide)⟩
    unfold fmB
    by_cases c15 : op = 15 ∨ op = 16
    · have o := one (by rcases c15 with z | z <;> subst z <;> decide)
      rw [if_pos c15, tf_e, o.2, bool_e (suits_x h9 hL o.1), ← isName_fr e2]
      rcases c15 with z | z <;> subst z
      · rw [if_pos rfl]
      · rw [if_neg (by decide), if_pos rfl]
    · have n15 : ¬ op = 15 := fun z => c15 (Or.inl z)
      have n16 : ¬ op = 16 := fun z => c15 (Or.inr z)
      rw [if_neg c15, if_neg h17, if_neg n15, if_neg n16]
      by_cases c18 : op = 18 ∨ op = 19
      · have o := one (by rcases c18 with z | z <;> subst z <;> decide)
        have g : (if f12_goodAt m' s first = -1 then false else true) = f7_suits M (Pl s first) 103 := by
          rw [goodAt_fr e2]
          by_cases z : f12_goodAt m0 s first = -1
          · rw [if_pos z]
            cases hb : f7_suits M (Pl s first) 103 with
            | false => rfl
            | true => exact absurd z ((suits_g h9 hL o.1).mp hb)
          · rw [if_neg z]; exact ((suits_g h9 hL o.1).mpr z).symm
        rw [if_pos c18, tf_e, o.2, g]
        rcases c18 with z | z <;> subst z
        · rw [if_pos rfl]
        · rw [if_neg (by decide), if_pos rfl]
      · have n18 : ¬ op = 18 := fun z => c18 (Or.inl z)
        have n19 : ¬ op = 19 := fun z => c18 (Or.inr z)
        rw [if_neg c18, if_neg n18, if_neg n19]
        by_cases c20 : op = 20
        · subst c20
          have o := one (by decide)
          have l3 : 2 ≤ CN12 m0 s first := by have := hc.1; rw [show stLen (wdForm 20) = 3 by decide] at this; omega
          have E2 := hL.e 1 (by omega)
          have f2 := hL.e2 (by omega)
          rw [f2] at E2
          have le := (hL.ix o.1).le hL.1.2.2.2.2 hL.1.1
          have nx : f9_nextOf (M 9) (Pl s first) = Pl s (f12_following m0 s first) := by
            rw [h9, next_e hL.1.1 le.1 le.2, (hL.1.2.2.1.2 _ o.1).2.2.1, Px_e (hL.ix E2).ne]
          rw [if_pos rfl, if_pos rfl, tf_e, o.2, nx, following_fr e2, goodAt_fr e2]
          by_cases z : f12_goodAt m0 s (f12_following m0 s first) = -1
          · rw [if_pos z]
            cases hb : f7_suits M (Pl s (f12_following m0 s first)) 103 with
            | false => rfl
            | true => exact absurd z ((suits_g h9 hL E2).mp hb)
          · rw [if_neg z]; exact (suits_g h9 hL E2).mpr z
        · rw [if_neg c20, if_neg c20, if_neg h17]
  · rw [if_neg c]
    by_cases c1 : f12_countFrom m' s first < m' 29 0 op
    · rw [if_pos c1]
    · rw [if_neg c1, if_neg (fun z => c (C.mpr ⟨c1, z⟩))]
theorem of_neg (x : Int32) : f10_of x < 0 ↔ f10_of x = -1 := by
  rcases of_last (x := x) with ⟨a, _⟩ | ⟨a, b, _⟩
  · rw [a]; exact ⟨fun _ => rfl, fun _ => by decide⟩
  · refine ⟨fun z => ?_, fun z => ?_⟩
    · simp only [i32lt, t32_0] at z; omega
    · rw [z] at a; exact absurd a (by decide)
theorem skp_fr {m m' : Cm} (h : m' 2 = m 2 ∧ m' 3 = m 3) (s : Int32) : ∀ (k : Nat) (n : Int32), skp12 m' s k n = skp12 m s k n := by
  intro k
  induction k with
  | zero => intro n; rfl
  | succ k ih => intro n; rw [skp_s, skp_s, ih n, following_fr h]
theorem isParts_fr2 {m m' : Cm} {a : Int32} (hk : Ok12 m) (hk' : Ok12 m') (hs : vp_in s 8) (hX : Tx12 m s) (e2 : m' 2 = m 2 ∧ m' 3 = m 3) (hI : Ix12 m s a) : f12_isParts m' s a = f12_isParts m s a := by
  have A := isParts_e hk hs hX hI
  have B := isParts_e hk' hs (hX.fr e2) (hI.fr e2)
  apply bool_e
  rw [A, B]
  unfold InK
  simp only [signAt_fr e2, nextAt_fr e2, CN12_fr e2, skp_fr e2, isName_fr e2, nameAt_fr e2]
/-- def: what the class finds late -/
theorem def_e {fn : Int32} {m' : Cm} (h9 : M 9 = t) (hL : LsC t E m0 s P first) (h99 : CN12 m0 s first ≤ 99) (e2 : m' 2 = m0 2 ∧ m' 3 = m0 3) (e60 : m' 0 0 60 = s) (hC : Ct12 m') (hk' : Ok12 m') : (f12_isFormed m' 17 fn first = true → f7_fits M P 17 = true) ∧ (¬ f12_isFormed m' 17 fn first = true → ¬ f7_fits M P 17 = true ∨ f7_define M P = (0, uW M 7 (u3 (M 7) 0 0 10 4))) := by
  have ho : vp_in 17 26 := by rw [vp_in_iff]; decide
  have C := count_e ho hL h99 e2 hC
  obtain ⟨p1, p2⟩ := parts1 hL
  have hk0 := hL.1.2.2.2.2
  have hX := hL.1.2.2.2.1
  have hT := hL.1.2.2.1
  have hs := hL.1.1
  by_cases c : f10_allows 17 (nI (CN12 m0 s first)) = true
  · obtain ⟨c1, c2⟩ := C.mp c
    have hc := (allows_e ho p2).mp c
    have l2 : CN12 m0 s first = 3 := by have := hc.2 (by decide); rw [show stLen (wdForm 17) = 3 by decide] at this; exact this
    have E1 : E s first := hL.e 0 (by omega)
    have P1 : f9_partOf t P 1 = Pl s first := hL.p 0 (by omega) 1 (by decide)
    have E2 := hL.e 1 (by omega)
    have P2 := hL.p 1 (by omega) 2 (by decide)
    have f2 := hL.e2 (by omega)
    rw [f2] at E2 P2
    have le := (hL.ix E1).le hk0 hs
    have nx : f9_nextOf t (Pl s first) = Pl s (f12_following m0 s first) := by
      rw [next_e hs le.1 le.2, (hT.2 _ E1).2.2.1, Px_e (hL.ix E2).ne]
    have ff : f7_fits M P 17 = (if f7_suits M (Pl s first) 120 = true then (if f7_suits M (Pl s (f12_following m0 s first)) 108 = true then true else false) else false) := by
      unfold f7_fits
      simp only [bnd_e]
      rw [h9, p1, if_pos c, fits_lp ho, P1]
      unfold fmB
      rw [h9, nx]
      rfl
    have fo : f12_isFormed m' 17 fn first = (if f12_isName m0 s first = true then (if f12_opOf m' (f12_nameAt m0 s first) = -1 then (if f12_goodAt m0 s first = -1 then (if f12_isParts m0 s (f12_following m0 s first) = true then true else false) else false) else false) else false) := by
      unfold f12_isFormed
      simp only [bnd_e, jn]
      rw [e60, if_neg (show ¬ (17 : Int32) = 26 by decide), if_neg c1, if_pos c2, if_neg (show ¬ (17 : Int32) = 15 by decide), if_neg (show ¬ (17 : Int32) = 16 by decide), if_neg (show ¬ (17 : Int32) = 18 by decide), if_neg (show ¬ (17 : Int32) = 19 by decide), if_neg (show ¬ (17 : Int32) = 20 by decide), if_pos trivial, isName_fr e2, nameAt_fr e2, goodAt_fr e2, following_fr e2, isParts_fr2 hk0 hk' hs hX e2 (hL.ix E2)]
      by_cases d1 : f12_isName m0 s first = true
      · rw [if_pos d1, if_pos d1]
        by_cases d2 : f12_opOf m' (f12_nameAt m0 s first) = -1
        · rw [if_pos d2, if_pos d2]
          by_cases d3 : f12_goodAt m0 s first = -1
          · rw [if_pos d3, if_pos d3]; simp only [if_true]
          · rw [if_neg d3, if_neg d3]; simp only [Bool.false_eq_true, if_false]
        · rw [if_neg d2, if_neg d2]; simp only [Bool.false_eq_true, if_false]
      · rw [if_neg d1, if_neg d1]; simp only [Bool.false_eq_true, if_false]
    rw [ff, fo]
    have sx := suits_x h9 hL E1
    have sl := suits_l h9 hL E2
    have ip := isParts_e hk0 hs hX (hL.ix E2)
    by_cases d1 : f12_isName m0 s first = true
    · rw [if_pos d1, if_pos (sx.mpr d1)]
      have le1 := letter_e hL E1 d1
      by_cases d4 : f12_signAt m0 s (f12_following m0 s first) = 40
      · rw [if_pos (sl.mpr d4)]
        refine ⟨fun _ => rfl, fun z => Or.inr ?_⟩
        have ai := areInner_e (M := M) h9 hk0 hs hX hT E2 d4
        unfold f7_define
        simp only [bnd_e]
        rw [h9, P1, le1.2.1]
        have op : f12_opOf m' (f12_nameAt m0 s first) = f10_of (f12_nameAt m0 s first) := opOf_of hC _
        by_cases d2 : f12_opOf m' (f12_nameAt m0 s first) = -1
        · rw [if_pos ((of_neg _).mpr (by rw [← op]; exact d2))]
          rw [if_pos d2] at z
          by_cases d3 : f12_goodAt m0 s first = -1
          · rw [if_pos d3] at z
            have g := d3
            rw [goodAt_e, if_pos d1] at g
            rw [if_pos g, P2]
            by_cases d5 : f12_isParts m0 s (f12_following m0 s first) = true
            · rw [if_pos d5] at z; exact absurd rfl z
            · have nai : ¬ f7_areInnerNames M (Pl s (f12_following m0 s first)) = true := fun q => d5 (ip.mpr ⟨d4, ai.mp q⟩)
              rw [if_neg nai]; rfl
          · have g := d3
            rw [goodAt_e, if_pos d1] at g
            rw [if_neg g]; rfl
        · rw [if_neg (fun q => d2 (by rw [op]; exact (of_neg _).mp q))]; rfl
      · rw [if_neg (fun q => d4 (sl.mp q))]
        have nip : ¬ f12_isParts m0 s (f12_following m0 s first) = true := fun q => d4 (ip.mp q).1
        refine ⟨fun z => ?_, fun _ => Or.inl (by decide)⟩
        exfalso
        by_cases d2 : f12_opOf m' (f12_nameAt m0 s first) = -1
        · rw [if_pos d2] at z
          by_cases d3 : f12_goodAt m0 s first = -1
          · rw [if_pos d3, if_neg nip] at z; exact absurd z (by decide)
          · rw [if_neg d3] at z; exact absurd z (by decide)
        · rw [if_neg d2] at z; exact absurd z (by decide)
    · rw [if_neg d1, if_neg (fun q => d1 (sx.mp q))]
      exact ⟨fun z => absurd z (by decide), fun _ => Or.inl (by decide)⟩
  · have nf : ¬ f7_fits M P 17 = true := by
      unfold f7_fits
      simp only [bnd_e]
      rw [h9, p1, if_neg c]; decide
    refine ⟨fun z => ?_, fun _ => Or.inl nf⟩
    exfalso
    unfold f12_isFormed at z
    simp only [bnd_e] at z
    rw [e60, if_neg (show ¬ (17 : Int32) = 26 by decide)] at z
    by_cases c1 : f12_countFrom m' s first < m' 29 0 17
    · rw [if_pos c1] at z; exact absurd z (by decide)
    · rw [if_neg c1, if_neg (fun q => c (C.mpr ⟨c1, q⟩))] at z; exact absurd z (by decide)
end OPS
