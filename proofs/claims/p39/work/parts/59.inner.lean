/-! inner names: both find the same lists well -/
section INNER
variable {t m : Cm} {E : Int32 → Int32 → Prop} {s n0 : Int32}
/-- what inner names keep: part k is a name, and unlike those ahead of it -/
def InK (m : Cm) (s n0 : Int32) (k : Nat) : Prop := f12_isName m s (skp12 m s k n0) = true ∧ ∀ j : Nat, j < k → ¬ f12_nameAt m s (skp12 m s j n0) = f12_nameAt m s (skp12 m s k n0)
theorem skp_lt (hk : Ok12 m) (hs : vp_in s 8) (hX : Tx12 m s) (hN : Nx12 m s n0) : ∀ (j k : Nat), j < k → k < CN12 m s n0 → (skp12 m s j n0).toInt < (skp12 m s k n0).toInt := by
  intro j k
  induction k with
  | zero => intro h; omega
  | succ k ih =>
    intro h hc
    have nk : ¬ skp12 m s k n0 = -1 := fun z => by have := (skp_cn hk hs hX k n0 hN).mp z; omega
    have nk1 : ¬ skp12 m s (k + 1) n0 = -1 := fun z => by have := (skp_cn hk hs hX (k + 1) n0 hN).mp z; omega
    have hIx : ∀ j : Nat, Nx12 m s (skp12 m s j n0) := by
      intro j
      induction j with
      | zero => exact hN
      | succ j ih =>
        rw [skp_s]
        by_cases c : skp12 m s j n0 = -1
        · rw [if_pos c]; exact Or.inl rfl
        · rw [if_neg c]; exact following_n hk hs hX (ih.resolve_left c)
    have hI := (hIx k).resolve_left nk
    rw [skp_s, if_neg nk] at nk1 ⊢
    have f := (following_o hk hs hX hI).resolve_left nk1
    have hle := hI.le hk hs
    have e1 : (skp12 m s k n0 + 1).toInt = (skp12 m s k n0).toInt + 1 := inc_t hle.1 (by omega)
    have f1 := f.1
    by_cases c : j = k
    · subst c; omega
    · have := ih (by omega) (by omega); omega
theorem skp_ne (hk : Ok12 m) (hs : vp_in s 8) (hX : Tx12 m s) (hN : Nx12 m s n0) {j k : Nat} (h : j < k) (hc : k < CN12 m s n0) : ¬ skp12 m s j n0 = skp12 m s k n0 := fun z => by
  have := skp_lt hk hs hX hN j k h hc
  rw [z] at this; omega
theorem lp80_e (hk : Ok12 m) (hs : vp_in s 8) (hX : Tx12 m s) (hN : Nx12 m s n0) {K : Bool → Bool} {x9 : Int32 × Bool × Int32} {k : Nat} (h9 : x9.1 = skp12 m s k n0) (hc : k < CN12 m s n0) : ∀ (f j : Nat) (b : Bool), j ≤ k → k - j < f → ((b = true ∧ ∀ i : Nat, j ≤ i → i < k → ¬ f12_nameAt m s (skp12 m s i n0) = f12_nameAt m s (skp12 m s k n0)) → f12_isParts_lp80 m s x9 K f (skp12 m s j n0, b) = K true) ∧ (¬ (b = true ∧ ∀ i : Nat, j ≤ i → i < k → ¬ f12_nameAt m s (skp12 m s i n0) = f12_nameAt m s (skp12 m s k n0)) → f12_isParts_lp80 m s x9 K f (skp12 m s j n0, b) = K false) := by
  intro f
  induction f with
  | zero => intro j b h1 h2; omega
  | succ f ih =>
    intro j b h1 h2
    rw [f12_isParts_lp80_s]
    simp only [h9]
    by_cases c1 : j = k
    · subst c1
      rw [if_pos rfl]
      refine ⟨fun z => by rw [z.1], fun z => ?_⟩
      cases b with
      | false => rfl
      | true => exact absurd ⟨rfl, fun i a c => by omega⟩ z
    · have nj : ¬ skp12 m s j n0 = skp12 m s k n0 := skp_ne hk hs hX hN (by omega) hc
      rw [if_neg nj]
      have hj1 : ¬ skp12 m s j n0 = -1 := fun z => by have := (skp_cn hk hs hX j n0 hN).mp z; omega
      have ef : f12_following m s (skp12 m s j n0) = skp12 m s (j + 1) n0 := by rw [skp_s, if_neg hj1]
      cases b with
      | false =>
        refine ⟨fun z => absurd z.1 (by decide), fun _ => ?_⟩
        simp only [Bool.false_eq_true, if_false]
      | true =>
        simp only [if_true, bnd_e, jn, ef]
        by_cases c2 : f12_nameAt m s (skp12 m s j n0) = f12_nameAt m s (skp12 m s k n0)
        · rw [if_pos c2]
          refine ⟨fun z => absurd c2 (z.2 j (Nat.le_refl _) (by omega)), fun _ => ?_⟩
          exact (ih (j + 1) false (by omega) (by omega)).2 (fun z => absurd z.1 (by decide))
        · rw [if_neg c2]
          have I := ih (j + 1) true (by omega) (by omega)
          refine ⟨fun z => I.1 ⟨rfl, fun i a c => z.2 i (by omega) c⟩, fun z => I.2 (fun q => z ⟨trivial, fun i a c => ?_⟩)⟩
          by_cases c3 : i = j
          · rw [c3]; exact c2
          · exact q.2 i (by omega) c
theorem lp38_e (hk : Ok12 m) (hs : vp_in s 8) (hX : Tx12 m s) {a : Int32} (hn0 : f12_nextAt m s (a + 1) = n0) (hN : Nx12 m s n0) : ∀ (f k : Nat), k ≤ CN12 m s n0 → CN12 m s n0 - k < f → (f12_isParts_lp38 m s a f (skp12 m s k n0, true, nI k) = true ↔ ∀ i : Nat, k ≤ i → i < CN12 m s n0 → InK m s n0 i ∧ i < 3) := by
  intro f
  induction f with
  | zero => intro k h1 h2; omega
  | succ f ih =>
    intro k h1 h2
    have hlt := CN12_lt hk hs hX hN
    rw [f12_isParts_lp38_s]
    simp only []
    by_cases c1 : k = CN12 m s n0
    · have e : skp12 m s k n0 = -1 := (skp_cn hk hs hX k n0 hN).mpr (by omega)
      rw [if_pos e]
      exact ⟨fun _ i a b => by omega, fun _ => rfl⟩
    · have hj1 : ¬ skp12 m s k n0 = -1 := fun z => by have := (skp_cn hk hs hX k n0 hN).mp z; omega
      have ef : f12_following m s (skp12 m s k n0) = skp12 m s (k + 1) n0 := by rw [skp_s, if_neg hj1]
      rw [if_neg hj1]
      simp only [if_true, bnd_e, jn, hn0, ef]
      have e1 : (nI k : Int32) + 1 = nI (k + 1) := by
        rw [i32eq, inc_t (by rw [nI_toInt (by omega)]; omega) (by rw [nI_toInt (by omega)]; omega), nI_toInt (by omega), nI_toInt (by omega)]; omega
      have tk : (nI k : Int32).toInt = k := nI_toInt (by omega)
      have L := fun (b : Bool) => lp80_e (K := fun y30 => f12_isParts_lp38 m s a f (skp12 m s (k + 1) n0, y30, (nI k : Int32) + 1)) hk hs hX hN (x9 := (skp12 m s k n0, true, nI k)) rfl (by omega) 123 0 b (Nat.zero_le _) (by omega)
      have FF : f12_isParts_lp38 m s a f (skp12 m s (k + 1) n0, false, (nI k : Int32) + 1) = false := isParts_lp38_f _ _ _ _ _ _
      by_cases c2 : f12_isName m s (skp12 m s k n0) = true
      · rw [if_pos c2]
        by_cases c3 : k < 3
        · rw [if_neg (by simp only [i32le, t32_3]; omega)]
          by_cases c4 : ∀ i : Nat, 0 ≤ i → i < k → ¬ f12_nameAt m s (skp12 m s i n0) = f12_nameAt m s (skp12 m s k n0)
          · have e := (L true).1 ⟨rfl, c4⟩
            rw [show skp12 m s 0 n0 = n0 from rfl] at e
            rw [e, e1, ih (k + 1) (by omega) (by omega)]
            refine ⟨fun z i a b => ?_, fun z i a b => z i (by omega) b⟩
            by_cases c5 : i = k
            · subst c5; exact ⟨⟨c2, fun j hj => c4 j (Nat.zero_le _) hj⟩, c3⟩
            · exact z i (by omega) b
          · have e := (L true).2 (fun z => c4 z.2)
            rw [show skp12 m s 0 n0 = n0 from rfl] at e
            rw [e, FF]
            exact ⟨fun z => absurd z (by decide), fun z => absurd (fun i _ b => (z k (Nat.le_refl _) (by omega)).1.2 i b) c4⟩
        · rw [if_pos (by simp only [i32le, t32_3]; omega)]
          have e := (L false).2 (fun z => absurd z.1 (by decide))
          rw [show skp12 m s 0 n0 = n0 from rfl] at e
          rw [e, FF]
          exact ⟨fun z => absurd z (by decide), fun z => absurd (z k (Nat.le_refl _) (by omega)).2 c3⟩
      · rw [if_neg c2]
        have e := (L false).2 (fun z => absurd z.1 (by decide))
        rw [show skp12 m s 0 n0 = n0 from rfl] at e
        rw [e, FF]
        exact ⟨fun z => absurd z (by decide), fun z => absurd (z k (Nat.le_refl _) (by omega)).1.1 c2⟩
/-- the reference's inner lists -/
theorem isParts_e (hk : Ok12 m) (hs : vp_in s 8) (hX : Tx12 m s) {a : Int32} (hI : Ix12 m s a) : f12_isParts m s a = true ↔ f12_signAt m s a = 40 ∧ ∀ i : Nat, i < CN12 m s (f12_nextAt m s (a + 1)) → InK m s (f12_nextAt m s (a + 1)) i ∧ i < 3 := by
  have hN : Nx12 m s (f12_nextAt m s (a + 1)) := by
    have h1 := hI.1; have h2 := hI.2; have h3 := (hk.len _ hs).2
    exact nextAt_n hk hs (by rw [inc_t h1 (by omega)]; omega) (by rw [inc_t h1 (by omega)]; omega)
  have hlt := CN12_lt hk hs hX hN
  unfold f12_isParts
  simp only [bnd_e, jn]
  by_cases c : f12_signAt m s a = 40
  · rw [if_pos c]
    simp only [if_true]
    have := lp38_e hk hs hX rfl hN 123 0 (Nat.zero_le _) (by omega)
    rw [show skp12 m s 0 (f12_nextAt m s (a + 1)) = f12_nextAt m s (a + 1) from rfl, show (nI 0 : Int32) = 0 from rfl] at this
    rw [this]
    exact ⟨fun z => ⟨c, fun i b => z i (Nat.zero_le _) b⟩, fun z i _ b => z.2 i b⟩
  · rw [if_neg c]
    simp only [Bool.false_eq_true, if_false]
    rw [isParts_lp38_f]
    exact ⟨fun z => absurd z (by decide), fun z => absurd z.1 c⟩
/-- the class' inner lists -/
theorem areInner_e {M : Wm} (h9 : M 9 = t) (hk : Ok12 m) (hs : vp_in s 8) (hX : Tx12 m s) (hT : TreeOk t m s (E s)) {a : Int32} (hE : E s a) (h40 : f12_signAt m s a = 40) : f7_areInnerNames M (Pl s a) = true ↔ ∀ i : Nat, i < CN12 m s (f12_nextAt m s (a + 1)) → InK m s (f12_nextAt m s (a + 1)) i ∧ i < 3 := by
  have hND := hT.2 a hE
  have hle := hND.1.le hk hs
  obtain ⟨k3, hx, hLs⟩ := hND.2.2.2.1 h40
  have hN := hx.nx hT
  have hlt := CN12_lt hk hs hX hN
  obtain ⟨p1, p2, _⟩ := Pl_in hs hle.1 hle.2
  generalize f12_nextAt m s (a + 1) = n0 at hx hLs hN hlt ⊢
  have pt : ∀ k : Nat, f9_partOf t (Pl s a) (nI k) = Px s (skp12 m s k n0) ∨ ¬ k < 200 := by
    intro k
    by_cases c : k < 200
    · left
      have tk : (nI k : Int32).toInt = k := nI_toInt (by omega)
      rw [part_e hk hs hX hT hLs hx p1 p2 (by omega), tk]; rfl
    · exact Or.inr c
  have ptk : ∀ k : Nat, k < CN12 m s n0 → E s (skp12 m s k n0) ∧ f9_partOf t (Pl s a) (nI k) = Pl s (skp12 m s k n0) := by
    intro k hc
    have nk : ¬ skp12 m s k n0 = -1 := fun z => by have := (skp_cn hk hs hX k n0 hN).mp z; omega
    refine ⟨(skp_ex hT k n0 hx).resolve_left nk, ?_⟩
    rw [((pt k).resolve_right (by omega)), Px_e nk]
  have nm : ∀ k : Nat, k < CN12 m s n0 → (f9_kindOf t (Pl s (skp12 m s k n0)) = 2 ↔ f12_isName m s (skp12 m s k n0) = true) ∧ (f12_isName m s (skp12 m s k n0) = true → f9_contentOf t (Pl s (skp12 m s k n0)) = f12_nameAt m s (skp12 m s k n0)) := by
    intro k hc
    obtain ⟨e, _⟩ := ptk k hc
    have nd := hT.2 _ e
    have l := nd.1.le hk hs
    have is : f12_isName m s (skp12 m s k n0) = true ↔ f12_isLetter (f12_signAt m s (skp12 m s k n0)) = true := by
      unfold f12_isName
      rw [if_neg nd.1.ne]
      simp only [bnd_e]
      by_cases z : f12_isLetter (f12_signAt m s (skp12 m s k n0)) = true
      · rw [if_pos z]; exact ⟨fun _ => z, fun _ => rfl⟩
      · rw [if_neg z]; exact ⟨fun q => absurd q (by decide), fun q => absurd q z⟩
    rw [kind_e hs l.1 l.2, cont_e hs l.1 l.2]
    refine ⟨⟨fun z => ?_, fun z => (nd.2.2.2.2.1 (is.mp z)).1⟩, fun z => (nd.2.2.2.2.1 (is.mp z)).2⟩
    rw [is]
    by_cases c40 : f12_signAt m s (skp12 m s k n0) = 40
    · have := (nd.2.2.2.1 c40).1
      rw [this] at z; exact absurd z (by decide)
    · by_cases cl : f12_isLetter (f12_signAt m s (skp12 m s k n0)) = true
      · exact cl
      · have := (nd.2.2.2.2.2 c40 cl).1
        rw [this] at z; exact absurd z (by decide)
  have ep : f9_partsOf (M 9) (Pl s a) = nI (CN12 m s n0) := by
    rw [h9, parts_e hs hle.1 hle.2, i32eq, hLs.2, nI_toInt (by omega)]
  have tC : (nI (CN12 m s n0) : Int32).toInt = CN12 m s n0 := nI_toInt (by omega)
  have inner : ∀ (k : Nat), k < CN12 m s n0 → f12_isName m s (skp12 m s k n0) = true → (∀ j : Nat, j < k → f12_isName m s (skp12 m s j n0) = true) → ∀ (K : Unit → Bool) (f j : Nat), j ≤ k → k - j < f → ((∀ i : Nat, j ≤ i → i < k → ¬ f12_nameAt m s (skp12 m s i n0) = f12_nameAt m s (skp12 m s k n0)) → f7_areInnerNames_lp52 M (Pl s a) (nI k) (Pl s (skp12 m s k n0)) K f (nI j) = K ()) ∧ (¬ (∀ i : Nat, j ≤ i → i < k → ¬ f12_nameAt m s (skp12 m s i n0) = f12_nameAt m s (skp12 m s k n0)) → f7_areInnerNames_lp52 M (Pl s a) (nI k) (Pl s (skp12 m s k n0)) K f (nI j) = false) := by
    intro k hc hnk hnj K f
    induction f with
    | zero => intro j h1 h2; omega
    | succ f ih =>
      intro j h1 h2
      have tk : (nI k : Int32).toInt = k := nI_toInt (by omega)
      have tj : (nI j : Int32).toInt = j := nI_toInt (by omega)
      rw [f7_areInnerNames_lp52_s]
      by_cases c1 : j = k
      · subst c1
        rw [if_pos (Int32.le_refl _)]
        exact ⟨fun _ => rfl, fun z => absurd (fun i a b => by omega) z⟩
      · rw [if_neg (by simp only [i32le]; omega)]
        simp only [bnd_e]
        have hjk : j < k := by omega
        rw [h9, (ptk j (by omega)).2, (nm j (by omega)).2 (hnj j hjk), (nm k hc).2 hnk]
        have e1 : (nI j : Int32) + 1 = nI (j + 1) := by
          rw [i32eq, inc_t (by omega) (by omega), tj, nI_toInt (by omega)]; omega
        by_cases c2 : f12_nameAt m s (skp12 m s j n0) = f12_nameAt m s (skp12 m s k n0)
        · rw [if_pos c2]
          exact ⟨fun z => absurd c2 (z j (Nat.le_refl _) hjk), fun _ => rfl⟩
        · rw [if_neg c2, e1]
          have I := ih (j + 1) (by omega) (by omega)
          refine ⟨fun z => I.1 (fun i a b => z i (by omega) b), fun z => I.2 (fun q => z (fun i a b => ?_))⟩
          by_cases c3 : i = j
          · rw [c3]; exact c2
          · exact q i (by omega) b
  have outer : ∀ (f k : Nat), k ≤ CN12 m s n0 → CN12 m s n0 - k < f → CN12 m s n0 ≤ 3 → (∀ j : Nat, j < k → f12_isName m s (skp12 m s j n0) = true) → (f7_areInnerNames_lp18 M (Pl s a) (nI (CN12 m s n0)) f (nI k) = true ↔ ∀ i : Nat, k ≤ i → i < CN12 m s n0 → InK m s n0 i) := by
    intro f
    induction f with
    | zero => intro k h1 h2; omega
    | succ f ih =>
      intro k h1 h2 h3 hnj
      have tk : (nI k : Int32).toInt = k := nI_toInt (by omega)
      rw [f7_areInnerNames_lp18_s]
      by_cases c1 : k = CN12 m s n0
      · rw [if_pos (by simp only [i32le]; omega)]
        exact ⟨fun _ i a b => by omega, fun _ => rfl⟩
      · rw [if_neg (by simp only [i32le]; omega)]
        have hc : k < CN12 m s n0 := by omega
        simp only [bnd_e, jn]
        rw [h9, (ptk k hc).2]
        have e1 : (nI k : Int32) + 1 = nI (k + 1) := by
          rw [i32eq, inc_t (by omega) (by omega), tk, nI_toInt (by omega)]; omega
        by_cases c2 : f12_isName m s (skp12 m s k n0) = true
        · rw [if_pos ((nm k hc).1.mpr c2)]
          have In := inner k hc c2 hnj (fun _ => f7_areInnerNames_lp18 M (Pl s a) (nI (CN12 m s n0)) f (nI k + 1)) 5 0 (Nat.zero_le _) (by omega)
          rw [show (nI 0 : Int32) = 0 from rfl] at In
          by_cases c3 : ∀ i : Nat, 0 ≤ i → i < k → ¬ f12_nameAt m s (skp12 m s i n0) = f12_nameAt m s (skp12 m s k n0)
          · rw [In.1 c3, e1, ih (k + 1) (by omega) (by omega) h3 (fun j hj => by
              by_cases c : j = k
              · rw [c]; exact c2
              · exact hnj j (by omega))]
            refine ⟨fun z i a b => ?_, fun z i a b => z i (by omega) b⟩
            by_cases c : i = k
            · subst c; exact ⟨c2, fun j hj => c3 j (Nat.zero_le _) hj⟩
            · exact z i (by omega) b
          · rw [In.2 c3]
            exact ⟨fun z => absurd z (by decide), fun z => absurd (fun i _ b => (z k (Nat.le_refl _) hc).2 i b) c3⟩
        · rw [if_neg (fun z => c2 ((nm k hc).1.mp z))]
          exact ⟨fun z => absurd z (by decide), fun z => absurd (z k (Nat.le_refl _) hc).1 c2⟩
  unfold f7_areInnerNames
  simp only [bnd_e]
  rw [ep]
  by_cases c : CN12 m s n0 ≤ 3
  · rw [if_pos (by simp only [i32le, t32_3]; omega)]
    have := outer 5 0 (Nat.zero_le _) (by omega) c (fun j hj => by omega)
    rw [show (nI 0 : Int32) = 0 from rfl] at this
    rw [this]
    exact ⟨fun z i b => ⟨z i (Nat.zero_le _) b, by omega⟩, fun z i _ b => (z i b).1⟩
  · rw [if_neg (by simp only [i32le, t32_3]; omega)]
    exact ⟨fun z => absurd z (by decide), fun z => absurd (z 3 (by omega)).2 (by omega)⟩
end INNER
