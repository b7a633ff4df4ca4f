/-! READING: faults and trees of all texts, from call to call -/
section READ
variable {t t1 x m : Cm} {s : Int32} {M N : Wm}
theorem inT_o {s s2 i : Int32} (hs : vp_in s 8) (h2 : vp_in s2 8) (hn : ¬ s2 = s) (h0 : 0 ≤ i.toInt) (h1 : i.toInt ≤ 120) : ¬ inT s (Pl s2 i) := by
  intro z
  obtain ⟨j, hj, e⟩ := z
  have a := Pl_t h2 h0 h1
  have b := Pl_t hs hj.1 hj.2
  rw [e, b] at a
  apply hn
  rw [i32eq]; omega
theorem TreeOk.frT {s2 : Int32} {E : Int32 → Prop} (h : TreeOk t m s2 E) (hk : Ok12 m) (hs : vp_in s 8) (h2 : vp_in s2 8) (hn : ¬ s2 = s) (k : FrT s t t1) : TreeOk t1 m s2 E := by
  have t120 : (120 : Int32).toInt = 120 := by decide
  obtain ⟨⟨a1, a2⟩, b⟩ := h
  have c : ∀ i : Int32, 0 ≤ i.toInt → i.toInt ≤ 120 → _ := fun i h0 h1 => k (Pl s2 i) (inT_o hs h2 hn h0 h1)
  refine ⟨⟨a1, ?_⟩, fun i hi => ?_⟩
  · obtain ⟨_, _, q3, q4, _⟩ := c 120 (by rw [t120]; omega) (by rw [t120]; omega)
    unfold LsT at a2 ⊢
    rw [q3, q4]; exact a2
  · have B := b i hi
    have r := B.1.le hk h2
    obtain ⟨q1, q2, q3, q4, q6⟩ := c i r.1 r.2
    unfold NdT LsT at B ⊢
    rw [q1, q2, q3, q4, q6]; exact B
theorem begin_f (hs : vp_in s 8) : FrI s (f6_begin M (f9_rowOf s)) ∧ FrT s (M 9) (f6_begin M (f9_rowOf s) 9) := by
  have t120 : (120 : Int32).toInt = 120 := by decide
  have hP : inT s (Pl s 120) := ⟨120, by rw [t120]; omega, rfl⟩
  obtain ⟨f1, f2⟩ := make_f (t := M 9) 3 hs hP
  have e9 : f6_begin M (f9_rowOf s) 9 = f9_make (M 9) (Pl s 120) 3 := rfl
  have e6 : f6_begin M (f9_rowOf s) 6 = u3 (u3 (u3 (M 6) 2 0 0 (Pl s 120)) 0 0 2 0) 0 0 3 0 := rfl
  refine ⟨⟨?_, fun k k0 k1 => ?_, fun z => ?_⟩, by rw [e9]; exact f1⟩
  · rw [e6, u3_s (by decide), u3_at]; decide
  · rw [e6, u3_s (by decide), u3_at, t32_0] at k1
    have : k = 0 := by rw [i32eq, t32_0]; omega
    rw [this, e6, e9, u3_ne _ _ _ (show ¬ 2 = 0 by decide), u3_ne _ _ _ (show ¬ 2 = 0 by decide), u3_at, f2, if_pos rfl]
    exact ⟨hP, Or.inl rfl⟩
  · rw [e6, u3_at] at z; exact absurd rfl z
theorem fread_lp (hs : vp_in s 8) : ∀ (k : Nat) (p : Int32) (N : Wm), FrI s N → (N 8 2 0 s).toInt ≤ 120 → 0 ≤ p.toInt → FrT s (N 9) ((f8_faultRead_lp13 s (K8 s) k (p, N)).2 9) := by
  intro k
  induction k with
  | zero => intro p N _ _ _; exact FrT.refl _ _
  | succ k ih =>
    intro p N h hL h0
    rw [f8_faultRead_lp13_s]
    simp only [bnd_e]
    by_cases c : N 8 2 0 s ≤ p
    · rw [if_pos c]
      have e : (K8 s N).2 = N := by unfold K8; split <;> rfl
      show FrT s (N 9) ((K8 s N).2 9)
      rw [e]; exact FrT.refl _ _
    · rw [if_neg c]
      simp only [i32le] at c
      have e1 : (p + 1).toInt = p.toInt + 1 := inc_t h0 (by omega)
      obtain ⟨a, b⟩ := takes_f (N := N) (P := f9_placeOf s p) (f8_signAt (N 8) s p) hs h ⟨p, by omega, rfl⟩
      by_cases d : (f6_takesSign N (f9_placeOf s p) (f8_signAt (N 8) s p)).1 = true
      · rw [if_pos d]
        exact b.trans (ih (p + 1) _ a (by rw [takes_8]; exact hL) (by omega))
      · rw [if_neg d]; exact b
theorem fread_f (hs : vp_in s 8) (hL : (M 8 2 0 s).toInt ≤ 120) : FrT s (M 9) ((f8_faultRead M s).2 9) := by
  obtain ⟨a, b⟩ := begin_f (M := M) hs
  exact b.trans (fread_lp hs 122 0 (f6_begin M (f9_rowOf s)) a hL (by decide))
/-- what is known of texts, faults and trees between two calls -/
def RTx (t x m : Cm) : Prop := RelT x m ∧ (∀ s : Int32, vp_in s 8 → SgS m s) ∧ ∀ s : Int32, vp_in s 8 → ¬ x 4 0 s = 0 → x 3 0 s = f12_faultOf m s ∧ (f12_faultOf m s = -1 → TreeOk t m s (Bx m s))
theorem RTx.ft (h : RTx t x m) : FtK x m := ⟨h.1, fun s hs hz => (h.2.2 s hs hz).1⟩
theorem RTx.all (h : RTx t x m) (hz : ∀ s : Int32, vp_in s 8 → ¬ x 4 0 s = 0) : TextR t x m (Bx m) := fun s hs => ⟨⟨(h.2.2 s hs (hz s hs)).1, h.2.1 s hs⟩, (h.2.2 s hs (hz s hs)).2⟩
theorem RTx.read (hk : Ok12 m) (h : RTx (M 9) (M 8) m) (hs : vp_in s 8) : RTx ((f8_faultRead M s).2 9) (u3 (u3 (M 8) 3 0 s (f12_faultOf m s)) 4 0 s 1) m := by
  obtain ⟨h1, h2, h3⟩ := h
  have hL : (M 8 2 0 s).toInt ≤ 120 := by rw [(h1 s hs).1]; exact (hk.len s hs).2
  have F := fread_f (M := M) hs hL
  refine ⟨h1.fr (by rw [u3_ne _ _ _ (by decide), u3_ne _ _ _ (by decide)]) (by rw [u3_ne _ _ _ (by decide), u3_ne _ _ _ (by decide)]), h2, fun s2 hs2 hz => ?_⟩
  by_cases c : s2 = s
  · subst c
    refine ⟨by rw [u3_ne _ _ _ (by decide), u3_at], fun hf => tree_e hk hs h1 (h2 _ hs) hf⟩
  · rw [u3_j c, u3_ne _ _ _ (by decide)] at hz
    obtain ⟨a, b⟩ := h3 s2 hs2 hz
    refine ⟨by rw [u3_ne _ _ _ (by decide), u3_j c]; exact a, fun hf => (b hf).frT hk hs hs2 c F⟩
theorem changed_t (hk : Ok12 m) : ∀ (n : Nat) (i : Int32) (M : Wm), 0 ≤ i.toInt → i.toInt ≤ 8 → 8 - i.toInt < n → RTx (M 9) (M 8) m → (∀ j : Int32, 0 ≤ j.toInt → j.toInt < i.toInt → ¬ M 8 4 0 j = 0) → RTx (f8_readChanged_lp2 n (i, M) 9) (f8_readChanged_lp2 n (i, M) 8) m ∧ (∀ j : Int32, vp_in j 8 → ¬ f8_readChanged_lp2 n (i, M) 8 4 0 j = 0) ∧ ∀ c : Nat, ¬ c = 6 → ¬ c = 8 → ¬ c = 9 → f8_readChanged_lp2 n (i, M) c = M c := by
  intro n
  induction n with
  | zero => intro i M _ _ c; omega
  | succ n ih =>
    intro i M h0 h1 c hF hj
    have t8 : (8 : Int32).toInt = 8 := by decide
    rw [f8_readChanged_lp2_s]
    simp only [bnd_e, jn_e]
    by_cases c0 : 8 ≤ i
    · rw [if_pos c0]
      simp only [i32le, t8] at c0
      exact ⟨hF, fun j hv => hj j (by rw [vp_in_iff] at hv; omega) (by rw [vp_in_iff] at hv; omega), fun _ _ _ _ => rfl⟩
    · rw [if_neg c0]
      simp only [i32le, t8] at c0
      have e1 : (i + 1).toInt = i.toInt + 1 := inc_t h0 (by omega)
      have hv : vp_in i 8 := by rw [vp_in_iff]; omega
      by_cases c1 : M 8 4 0 i = 0
      · rw [if_pos c1]
        have fe := fault_e hF.1 (hF.2.1 i hv) hv hk
        have f8 := faultRead_8 M i
        have fo := fun (c : Nat) (a : ¬ c = 6) (b : ¬ c = 9) => (rdS_faultRead M i).1 c a b
        have R := RTx.read hk hF hv
        generalize f8_faultRead M i = r at fe f8 fo R
        have x8 : uW (uW r.2 8 (u3 (r.2 8) 3 0 i r.1)) 8 (u3 ((uW r.2 8 (u3 (r.2 8) 3 0 i r.1)) 8) 4 0 i 1) 8 = u3 (u3 (M 8) 3 0 i (f12_faultOf m i)) 4 0 i 1 := by
          show u3 (u3 (r.2 8) 3 0 i r.1) 4 0 i 1 = _
          rw [f8, fe]
        have x9 : uW (uW r.2 8 (u3 (r.2 8) 3 0 i r.1)) 8 (u3 ((uW r.2 8 (u3 (r.2 8) 3 0 i r.1)) 8) 4 0 i 1) 9 = r.2 9 := by
          rw [uW_ne _ _ (by decide), uW_ne _ _ (by decide)]
        have I := ih (i + 1) (uW (uW r.2 8 (u3 (r.2 8) 3 0 i r.1)) 8 (u3 ((uW r.2 8 (u3 (r.2 8) 3 0 i r.1)) 8) 4 0 i 1)) (by omega) (by omega) (by omega) (by
          rw [x8, x9]; exact R) (by
          intro j a b
          rw [x8]
          by_cases z : j = i
          · rw [z, u3_at]; decide
          · rw [u3_j z, u3_ne _ _ _ (by decide)]; exact hj j a (by rw [i32eq] at z; omega))
        refine ⟨I.1, I.2.1, fun k a b d => (I.2.2 k a b d).trans ?_⟩
        rw [uW_ne _ _ b, uW_ne _ _ b]; exact fo k a d
      · rw [if_neg c1]
        exact ih (i + 1) M (by omega) (by omega) (by omega) hF (fun j a b => by
          by_cases z : j = i
          · rw [z]; exact c1
          · exact hj j a (by rw [i32eq] at z; omega))
/-- all changed texts are read -/
theorem readAll_c (hk : Ok12 m) (h : RTx (M 9) (M 8) m) (hN : f8_readChanged M = N) : RTx (N 9) (N 8) m ∧ TextR (N 9) (N 8) m (Bx m) ∧ ∀ c : Nat, ¬ c = 6 → ¬ c = 8 → ¬ c = 9 → N c = M c := by
  have c := changed_t hk 9 0 M (by decide) (by decide) (by decide) h (fun j a b => by rw [t32_0] at b; omega)
  have e : f8_readChanged_lp2 9 (0, M) = N := hN
  rw [e] at c
  exact ⟨c.1, c.1.all c.2.1, c.2.2⟩
end READ
