/-! functions -/
section OPS
variable {t x8 : Cm} {E : Int32 → Int32 → Prop} {L : Int} {w : Int32} {VA : Wm → Int32 → Int32 → Int32 × Wm} {M0 M : Wm} {m0 m1 : Cm} {d s P first : Int32}
def bR (nm vl : Nat → Int32) : Nat → Cm → Cm
  | 0, m => m
  | k + 1, m => f12_bind (bR nm vl k m) (nm k) (vl k)
def bC (nm vl : Nat → Int32) : Nat → Cm → Cm
  | 0, n => n
  | k + 1, n => f2_bind (bC nm vl k n) (nm k) (vl k)
theorem bR_g (nm vl : Nat → Int32) : ∀ (k : Nat) (m : Cm), NO m (bR nm vl k m) := by
  intro k
  induction k with
  | zero => intro m; exact NO.refl m
  | succ k ih => intro m; exact (ih m).trans (NO.bind _ _ _)
theorem bC_c (nm vl : Nat → Int32) : ∀ (k : Nat) (n : Cm), 0 ≤ (n 0 0 2).toInt → (n 0 0 2).toInt + k ≤ 90 → (bC nm vl k n 0 0 2).toInt = (n 0 0 2).toInt + k ∧ bC nm vl k n 0 0 3 = n 0 0 3 := by
  intro k
  induction k with
  | zero => intro n _ _; exact ⟨by show (n 0 0 2).toInt = _; omega, rfl⟩
  | succ k ih =>
    intro n h0 h
    obtain ⟨a, b⟩ := ih n h0 (by omega)
    unfold bC
    rw [f2_bind_e (by omega)]
    refine ⟨?_, b⟩
    show (bC nm vl k n 0 0 2 + 1).toInt = _
    rw [inc_t (by omega) (by omega)]; omega
theorem Mid.binds (nm vl : Nat → Int32) {n : Cm} {m : Cm} (hM : Mid t x8 E L w M0 m0 d (uW M 2 n) m) : ∀ k : Nat, (n 0 0 2).toInt + k ≤ 90 → Mid t x8 E L w M0 m0 d (uW M 2 (bC nm vl k n)) (bR nm vl k m) := by
  have h0 : 0 ≤ (n 0 0 2).toInt := by
    have := hM.2.1.1
    have a := this.2.2.1; have b := this.2.2.2.1
    have e : (uW M 2 n) 2 = n := uW_22 M n
    rw [e] at a b; omega
  intro k
  induction k with
  | zero => intro _; exact hM
  | succ k ih =>
    intro h
    have I := ih (by omega)
    have := I.bind (x := nm k) (v := vl k) (by rw [uW_22, (bC_c nm vl k n h0 (by omega)).1]; omega)
    rw [uW_uW, uW_22] at this
    exact this
def fnT (VA : Wm → Int32 → Int32 → Int32 × Wm) (N : Wm) (r1 r3 d p q r : Int32) : Int32 × Wm :=
  ((f7_valueOfPart VA (f7_bindInner (f7_bindInner (f7_bindInner (uW N 2 (f2_enter (N 2)).2) r3 0 p) r3 1 q) r3 2 r) r1 3 d).1, uW (f7_valueOfPart VA (f7_bindInner (f7_bindInner (f7_bindInner (uW N 2 (f2_enter (N 2)).2) r3 0 p) r3 1 q) r3 2 r) r1 3 d).2 2 (f2_leave ((f7_valueOfPart VA (f7_bindInner (f7_bindInner (f7_bindInner (uW N 2 (f2_enter (N 2)).2) r3 0 p) r3 1 q) r3 2 r) r1 3 d).2 2) (f2_enter (N 2)).1))
theorem bindInner_u (N : Wm) (n : Cm) (a k v : Int32) : ∃ n', f7_bindInner (uW N 2 n) a k v = uW N 2 n' := by
  unfold f7_bindInner
  simp only [bnd_e]
  split
  · exact ⟨_, rfl⟩
  · exact ⟨_, uW_uW _ _ _ _⟩
theorem fnT_err (h0 : H0 VA) {N : Wm} (hN : ¬ N 7 0 0 10 = 0) (r1 r3 d p q r : Int32) : ∃ v n, fnT VA N r1 r3 d p q r = (v, uW N 2 n) := by
  obtain ⟨n1, e1⟩ := bindInner_u N (f2_enter (N 2)).2 r3 0 p
  obtain ⟨n2, e2⟩ := bindInner_u N n1 r3 1 q
  obtain ⟨n3, e3⟩ := bindInner_u N n2 r3 2 r
  unfold fnT
  rw [e1, e2, e3, vp_0 h0 (show ¬ (uW N 2 n3) 7 0 0 10 = 0 from hN), uW_uW]
  exact ⟨_, _, rfl⟩
theorem adv_apply {m : Cm} (h : m 32 0 d = 26) : f12_advance m d = f12_apply m d := by rw [adv_d h]; rfl
theorem AdvQ.apply {m : Cm} (h : m 33 0 d < m 42 0 d → ¬ m 33 0 d = 0 → Ix12 m (m 31 0 d) (m 34 0 d)) (ht : (m 0 0 49).toInt ≤ 97) : AdvQ m d 26 :=
  ⟨fun h => absurd h (by decide), fun h => absurd h (by decide), fun h => absurd h (by decide), fun h => absurd h (by decide), fun h => absurd h (by decide), fun h => absurd h (by decide), fun h => absurd h (by decide), fun _ => ⟨h, ht⟩, fun h => absurd h (by decide)⟩
/-- the values that a list keeps for a function -/
def kpt (m : Cm) (d : Int32) : Cm := u3 (u3 (u3 m 36 0 d (if m 33 0 d = 1 then m 0 0 62 else m 36 0 d)) 37 0 d (if m 33 0 d = 2 then m 0 0 62 else m 37 0 d)) 38 0 d (if m 33 0 d = 3 then m 0 0 62 else m 38 0 d)
theorem kpt_g (m : Cm) (d : Int32) {g : Nat} (h : ¬ g = 36 ∧ ¬ g = 37 ∧ ¬ g = 38) : kpt m d g = m g := by
  unfold kpt; rw [u3_ne _ _ _ h.2.2, u3_ne _ _ _ h.2.1, u3_ne _ _ _ h.1]
theorem kpt_36 (m : Cm) (d : Int32) : kpt m d 36 0 d = if m 33 0 d = 1 then m 0 0 62 else m 36 0 d := by
  unfold kpt; rw [u3_ne _ _ _ (by decide), u3_ne _ _ _ (by decide), u3_at]
theorem kpt_37 (m : Cm) (d : Int32) : kpt m d 37 0 d = if m 33 0 d = 2 then m 0 0 62 else m 37 0 d := by
  unfold kpt; rw [u3_ne _ _ _ (by decide), u3_at]
theorem kpt_38 (m : Cm) (d : Int32) : kpt m d 38 0 d = if m 33 0 d = 3 then m 0 0 62 else m 38 0 d := by
  unfold kpt; rw [u3_at]
theorem Mid.kpt (hM : Mid t x8 E L w M0 m0 d M m1) : Mid t x8 E L w M0 m0 d M (kpt m1 d) := by
  have M1 := hM.lv (if m1 33 0 d = 1 then m1 0 0 62 else m1 36 0 d) (g := 36) rfl (by decide) (by decide) (ok12_putA hM.ok (by decide))
  have M2 := M1.lv (if m1 33 0 d = 2 then m1 0 0 62 else m1 37 0 d) (g := 37) rfl (by decide) (by decide) (ok12_putA M1.ok (by decide))
  exact M2.lv (if m1 33 0 d = 3 then m1 0 0 62 else m1 38 0 d) (g := 38) rfl (by decide) (by decide) (ok12_putA M2.ok (by decide))
/-- the row of bindings -/
theorem binds_lp {K : Cm → Cm} {m : Cm} {cN : Nat} (h42 : m 42 0 d = nI cN) (hc : cN ≤ 3) : f12_apply_lp166 d K 5 (0, m) = K (bR (fun k => m 43 0 (3 * d + nI k)) (fun k => if k = 0 then m 36 0 d else if k = 1 then m 37 0 d else m 38 0 d) cN m) := by
  have G : ∀ (k : Nat) (g : Nat), ng g = false → bR (fun k => m 43 0 (3 * d + nI k)) (fun k => if k = 0 then m 36 0 d else if k = 1 then m 37 0 d else m 38 0 d) k m g = m g := fun k g hg => (bR_g _ _ k m).1 g hg
  have key : ∀ (j k : Nat), k + j = cN → ∀ f : Nat, j < f → f12_apply_lp166 d K f (nI k, bR (fun k => m 43 0 (3 * d + nI k)) (fun k => if k = 0 then m 36 0 d else if k = 1 then m 37 0 d else m 38 0 d) k m) = K (bR (fun k => m 43 0 (3 * d + nI k)) (fun k => if k = 0 then m 36 0 d else if k = 1 then m 37 0 d else m 38 0 d) cN m) := by
    intro j
    induction j with
    | zero =>
      intro k hk f hf
      cases f with
      | zero => omega
      | succ f =>
        have : k = cN := by omega
        subst this
        rw [f12_apply_lp166_s, if_pos]
        show bR _ _ k m 42 0 d ≤ nI k
        rw [G k 42 rfl, h42]; exact Int32.le_refl _
    | succ j ih =>
      intro k hk f hf
      cases f with
      | zero => omega
      | succ f =>
        rw [f12_apply_lp166_s]
        have tk : (nI k : Int32).toInt = k := nI_toInt (by omega)
        have tc : (nI cN : Int32).toInt = cN := nI_toInt (by omega)
        rw [if_neg (by
          show ¬ bR _ _ k m 42 0 d ≤ nI k
          rw [G k 42 rfl, h42]; simp only [i32le]; omega)]
        simp only [jn, bnd_e, G k 43 rfl, G k 36 rfl, G k 37 rfl, G k 38 rfl]
        have e1 : nI k + 1 = nI (k + 1) := by
          rw [i32eq, inc_t (by omega) (by omega), nI_toInt (by omega), nI_toInt (by omega)]; omega
        have kc : k = 0 ∨ k = 1 ∨ k = 2 := by omega
        have I := ih (k + 1) (by omega) f (by omega)
        rw [e1]
        rcases kc with z | z | z <;> subst z
        · exact I
        · exact I
        · exact I
  exact key cN 0 (by omega) 5 (by omega)
/-- the class' bindings -/
theorem binds_cls {N : Wm} {n : Cm} {r3 p q r : Int32} {nm vl : Nat → Int32} {cN : Nat} (h9 : N 9 = t) (hc : cN ≤ 3) (hp : f9_partsOf t r3 = nI cN) (hk : ∀ k : Nat, k < cN → ¬ f9_partOf t r3 (nI k) = -1 ∧ f9_contentOf t (f9_partOf t r3 (nI k)) = nm k) (h0 : 0 < cN → vl 0 = p) (h1 : 1 < cN → vl 1 = q) (h2 : 2 < cN → vl 2 = r) : f7_bindInner (f7_bindInner (f7_bindInner (uW N 2 n) r3 0 p) r3 1 q) r3 2 r = uW N 2 (bC nm vl cN n) := by
  have one : ∀ (k : Nat) (n : Cm) (v : Int32), k < 3 → f7_bindInner (uW N 2 n) r3 (nI k) v = if k < cN then uW N 2 (f2_bind n (nm k) v) else uW N 2 n := by
    intro k n v hk3
    unfold f7_bindInner
    simp only [bnd_e]
    rw [show (uW N 2 n) 9 = t from h9]
    by_cases c : k < cN
    · rw [if_pos c, if_neg (hk k c).1, (hk k c).2, uW_22, uW_uW]
    · rw [if_neg c]
      have tk : (nI k : Int32).toInt = k := nI_toInt (by omega)
      have tc : (nI cN : Int32).toInt = cN := nI_toInt (by omega)
      have e : f9_partOf t r3 (nI k) = -1 := by
        unfold f9_partOf
        by_cases a : r3 < 0
        · rw [if_pos a]
        · rw [if_neg a]
          by_cases b : 968 ≤ r3
          · rw [if_pos b]
          · rw [if_neg b]
            have hp' := hp
            unfold f9_partsOf at hp'
            rw [if_neg a, if_neg b] at hp'
            rw [if_neg (by simp only [i32lt, t32_0]; omega), if_neg (by rw [hp']; simp only [i32lt]; omega)]
      rw [if_pos e]
  have e0 := one 0 n p (by decide)
  have z0 : (nI 0 : Int32) = 0 := rfl
  have z1 : (nI 1 : Int32) = 1 := rfl
  have z2 : (nI 2 : Int32) = 2 := rfl
  rw [z0] at e0
  rw [e0]
  have hcs : cN = 0 ∨ cN = 1 ∨ cN = 2 ∨ cN = 3 := by omega
  rcases hcs with z | z | z | z <;> subst z
  · rw [if_neg (by decide), ← z1, one 1 n q (by decide), if_neg (by decide), ← z2, one 2 n r (by decide), if_neg (by decide)]; rfl
  · rw [if_pos (by decide), ← z1, one 1 _ q (by decide), if_neg (by decide), ← z2, one 2 _ r (by decide), if_neg (by decide), ← h0 (by decide)]; rfl
  · rw [if_pos (by decide), ← z1, one 1 _ q (by decide), if_pos (by decide), ← z2, one 2 _ r (by decide), if_neg (by decide), ← h0 (by decide), ← h1 (by decide)]; rfl
  · rw [if_pos (by decide), ← z1, one 1 _ q (by decide), if_pos (by decide), ← z2, one 2 _ r (by decide), if_pos (by decide), ← h0 (by decide), ← h1 (by decide), ← h2 (by decide)]; rfl
end OPS
