/-! THE BOOK: stocks and moves alike; each stock is what the moves tell -/
def ow (w : Int32) : Int32 := if w = 4 then -1 else w
theorem inN {n : Nat} {P : Int32 → Prop} (h : ∀ k : Nat, k < n → P (nI k)) {j : Int32} (hj : vp_in j n) : P j := by
  rw [← nI_tn hj]
  exact h _ (Nat.not_le.mp fun q => hj (Or.inr q))
theorem ow_in {w : Int32} (h : vp_in w 5) : vp_in (ow w + 1) 5 := by
  refine inN (P := fun w => vp_in (ow w + 1) 5) (fun k hk => ?_) h
  rw [vp_in_iff]
  revert k
  decide +kernel
theorem ow_inj {w v : Int32} (hw : vp_in w 5) (hv : vp_in v 5) (h : ow w + 1 = ow v + 1) : w = v := by
  refine inN (P := fun w => ∀ v : Int32, vp_in v 5 → ow w + 1 = ow v + 1 → w = v) (fun k hk => ?_) hw v hv h
  intro v hv
  refine inN (P := fun v => ow (nI k) + 1 = ow v + 1 → nI k = v) ?_ hv
  revert k
  decide +kernel
theorem ow_e {w v : Int32} (h : ow w = ow v) (hw : vp_in w 5) (hv : vp_in v 5) : w = v := ow_inj hw hv (by rw [h])
theorem ow_c {w : Int32} (h : vp_in w 4) : ow w = w := by
  unfold ow
  rw [if_neg]
  intro z; rw [z, vp_in_iff] at h; exact absurd h (by decide)
def RelS (b m : Cm) : Prop := ∀ w g : Int32, vp_in w 5 → vp_in g 8 → b 8 (ow w + 1) g = m 4 0 (8 * w + g)
def RelMv (b m : Cm) : Prop := ∀ j : Int32, 0 ≤ j.toInt → j.toInt < (b 0 0 7).toInt → (b 3 0 j = ow (m 23 0 j) ∧ b 4 0 j = ow (m 24 0 j) ∧ b 5 0 j = m 25 0 j ∧ b 6 0 j = m 26 0 j ∧ b 7 0 j = m 27 0 j) ∧ vp_in (m 23 0 j) 5 ∧ vp_in (m 24 0 j) 5 ∧ vp_in (m 25 0 j) 8 ∧ ¬ m 23 0 j = m 24 0 j ∧ 0 < (m 26 0 j).toInt
def RelBk (b m : Cm) : Prop := b 0 0 7 = m 0 0 21 ∧ (0 ≤ (b 0 0 7).toInt ∧ (b 0 0 7).toInt ≤ 3000) ∧ RelMv b m ∧ RelS b m
theorem RelS.put {b m : Cm} (h : RelS b m) {w g x : Int32} (hw : vp_in w 5) (hg : vp_in g 8) : RelS (u3 b 8 (ow w + 1) g x) (u3 m 4 0 (8 * w + g) x) := by
  intro v k hv hk
  by_cases e : v = w
  · by_cases e2 : k = g
    · rw [e, e2, u3_at, u3_at]
    · rw [e, u3_j e2, u3_j (fun z => e2 (idx8_inj hw hk hw hg z).2)]
      exact h w k hw hk
  · rw [u3_i (fun z => e (ow_inj hv hw z)), u3_j (fun z => e (idx8_inj hv hk hw hg z).1)]
    exact h v k hv hk
/-- what the moves up to one tell of a stock -/
def ef (b : Cm) (r g j : Int32) : Int32 := if b 5 0 j = g then (if b 4 0 j + 1 = r then b 6 0 j else 0) - (if b 3 0 j + 1 = r then b 6 0 j else 0) else 0
def tm (b : Cm) (r g : Int32) : Nat → Int32
  | 0 => if r = 0 then b 2 0 g else 0
  | n + 1 => tm b r g n + ef b r g (nI n)
theorem tm_congr {b b' : Cm} {r g : Int32} (n : Nat) (h2 : b' 2 = b 2) (h : ∀ j : Nat, j < n → b' 5 0 (nI j) = b 5 0 (nI j) ∧ b' 4 0 (nI j) = b 4 0 (nI j) ∧ b' 3 0 (nI j) = b 3 0 (nI j) ∧ b' 6 0 (nI j) = b 6 0 (nI j)) : tm b' r g n = tm b r g n := by
  induction n with
  | zero => unfold tm; rw [h2]
  | succ n ih =>
    obtain ⟨a1, a2, a3, a4⟩ := h n (by omega)
    unfold tm ef
    rw [ih (fun j hj => h j (by omega)), a1, a2, a3, a4]
def BkI (b : Cm) : Prop := ∀ r g : Int32, vp_in r 5 → vp_in g 8 → b 8 r g = tm b r g (b 0 0 7).toInt.toNat
/-- stocks are none below 0, all of a good together not above a limit -/
def sm (b : Cm) (g : Int32) : Int := (b 8 0 g).toInt + (b 8 1 g).toInt + (b 8 2 g).toInt + (b 8 3 g).toInt + (b 8 4 g).toInt
def StkP (L : Int) (b : Cm) : Prop := ∀ g : Int32, vp_in g 8 → (∀ r : Int32, vp_in r 5 → 0 ≤ (b 8 r g).toInt) ∧ sm b g ≤ L
theorem StkP.le {L : Int} {b : Cm} (h : StkP L b) {r g : Int32} (hr : vp_in r 5) (hg : vp_in g 8) : 0 ≤ (b 8 r g).toInt ∧ (b 8 r g).toInt ≤ L := by
  obtain ⟨h1, h2⟩ := h g hg
  refine ⟨h1 r hr, ?_⟩
  have a0 := h1 0 (vin_lit (by decide)); have a1 := h1 1 (vin_lit (by decide)); have a2 := h1 2 (vin_lit (by decide)); have a3 := h1 3 (vin_lit (by decide)); have a4 := h1 4 (vin_lit (by decide))
  unfold sm at h2
  refine inN (P := fun r => (b 8 r g).toInt ≤ L) (fun k hk => ?_) hr
  have : k = 0 ∨ k = 1 ∨ k = 2 ∨ k = 3 ∨ k = 4 := by omega
  rcases this with z | z | z | z | z <;> subst z
  · show (b 8 0 g).toInt ≤ L; omega
  · show (b 8 1 g).toInt ≤ L; omega
  · show (b 8 2 g).toInt ≤ L; omega
  · show (b 8 3 g).toInt ≤ L; omega
  · show (b 8 4 g).toInt ≤ L; omega
/-- an undone move of both -/
theorem undo1 {b m : Cm} (h : RelBk b m) (hB : BkI b) {i : Int32} (hi : i.toInt = (b 0 0 7).toInt - 1) (h0 : 0 ≤ i.toInt) : RelBk (u3 (u3 (u3 b 8 (b 4 0 i + 1) (b 5 0 i) (b 8 (b 4 0 i + 1) (b 5 0 i) - b 6 0 i)) 8 (b 3 0 i + 1) (b 5 0 i) ((u3 b 8 (b 4 0 i + 1) (b 5 0 i) (b 8 (b 4 0 i + 1) (b 5 0 i) - b 6 0 i)) 8 (b 3 0 i + 1) (b 5 0 i) + b 6 0 i)) 0 0 7 i) (u3 (u3 (u3 m 0 0 21 i) 4 0 (8 * m 23 0 i + m 25 0 i) (m 4 0 (8 * m 23 0 i + m 25 0 i) + m 26 0 i)) 4 0 (8 * m 24 0 i + m 25 0 i) ((u3 (u3 m 0 0 21 i) 4 0 (8 * m 23 0 i + m 25 0 i) (m 4 0 (8 * m 23 0 i + m 25 0 i) + m 26 0 i)) 4 0 (8 * m 24 0 i + m 25 0 i) - m 26 0 i)) ∧ BkI (u3 (u3 (u3 b 8 (b 4 0 i + 1) (b 5 0 i) (b 8 (b 4 0 i + 1) (b 5 0 i) - b 6 0 i)) 8 (b 3 0 i + 1) (b 5 0 i) ((u3 b 8 (b 4 0 i + 1) (b 5 0 i) (b 8 (b 4 0 i + 1) (b 5 0 i) - b 6 0 i)) 8 (b 3 0 i + 1) (b 5 0 i) + b 6 0 i)) 0 0 7 i) := by
  obtain ⟨hc, hr, hM, hS⟩ := h
  obtain ⟨⟨e3, e4, e5, e6, e7⟩, v3, v4, v5, _⟩ := hM i h0 (by omega)
  have st : ∀ (b : Cm) (f t g p r k : Int32), vp_in r 5 → vp_in k 8 → (u3 (u3 b 8 t g (b 8 t g - p)) 8 f g ((u3 b 8 t g (b 8 t g - p)) 8 f g + p)) 8 r k = b 8 r k - (if g = k then (if t = r then p else 0) - (if f = r then p else 0) else 0) := by
    intro b f t g p r k _ _
    by_cases c1 : g = k
    · subst c1
      rw [if_pos rfl]
      by_cases c2 : f = r
      · subst c2
        rw [u3_at, if_pos rfl]
        by_cases c3 : t = f
        · subst c3
          rw [u3_at, if_pos rfl, Int32.sub_add_cancel, Int32.sub_self, Int32.sub_zero]
        · rw [u3_i (fun z => c3 z.symm), if_neg c3, Int32.zero_sub, Int32.sub_neg]
      · rw [u3_i (fun z => c2 z.symm), if_neg c2, Int32.sub_zero]
        by_cases c3 : t = r
        · subst c3
          rw [u3_at, if_pos rfl]
        · rw [u3_i (fun z => c3 z.symm), if_neg c3, Int32.sub_zero]
    · rw [if_neg c1, Int32.sub_zero]
      have n1 : ∀ (m : Cm) (i x : Int32), (u3 m 8 i g x) 8 r k = m 8 r k := by
        intro m i x
        by_cases c2 : r = i
        · subst c2; rw [u3_j (fun z => c1 z.symm)]
        · rw [u3_i c2]
      rw [n1, n1]
  have sr : ∀ (m : Cm) (f t g p w k : Int32), vp_in f 5 → vp_in t 5 → vp_in g 8 → vp_in w 5 → vp_in k 8 → (u3 (u3 m 4 0 (8 * f + g) (m 4 0 (8 * f + g) + p)) 4 0 (8 * t + g) ((u3 m 4 0 (8 * f + g) (m 4 0 (8 * f + g) + p)) 4 0 (8 * t + g) - p)) 4 0 (8 * w + k) = m 4 0 (8 * w + k) - (if g = k then (if t = w then p else 0) - (if f = w then p else 0) else 0) := by
    intro m f t g p w k hf ht hg hw hk
    by_cases c1 : g = k
    · subst c1
      rw [if_pos rfl]
      by_cases c3 : t = w
      · subst c3
        rw [u3_at, if_pos rfl]
        by_cases c2 : f = t
        · subst c2
          rw [u3_at, if_pos rfl, Int32.add_sub_cancel, Int32.sub_self, Int32.sub_zero]
        · rw [u3_j (fun z => c2 (idx8_inj ht hg hf hg z).1.symm), if_neg c2, Int32.sub_zero]
      · rw [u3_j (fun z => c3 (idx8_inj hw hg ht hg z).1.symm), if_neg c3]
        by_cases c2 : f = w
        · subst c2
          rw [u3_at, if_pos rfl, Int32.zero_sub, Int32.sub_neg]
        · rw [u3_j (fun z => c2 (idx8_inj hw hg hf hg z).1.symm), if_neg c2, Int32.sub_zero, Int32.sub_zero]
    · rw [if_neg c1, Int32.sub_zero, u3_j (fun z => c1 (idx8_inj hw hk ht hg z).2.symm), u3_j (fun z => c1 (idx8_inj hw hk hf hg z).2.symm)]
  refine ⟨⟨rfl, ⟨h0, by show i.toInt ≤ 3000; omega⟩, fun j h1 h2 => hM j h1 (by have h2' : j.toInt < i.toInt := h2; omega), fun w g hw hg => ?_⟩, fun r g hr' hg => ?_⟩
  · have l := st b (b 3 0 i + 1) (b 4 0 i + 1) (b 5 0 i) (b 6 0 i) (ow w + 1) g (ow_in hw) hg
    have r := sr (u3 m 0 0 21 i) (m 23 0 i) (m 24 0 i) (m 25 0 i) (m 26 0 i) w g v3 v4 v5 hw hg
    refine (show _ = _ from l).trans (Eq.trans ?_ r.symm)
    rw [hS w g hw hg, e3, e4, e5, e6]
    show m 4 0 (8 * w + g) - _ = m 4 0 (8 * w + g) - _
    congr 1
    by_cases c1 : m 25 0 i = g
    · rw [if_pos c1, if_pos c1]
      have x1 : (ow (m 24 0 i) + 1 = ow w + 1) = (m 24 0 i = w) := propext ⟨fun z => ow_inj v4 hw z, fun z => by rw [z]⟩
      have x2 : (ow (m 23 0 i) + 1 = ow w + 1) = (m 23 0 i = w) := propext ⟨fun z => ow_inj v3 hw z, fun z => by rw [z]⟩
      simp only [x1, x2]
    · rw [if_neg c1, if_neg c1]
  · have l := st b (b 3 0 i + 1) (b 4 0 i + 1) (b 5 0 i) (b 6 0 i) r g hr' hg
    refine (show _ = _ from l).trans ?_
    show _ = tm _ r g i.toInt.toNat
    refine Eq.trans ?_ (Eq.symm (?_ : tm _ r g i.toInt.toNat = tm b r g i.toInt.toNat))
    rotate_left
    · exact tm_congr _ rfl (fun j _ => ⟨rfl, rfl, rfl, rfl⟩)
    have hn : (b 0 0 7).toInt.toNat = i.toInt.toNat + 1 := by omega
    rw [hB r g hr' hg, hn, tm, show nI i.toInt.toNat = i from nI_e (by omega)]
    unfold ef
    rw [Int32.add_sub_cancel]
/-- all moves from one on undone -/
def UF (y y' : Cm) : Prop := (∀ g : Nat, ¬ g = 0 → ¬ g = 4 → y' g = y g) ∧ ∀ s : Int32, ¬ s = 21 → y' 0 0 s = y 0 0 s
def BF (b b' : Cm) : Prop := (∀ g : Nat, ¬ g = 0 → ¬ g = 8 → b' g = b g)
theorem undo_c {mark : Int32} (h0 : 0 ≤ mark.toInt) {K : Cm → Cm} : ∀ (k k' : Nat) (i : Int32) (b m : Cm), RelBk b m → BkI b → i.toInt = (b 0 0 7).toInt - 1 → mark.toInt ≤ (b 0 0 7).toInt → (b 0 0 7).toInt - mark.toInt < k → (b 0 0 7).toInt - mark.toInt < k' → ∃ b' m', f1_undoTo_lp7 mark k (i, b) = b' ∧ f12_undo_lp0 mark K k' m = K m' ∧ RelBk b' m' ∧ BkI b' ∧ b' 0 0 7 = mark ∧ UF m m' ∧ BF b b' := by
  intro k
  induction k with
  | zero => intro k' i b m _ _ _ _ a; omega
  | succ k ih =>
    intro k' i b m h hB hi hm a a'
    cases k' with
    | zero => omega
    | succ k' =>
      rw [f1_undoTo_lp7_s, f12_undo_lp0_s]
      have hc := h.1
      by_cases c1 : m 0 0 21 ≤ mark
      · rw [if_pos c1]
        simp only [i32le] at c1
        rw [← hc] at c1
        rw [if_pos (show i < mark by simp only [i32lt]; omega)]
        refine ⟨b, m, rfl, rfl, h, hB, by rw [i32eq]; omega, ⟨fun g _ _ => rfl, fun s _ => rfl⟩, fun g _ _ => rfl⟩
      · rw [if_neg c1]
        simp only [i32le] at c1
        rw [← hc] at c1
        rw [if_neg (show ¬ i < mark by simp only [i32lt]; omega), if_neg (show ¬ i < 0 by simp only [i32lt, t32_0]; omega)]
        have e1 : m 0 0 21 - 1 = i := by
          rw [i32eq, ← hc, dec_t (by omega) (by have := h.2.1.2; omega)]; omega
        rw [e1]
        have u := undo1 h hB hi (by omega)
        simp only [bnd]
        have ed := decp_t (x := i) (by omega) (by have := h.2.1.2; omega)
        obtain ⟨b', m', p1, p2, p3, p4, p5, p6, p7⟩ := ih k' (i + (-1)) _ _ u.1 u.2 (by show _ = i.toInt - 1; omega) (by show mark.toInt ≤ i.toInt; omega) (by show i.toInt - _ < _; omega) (by show i.toInt - _ < _; omega)
        refine ⟨b', m', p1, p2, p3, p4, p5, ⟨fun g q0 q4 => ?_, fun s q => ?_⟩, fun g q0 q8 => ?_⟩
        · rw [p6.1 g q0 q4, u3_ne _ _ _ q4, u3_ne _ _ _ q4, u3_ne _ _ _ q0]
        · rw [p6.2 s q]
          show u3 m 0 0 21 i 0 0 s = _
          exact u3_s q
        · rw [p7 g q0 q8, u3_ne _ _ _ q0, u3_ne _ _ _ q8, u3_ne _ _ _ q8]
/-- a move of both -/
def mvB (b : Cm) (f t g p o : Int32) : Cm := u3 (u3 (u3 (u3 (u3 (u3 (u3 (u3 b 3 0 (b 0 0 7) f) 4 0 (b 0 0 7) t) 5 0 (b 0 0 7) g) 6 0 (b 0 0 7) p) 7 0 (b 0 0 7) o) 0 0 7 (b 0 0 7 + 1)) 8 (f + 1) g (b 8 (f + 1) g - p)) 8 (t + 1) g ((u3 (u3 (u3 (u3 (u3 (u3 (u3 b 3 0 (b 0 0 7) f) 4 0 (b 0 0 7) t) 5 0 (b 0 0 7) g) 6 0 (b 0 0 7) p) 7 0 (b 0 0 7) o) 0 0 7 (b 0 0 7 + 1)) 8 (f + 1) g (b 8 (f + 1) g - p)) 8 (t + 1) g + p)
theorem f1_move_e {b : Cm} (h : ¬ 3000 ≤ b 0 0 7) (f t g p o : Int32) : f1_move b f t g p o = mvB b f t g p o := by
  unfold f1_move; rw [if_neg h]; rfl
def mvM (m : Cm) (f t g p : Int32) : Cm := u3 (u3 (u3 (u3 (u3 (u3 (u3 (u3 m 4 0 (8 * f + g) (m 4 0 (8 * f + g) - p)) 4 0 (8 * t + g) ((u3 m 4 0 (8 * f + g) (m 4 0 (8 * f + g) - p)) 4 0 (8 * t + g) + p)) 23 0 (m 0 0 21) f) 24 0 (m 0 0 21) t) 25 0 (m 0 0 21) g) 26 0 (m 0 0 21) p) 27 0 (m 0 0 21) (m 0 0 56)) 0 0 21 (m 0 0 21 + 1)
theorem f12_move_e (m : Cm) (f t g w : Int32) : f12_move m f t g w = (if (if f = t then 0 else if m 4 0 (8 * f + g) ≤ w then m 4 0 (8 * f + g) else w) ≤ 0 then f12_finish m (if f = t then 0 else if m 4 0 (8 * f + g) ≤ w then m 4 0 (8 * f + g) else w) else if m 0 0 21 = 3000 then u3 m 0 0 63 2 else f12_finish (mvM m f t g (if f = t then 0 else if m 4 0 (8 * f + g) ≤ w then m 4 0 (8 * f + g) else w)) (if f = t then 0 else if m 4 0 (8 * f + g) ≤ w then m 4 0 (8 * f + g) else w)) := by
  unfold f12_move
  simp only [jn, bnd]
  by_cases c1 : f = t
  · simp only [if_pos c1, if_pos (Int32.le_refl 0)]
  · simp only [if_neg c1]
    by_cases c2 : m 4 0 (8 * f + g) ≤ w
    · simp only [if_pos c2]
      by_cases c3 : m 4 0 (8 * f + g) ≤ 0
      · simp only [if_pos c3]
      · simp only [if_neg c3]
        by_cases c4 : m 0 0 21 = 3000
        · simp only [if_pos c4]
        · simp only [if_neg c4]; rfl
    · simp only [if_neg c2]
      by_cases c3 : w ≤ 0
      · simp only [if_pos c3]
      · simp only [if_neg c3]
        by_cases c4 : m 0 0 21 = 3000
        · simp only [if_pos c4]
        · simp only [if_neg c4]; rfl
theorem move_c {b m : Cm} (h : RelBk b m) (hB : BkI b) {L : Int} (hL : L ≤ 1000000) (hP : StkP L b) {f t g p : Int32} (hf : vp_in f 5) (ht : vp_in t 5) (hg : vp_in g 8) (hft : ¬ f = t) (h0 : 0 < p.toInt) (h1 : p.toInt ≤ (b 8 (ow f + 1) g).toInt) (hc : (b 0 0 7).toInt < 3000) : RelBk (mvB b (ow f) (ow t) g p (m 0 0 56)) (mvM m f t g p) ∧ BkI (mvB b (ow f) (ow t) g p (m 0 0 56)) ∧ StkP L (mvB b (ow f) (ow t) g p (m 0 0 56)) := by
  obtain ⟨hcn, hr, hM, hS⟩ := h
  have e1 : (b 0 0 7 + 1).toInt = (b 0 0 7).toInt + 1 := inc_t hr.1 (by omega)
  have hfr := ow_in hf; have htr := ow_in ht
  have hne : ¬ ow f + 1 = ow t + 1 := fun z => hft (ow_inj hf ht z)
  -- the class' stocks
  have st : ∀ r k : Int32, mvB b (ow f) (ow t) g p (m 0 0 56) 8 r k = if k = g then (if r = ow t + 1 then b 8 r k + p else if r = ow f + 1 then b 8 r k - p else b 8 r k) else b 8 r k := by
    intro r k
    unfold mvB
    by_cases c1 : k = g
    · subst c1
      rw [if_pos rfl]
      by_cases c2 : r = ow t + 1
      · subst c2
        rw [u3_at, if_pos rfl, u3_i (fun z => hne z.symm)]; rfl
      · rw [u3_i c2, if_neg c2]
        by_cases c3 : r = ow f + 1
        · subst c3; rw [u3_at, if_pos rfl]
        · rw [u3_i c3, if_neg c3]; rfl
    · rw [if_neg c1]
      have n1 : ∀ (m : Cm) (i x : Int32), (u3 m 8 i g x) 8 r k = m 8 r k := by
        intro m i x
        by_cases c2 : r = i
        · subst c2; rw [u3_j c1]
        · rw [u3_i c2]
      rw [n1, n1]; rfl
  have hx : ∀ r : Int32, vp_in r 5 → (b 8 r g).toInt + p.toInt ≤ L ∨ r = ow f + 1 := by
    intro r hr'
    by_cases c : r = ow f + 1
    · exact Or.inr c
    · left
      obtain ⟨a1, a2⟩ := hP g hg
      have a0' := a1 0 (vin_lit (by decide)); have a1' := a1 1 (vin_lit (by decide)); have a2' := a1 2 (vin_lit (by decide)); have a3' := a1 3 (vin_lit (by decide)); have a4' := a1 4 (vin_lit (by decide))
      unfold sm at a2
      have hrr := hr'; have hff := hfr
      rw [vp_in_iff] at hrr hff
      rw [i32eq] at c
      have cases5 : ∀ x : Int32, vp_in x 5 → x = 0 ∨ x = 1 ∨ x = 2 ∨ x = 3 ∨ x = 4 := by
        intro x hx; refine inN (P := fun x => x = 0 ∨ x = 1 ∨ x = 2 ∨ x = 3 ∨ x = 4) ?_ hx; decide +kernel
      rcases cases5 r hr' with z | z | z | z | z <;> rcases cases5 _ hfr with z2 | z2 | z2 | z2 | z2 <;> rw [z, z2] at c <;> rw [z] <;> rw [z2] at h1 <;> first | omega | exact absurd rfl c
  have sum : ∀ k : Int32, vp_in k 8 → (∀ r : Int32, vp_in r 5 → 0 ≤ (mvB b (ow f) (ow t) g p (m 0 0 56) 8 r k).toInt) ∧ sm (mvB b (ow f) (ow t) g p (m 0 0 56)) k ≤ L := by
    intro k hk
    obtain ⟨a1, a2⟩ := hP k hk
    by_cases c1 : k = g
    · subst c1
      have val : ∀ r : Int32, vp_in r 5 → (mvB b (ow f) (ow t) k p (m 0 0 56) 8 r k).toInt = (b 8 r k).toInt + (if r = ow t + 1 then p.toInt else 0) - (if r = ow f + 1 then p.toInt else 0) := by
        intro r hr'
        have hb := hP.le hr' hk
        rw [st, if_pos rfl]
        by_cases c2 : r = ow t + 1
        · have c3 : ¬ r = ow f + 1 := fun z => hne (z.symm.trans c2)
          rw [if_pos c2, if_pos c2, if_neg c3]
          have := (hx r hr').resolve_right c3
          rw [i32addn (by omega) (by omega)]; omega
        · rw [if_neg c2, if_neg c2]
          by_cases c3 : r = ow f + 1
          · rw [if_pos c3, if_pos c3]
            rw [c3] at hb ⊢
            rw [i32subn (by omega) (by omega)]; omega
          · rw [if_neg c3, if_neg c3]; omega
      refine ⟨fun r hr' => ?_, ?_⟩
      · rw [val r hr']
        have := a1 r hr'
        by_cases c3 : r = ow f + 1
        · rw [if_pos c3, if_neg (fun z => hne (c3.symm.trans z))]; rw [c3] at this ⊢; omega
        · rw [if_neg c3]; split <;> omega
      · unfold sm at a2 ⊢
        rw [val 0 (vin_lit (by decide)), val 1 (vin_lit (by decide)), val 2 (vin_lit (by decide)), val 3 (vin_lit (by decide)), val 4 (vin_lit (by decide))]
        have cases5 : ∀ x : Int32, vp_in x 5 → x = 0 ∨ x = 1 ∨ x = 2 ∨ x = 3 ∨ x = 4 := by
          intro x hx; refine inN (P := fun x => x = 0 ∨ x = 1 ∨ x = 2 ∨ x = 3 ∨ x = 4) ?_ hx; decide +kernel
        have one : ∀ x : Int32, vp_in x 5 → (if (0 : Int32) = x then p.toInt else 0) + (if (1 : Int32) = x then p.toInt else 0) + (if (2 : Int32) = x then p.toInt else 0) + (if (3 : Int32) = x then p.toInt else 0) + (if (4 : Int32) = x then p.toInt else 0) = p.toInt := by
          intro x hx
          rcases cases5 x hx with z | z | z | z | z <;> subst z <;> simp
        have o1 := one _ htr; have o2 := one _ hfr
        omega
    · have same : ∀ r : Int32, mvB b (ow f) (ow t) g p (m 0 0 56) 8 r k = b 8 r k := fun r => by rw [st, if_neg c1]
      refine ⟨fun r hr' => by rw [same]; exact a1 r hr', ?_⟩
      unfold sm at a2 ⊢
      rw [same, same, same, same, same]; exact a2
  refine ⟨⟨?_, ⟨by show 0 ≤ (b 0 0 7 + 1).toInt; omega, by show (b 0 0 7 + 1).toInt ≤ 3000; omega⟩, fun j h1' h2' => ?_, fun w k hw hk => ?_⟩, fun r k hr' hk => ?_, sum⟩
  · show b 0 0 7 + 1 = m 0 0 21 + 1
    rw [hcn]
  · have h2'' : j.toInt < (b 0 0 7 + 1).toInt := h2'
    show (fI (b 3 0) (b 0 0 7) (ow f) j = ow (fI (m 23 0) (m 0 0 21) f j) ∧ fI (b 4 0) (b 0 0 7) (ow t) j = ow (fI (m 24 0) (m 0 0 21) t j) ∧ fI (b 5 0) (b 0 0 7) g j = fI (m 25 0) (m 0 0 21) g j ∧ fI (b 6 0) (b 0 0 7) p j = fI (m 26 0) (m 0 0 21) p j ∧ fI (b 7 0) (b 0 0 7) (m 0 0 56) j = fI (m 27 0) (m 0 0 21) (m 0 0 56) j) ∧ vp_in (fI (m 23 0) (m 0 0 21) f j) 5 ∧ vp_in (fI (m 24 0) (m 0 0 21) t j) 5 ∧ vp_in (fI (m 25 0) (m 0 0 21) g j) 8 ∧ ¬ fI (m 23 0) (m 0 0 21) f j = fI (m 24 0) (m 0 0 21) t j ∧ 0 < (fI (m 26 0) (m 0 0 21) p j).toInt
    rw [← hcn]
    by_cases c : j = b 0 0 7
    · simp only [fI, if_pos c]
      exact ⟨⟨trivial, trivial, trivial, trivial, trivial⟩, hf, ht, hg, hft, h0⟩
    · simp only [fI, if_neg c]
      exact hM j h1' (by rw [i32eq] at c; omega)
  · rw [st]
    have sr : mvM m f t g p 4 0 (8 * w + k) = if k = g then (if w = t then m 4 0 (8 * w + k) + p else if w = f then m 4 0 (8 * w + k) - p else m 4 0 (8 * w + k)) else m 4 0 (8 * w + k) := by
      show (u3 (u3 m 4 0 (8 * f + g) (m 4 0 (8 * f + g) - p)) 4 0 (8 * t + g) ((u3 m 4 0 (8 * f + g) (m 4 0 (8 * f + g) - p)) 4 0 (8 * t + g) + p)) 4 0 (8 * w + k) = _
      by_cases c1 : k = g
      · subst c1
        rw [if_pos rfl]
        by_cases c2 : w = t
        · subst c2
          rw [u3_at, if_pos rfl, u3_j (fun z => hft (idx8_inj ht hg hf hg z).1.symm)]
        · rw [u3_j (fun z => c2 (idx8_inj hw hk ht hg z).1), if_neg c2]
          by_cases c3 : w = f
          · subst c3; rw [u3_at, if_pos rfl]
          · rw [u3_j (fun z => c3 (idx8_inj hw hk hf hg z).1), if_neg c3]
      · rw [if_neg c1, u3_j (fun z => c1 (idx8_inj hw hk ht hg z).2), u3_j (fun z => c1 (idx8_inj hw hk hf hg z).2)]
    rw [sr, hS w k hw hk]
    have x1 : (ow w + 1 = ow t + 1) = (w = t) := propext ⟨fun z => ow_inj hw ht z, fun z => by rw [z]⟩
    have x2 : (ow w + 1 = ow f + 1) = (w = f) := propext ⟨fun z => ow_inj hw hf z, fun z => by rw [z]⟩
    simp only [x1, x2]
  · show _ = tm _ r k (b 0 0 7 + 1).toInt.toNat
    have hn : (b 0 0 7 + 1).toInt.toNat = (b 0 0 7).toInt.toNat + 1 := by omega
    have hi : nI (b 0 0 7).toInt.toNat = b 0 0 7 := nI_e (by omega)
    have hj : ∀ j : Nat, j < (b 0 0 7).toInt.toNat → ¬ nI j = b 0 0 7 := by
      intro j hj z
      have z' := congrArg Int32.toInt z
      rw [nI_toInt (by omega)] at z'; omega
    have cg : tm (mvB b (ow f) (ow t) g p (m 0 0 56)) r k (b 0 0 7).toInt.toNat = tm b r k (b 0 0 7).toInt.toNat := by
      refine tm_congr _ rfl (fun j hj' => ⟨?_, ?_, ?_, ?_⟩)
      · show fI (b 5 0) (b 0 0 7) g (nI j) = _; unfold fI; rw [if_neg (hj j hj')]
      · show fI (b 4 0) (b 0 0 7) (ow t) (nI j) = _; unfold fI; rw [if_neg (hj j hj')]
      · show fI (b 3 0) (b 0 0 7) (ow f) (nI j) = _; unfold fI; rw [if_neg (hj j hj')]
      · show fI (b 6 0) (b 0 0 7) p (nI j) = _; unfold fI; rw [if_neg (hj j hj')]
    rw [hn, tm, cg, ← hB r k hr' hk, hi, st]
    have e5 : mvB b (ow f) (ow t) g p (m 0 0 56) 5 0 (b 0 0 7) = g := fI_at _ _ _
    have e4 : mvB b (ow f) (ow t) g p (m 0 0 56) 4 0 (b 0 0 7) = ow t := fI_at _ _ _
    have e3 : mvB b (ow f) (ow t) g p (m 0 0 56) 3 0 (b 0 0 7) = ow f := fI_at _ _ _
    have e6 : mvB b (ow f) (ow t) g p (m 0 0 56) 6 0 (b 0 0 7) = p := fI_at _ _ _
    unfold ef
    rw [e5, e4, e3, e6]
    by_cases c1 : k = g
    · rw [if_pos c1, if_pos c1.symm]
      by_cases c2 : r = ow t + 1
      · rw [if_pos c2, if_pos c2.symm, if_neg (fun z => hne (z.trans c2)), Int32.sub_zero]
      · have c2' : ¬ ow t + 1 = r := fun z => c2 z.symm
        rw [if_neg c2, if_neg c2']
        by_cases c3 : r = ow f + 1
        · rw [if_pos c3, if_pos c3.symm, Int32.zero_sub, Int32.sub_eq_add_neg]
        · have c3' : ¬ ow f + 1 = r := fun z => c3 z.symm
          rw [if_neg c3, if_neg c3', Int32.sub_zero, Int32.add_zero]
    · rw [if_neg c1, if_neg (fun z => c1 z.symm), Int32.add_zero]
