/-! WHAT THE LAW TYPES always has room and stands in the document's signs -/
section SAY
variable {s : ST} {M : Wm} {x : Int32 → Int32} {k : Int} {p g name : Int32} {n : Int}
def TK (x : Int32 → Int32) (k : Int) (s : ST) (p : Int32) (n : Int) : Prop := OKS s ∧ (s.1 = x ∧ s.2.1 = k) ∧ (s.2.2 3 0 p).toInt ≤ n
theorem TK.mono {n' : Int} (h : TK x k s p n) (hn : n ≤ n') : TK x k s p n' := ⟨h.1, h.2.1, Int.le_trans h.2.2 hn⟩
def RS (x : Int32 → Int32) (k : Int) (p : Int32) (n : Int) (r : (Nat × Int32) × ST) : Prop := r.1.1 = 0 ∧ 0 ≤ r.1.2.toInt ∧ TK x k r.2 p n
theorem RS.mono {n' : Int} {r : (Nat × Int32) × ST} (h : RS x k p n r) (hn : n ≤ n') : RS x k p n' r := ⟨h.1, h.2.1, h.2.2.mono hn⟩
theorem len_e (h : LST s M) (hp : vp_in p 8) : s.2.2 3 0 p = M 8 2 0 p := by rw [← h.1]; exact (h.2.1.1.1 p hp).1.symm
theorem ft (h : TK x k s p n) (hn : n < 120) (hp : vp_in p 8) (hg : f6_isSign g = true) : RS x k p (n + 1) (F_type s p g) := by
  obtain ⟨⟨M, hM⟩, ⟨e1, e2⟩, hl⟩ := h
  have O := O_type (p1 := p) (p2 := g) hM.2
  rw [hM.1] at O
  have ln := hM.2.1.ln p hp
  rw [len_e hM hp] at hl
  have hz : f11_type M p g = ((0, (f8_append (M 8) p g).1), uW M 8 (f8_append (M 8) p g).2) := by
    unfold f11_type
    simp only [bnd_e, jn_e, dS0 hp, hg, if_true]
    rw [if_pos (show f11_demand true = 0 by decide)]
    have c : ¬ (120 : Int32) ≤ f8_lengthOf (M 8) p := by
      show ¬ (120 : Int32) ≤ M 8 2 0 p
      simp only [i32le, t32_120]; omega
    rw [if_neg c, if_pos (show f11_demandState true = 0 by decide)]
  have ok : LST (F_type s p g).2 (uW (f11_type M p g).2 12 (Z12 1 2 s.2.2 (f12_type s.2.2 p g)).2) := ⟨uW_at _ _ _, O.2.2⟩
  have k0 : (Z12 1 2 s.2.2 (f12_type s.2.2 p g)).1.1 = 0 := by rw [← O.1, hz]
  have ev : (f8_append (M 8) p g).1 = M 8 2 0 p + 1 := by
    show u3 (u3 (M 8) 1 0 _ g) 2 0 p (M 8 2 0 p + 1) 2 0 p = _
    rw [u3_at]
  have e1' : (M 8 2 0 p + 1).toInt = (M 8 2 0 p).toInt + 1 := inc_t ln.1 (by omega)
  refine ⟨k0, ?_, ⟨_, ok⟩, ⟨e1, e2⟩, ?_⟩
  · show 0 ≤ (Z12 1 2 s.2.2 (f12_type s.2.2 p g)).1.2.toInt
    rw [← O.2.1 (by rw [hz]), hz]
    show 0 ≤ (f8_append (M 8) p g).1.toInt
    rw [ev, e1']; omega
  · rw [len_e ok hp, uW_ne _ _ (by decide), hz]
    show (uW M 8 (f8_append (M 8) p g).2 8 2 0 p).toInt ≤ _
    rw [uW_at]
    show (u3 (u3 (u3 (M 8) 1 0 _ g) 2 0 p (M 8 2 0 p + 1)) 4 0 p 0 2 0 p).toInt ≤ _
    rw [u3_ne _ _ _ (show ¬ 2 = 4 by decide), u3_at, e1']; omega
theorem rs_go {Q : ((Nat × Int32) × ST) → Prop} {r : (Nat × Int32) × ST} {f h : (Nat × Int32) × ST → (Nat × Int32) × ST} (hr : RS x k p n r) (hf : ∀ r : (Nat × Int32) × ST, RS x k p n r → Q (f r)) : Q (bnd r (fun r => if r.1.1 = 0 then f r else h r)) := by
  show Q (if r.1.1 = 0 then f r else h r)
  rw [if_pos hr.1]; exact hf r hr
theorem bnd_go {α β : Type} {Q : β → Prop} {a : α} {f : α → β} (hf : Q (f a)) : Q (bnd a f) := hf
theorem jn_go {α β : Type} {Q : β → Prop} {K : α → β} {T : (α → β) → β} (P : α → Prop) (hK : ∀ v, P v → Q (K v)) (hT : ∀ K' : α → β, (∀ v, P v → Q (K' v)) → Q (T K')) : Q (jn K T) := hT K hK
/-- the letters of a name, from one power on -/
def dg : Nat → Int32 → Int32 → Bool
  | 0, _, pw => decide (pw ≤ 0)
  | k + 1, l, pw => !decide (pw ≤ 0) && f6_isSign (96 + l / pw) && dg k (l - l / pw * pw) (pw / 27)
def NM (name : Int32) (d : Nat) : Prop := ∃ pw : Int32, (∀ (r : (Nat × Int32) × ST) (K : Int32 → (Nat × Int32) × ST), fL_sayName_lp11 name r K 8 1 = K pw) ∧ dg d name pw = true
theorem sn_30 (hp : vp_in p 8) {Q : ((Nat × Int32) × ST) → Prop} {K : Int32 × ST → (Nat × Int32) × ST} {N : Int} (hN : N ≤ 120) (hK : ∀ v : Int32 × ST, 0 ≤ v.1.toInt → TK x k v.2 p N → Q (K v)) : ∀ (d fu : Nat) (l v pw : Int32) (s : ST), dg d l pw = true → d < fu → 0 ≤ v.toInt → TK x k s p (N - d) → Q (fL_sayName_lp30 p K fu (l, v, pw, s)) := by
  intro d
  induction d with
  | zero =>
    intro fu l v pw s hd hf hv hT
    obtain ⟨fu, rfl⟩ : ∃ m, fu = m + 1 := ⟨fu - 1, by omega⟩
    rw [fL_sayName_lp30_s, if_pos (of_decide_eq_true hd)]
    exact hK (v, s) hv (hT.mono (by omega))
  | succ d ih =>
    intro fu l v pw s hd hf hv hT
    obtain ⟨fu, rfl⟩ : ∃ m, fu = m + 1 := ⟨fu - 1, by omega⟩
    simp only [dg, Bool.and_eq_true, Bool.not_eq_true', decide_eq_false_iff_not] at hd
    obtain ⟨⟨d1, d2⟩, d3⟩ := hd
    rw [fL_sayName_lp30_s, if_neg d1]
    refine rs_go (ft hT (by omega) hp d2) (fun r hr => ?_)
    exact ih fu _ _ _ _ d3 (by omega) hr.2.1 (hr.2.2.mono (by omega))
theorem sn_name (h : TK x k s p n) (hp : vp_in p 8) {d : Nat} (hd : d ≤ 7) (hN : NM name d) (hn : n + 1 + d ≤ 120) : RS x k p (n + 1 + d) (fL_sayName s p name) := by
  obtain ⟨pw, h1, h2⟩ := hN
  unfold fL_sayName
  refine rs_go (Q := RS x k p (n + 1 + d)) (ft h (by omega) hp (by decide)) (fun r hr => ?_)
  simp only [jn_e]
  rw [h1]
  exact sn_30 hp hn (fun v hv hT => ⟨rfl, hv, hT⟩) d 8 name r.1.2 pw r.2 h2 (by omega) hr.2.1 (hr.2.2.mono (by omega))
theorem nm_1 : NM 1 1 := ⟨1, fun _ _ => rfl, by decide⟩
theorem nm_2 : NM 2 1 := ⟨1, fun _ _ => rfl, by decide⟩
theorem nm_3 : NM 3 1 := ⟨1, fun _ _ => rfl, by decide⟩
theorem nm_4 : NM 4 1 := ⟨1, fun _ _ => rfl, by decide⟩
theorem nm_5 : NM 5 1 := ⟨1, fun _ _ => rfl, by decide⟩
theorem nm_6 : NM 6 1 := ⟨1, fun _ _ => rfl, by decide⟩
theorem nm_7 : NM 7 1 := ⟨1, fun _ _ => rfl, by decide⟩
theorem nm_8 : NM 8 1 := ⟨1, fun _ _ => rfl, by decide⟩
theorem nm_9 : NM 9 1 := ⟨1, fun _ _ => rfl, by decide⟩
theorem nm_394691 : NM 394691 4 := ⟨19683, fun _ _ => rfl, by decide⟩
theorem nm_12251 : NM 12251 3 := ⟨729, fun _ _ => rfl, by decide⟩
theorem nm_841 : NM 841 3 := ⟨729, fun _ _ => rfl, by decide⟩
theorem nm_3181 : NM 3181 3 := ⟨729, fun _ _ => rfl, by decide⟩
theorem nm_14420 : NM 14420 3 := ⟨729, fun _ _ => rfl, by decide⟩
theorem nm_1111 : NM 1111 3 := ⟨729, fun _ _ => rfl, by decide⟩
theorem nm_12387497 : NM 12387497 5 := ⟨531441, fun _ _ => rfl, by decide⟩
theorem nm_240373 : NM 240373 4 := ⟨19683, fun _ _ => rfl, by decide⟩
theorem nm_named (a : Int32) : ∃ d, d ≤ 5 ∧ NM (fL_named a) d := by
  unfold fL_named
  repeat' split
  all_goals first | exact ⟨3, by decide, nm_12251⟩ | exact ⟨3, by decide, nm_841⟩ | exact ⟨3, by decide, nm_3181⟩ | exact ⟨3, by decide, nm_14420⟩ | exact ⟨3, by decide, nm_1111⟩ | exact ⟨5, by decide, nm_12387497⟩ | exact ⟨4, by decide, nm_240373⟩ | exact ⟨4, by decide, nm_394691⟩
theorem mask_0 (v : Int32) : 0 ≤ (v &&& 2147483647).toInt := by
  have h : (v &&& 2147483647).toBitVec.toNat ≤ 2147483647 := by
    show (v.toBitVec &&& (2147483647 : Int32).toBitVec).toNat ≤ 2147483647
    rw [BitVec.toNat_and]
    exact Nat.le_trans Nat.and_le_right (by decide)
  show 0 ≤ (v &&& 2147483647).toBitVec.toInt
  rw [BitVec.toInt_eq_toNat_of_lt (by omega)]
  omega
theorem low_rng (v : Int32) {m : Int32} (hm : 0 < m.toInt) : 0 ≤ (fL_low v m).toInt ∧ (fL_low v m).toInt < m.toInt := by
  have h0 := mask_0 v
  unfold fL_low
  generalize v &&& 2147483647 = y at h0
  have hd : (y / m).toInt = y.toInt / m.toInt := div_t h0 hm
  have hr := i32rng y
  have q0 : 0 ≤ y.toInt / m.toInt := Int.ediv_nonneg h0 (by omega)
  have q1 : y.toInt / m.toInt * m.toInt ≤ y.toInt := Int.ediv_mul_le _ (by omega)
  have q2 : y.toInt < (y.toInt / m.toInt + 1) * m.toInt := Int.lt_ediv_add_one_mul_self _ hm
  have q3 : 0 ≤ y.toInt / m.toInt * m.toInt := Int.mul_nonneg q0 (by omega)
  have e : (y / m * m).toInt = y.toInt / m.toInt * m.toInt := by rw [i32muln (by rw [hd]; omega) (by rw [hd]; omega), hd]
  rw [Int.add_mul, Int.one_mul] at q2
  rw [i32subn (by rw [e]; omega) (by rw [e]; omega), e]
  omega
theorem low_in (v : Int32) {m : Int32} {N : Nat} (hm : m.toInt = N) (hN : 0 < N) : vp_in (fL_low v m) N := by
  have := low_rng v (m := m) (by omega)
  rw [vp_in_iff]; omega
theorem nm_9s {a : Int32} (h : vp_in a 9) : NM (1 + a) 1 := by
  refine inN (P := fun a => NM (1 + a) 1) (fun k hk => ?_) h
  have : k = 0 ∨ k = 1 ∨ k = 2 ∨ k = 3 ∨ k = 4 ∨ k = 5 ∨ k = 6 ∨ k = 7 ∨ k = 8 := by omega
  rcases this with z | z | z | z | z | z | z | z | z <;> subst z
  · exact nm_1
  · exact nm_2
  · exact nm_3
  · exact nm_4
  · exact nm_5
  · exact nm_6
  · exact nm_7
  · exact nm_8
  · exact nm_9
def sn (a : Int32) : Bool := f6_isSign (48 + ((if 0 ≤ a then a else -a) - (if 0 ≤ a then a else -a) / 10 * 10)) && (decide ((if 0 ≤ a then a else -a) ≤ 9) || f6_isSign (48 + (if 0 ≤ a then a else -a) / 10))
theorem sn_2 {a : Int32} (h : vp_in a 9) : sn (a - 2) = true := by
  refine inN (P := fun a => sn (a - 2) = true) ?_ h
  decide +kernel
theorem sn_1 {a : Int32} (h : vp_in a 15) : sn (a - 1) = true := by
  refine inN (P := fun a => sn (a - 1) = true) ?_ h
  decide +kernel
theorem sn_num (h : TK x k s p n) (hp : vp_in p 8) {a : Int32} (ha : sn a = true) (hn : n + 4 ≤ 120) : RS x k p (n + 4) (fL_sayNumber s p a) := by
  unfold sn at ha
  rw [Bool.and_eq_true, Bool.or_eq_true] at ha
  obtain ⟨a1, a2⟩ := ha
  unfold fL_sayNumber
  refine rs_go (Q := RS x k p (n + 4)) (ft h (by omega) hp (by decide)) (fun r hr => ?_)
  refine jn_go (fun v : Int32 × ST => 0 ≤ v.1.toInt ∧ TK x k v.2 p (n + 2)) (fun v hv => ?_) (fun K' hK' => ?_)
  · refine jn_go (fun y : Int32 => y = if 0 ≤ a then a else -a) (fun y hy => ?_) (fun K' hK' => ?_)
    · rw [← hy] at a1 a2
      refine jn_go (fun v : Int32 × ST => 0 ≤ v.1.toInt ∧ TK x k v.2 p (n + 3)) (fun v2 hv2 => ?_) (fun K' hK' => ?_)
      · refine rs_go (Q := RS x k p (n + 4)) (ft hv2.2 (by omega) hp a1) (fun r hr => ?_)
        exact ⟨rfl, hr.2.1, hr.2.2.mono (by omega)⟩
      · by_cases c : y ≤ 9
        · rw [if_pos c]; exact hK' _ ⟨hv.1, hv.2.mono (by omega)⟩
        · rw [if_neg c]
          refine rs_go (Q := RS x k p (n + 4)) (ft hv.2 (by omega) hp (a2.resolve_left (fun z => c (of_decide_eq_true z)))) (fun r hr => ?_)
          exact hK' _ ⟨hr.2.1, hr.2.2.mono (by omega)⟩
    · by_cases c : (0 : Int32) ≤ a
      · rw [if_pos c]; exact hK' _ (by rw [if_pos c])
      · rw [if_neg c]; exact hK' _ (by rw [if_neg c])
  · by_cases c : (0 : Int32) ≤ a
    · rw [if_pos c]; exact hK' _ ⟨hr.2.1, hr.2.2.mono (by omega)⟩
    · rw [if_neg c]
      refine rs_go (Q := RS x k p (n + 4)) (ft hr.2.2 (by omega) hp (by decide)) (fun r hr => ?_)
      exact hK' _ ⟨hr.2.1, hr.2.2.mono (by omega)⟩
theorem say_all (h : OKS s) (hp : vp_in p 8) (v : Int32) : RS s.1 s.2.1 p 120 (fL_say s p v) := by
  obtain ⟨M, hM⟩ := h
  have ln := hM.2.1.ln p hp
  unfold fL_say
  refine bnd_go (Q := RS s.1 s.2.1 p 120) ?_
  rw [q_length hM hp]
  dsimp only
  rw [if_pos rfl]
  by_cases c : M 8 2 0 p ≤ 80
  · rw [if_pos c]
    simp only [i32le, show (80 : Int32).toInt = 80 by decide] at c
    have h0 : TK s.1 s.2.1 s p 80 := ⟨⟨M, hM⟩, ⟨rfl, rfl⟩, by rw [len_e hM hp]; exact c⟩
    refine bnd_go (Q := RS s.1 s.2.1 p 120) ?_
    refine rs_go (Q := RS s.1 s.2.1 p 120) (ft h0 (by omega) hp (by decide)) (fun r5 h5 => ?_)
    refine bnd_go (Q := RS s.1 s.2.1 p 120) ?_
    obtain ⟨d, hd, hN⟩ := nm_named (fL_low v 9)
    refine rs_go (Q := RS s.1 s.2.1 p 120) (sn_name h5.2.2 hp (by omega) hN (by omega)) (fun r8 h8 => ?_)
    have t8 : TK s.1 s.2.1 r8.2 p 87 := h8.2.2.mono (by omega)
    refine jn_go (fun w : Int32 × ST => 0 ≤ w.1.toInt ∧ TK s.1 s.2.1 w.2 p 91) (fun v10 h10 => ?_) (fun K hK => ?_)
    · refine bnd_go (Q := RS s.1 s.2.1 p 120) ?_
      refine jn_go (fun _ : Bool => True) (fun v20 _ => ?_) (fun K hK => ?_)
      · refine jn_go (fun w : Int32 × ST => 0 ≤ w.1.toInt ∧ TK s.1 s.2.1 w.2 p 92) (fun v23 h23 => ?_) (fun K hK => ?_)
        · refine jn_go (fun w : Int32 × ST => 0 ≤ w.1.toInt ∧ TK s.1 s.2.1 w.2 p 97) (fun v28 h28 => ?_) (fun K hK => ?_)
          · refine jn_go (fun w : Int32 × ST => 0 ≤ w.1.toInt ∧ TK s.1 s.2.1 w.2 p 99) (fun v37 h37 => ?_) (fun K hK => ?_)
            · refine bnd_go (Q := RS s.1 s.2.1 p 120) ?_
              refine rs_go (Q := RS s.1 s.2.1 p 120) (sn_num h37.2 hp (sn_1 (low_in _ (by decide) (by decide))) (by omega)) (fun r44 h44 => ?_)
              refine jn_go (fun w : Int32 × ST => 0 ≤ w.1.toInt ∧ TK s.1 s.2.1 w.2 p 104) (fun v46 h46 => ?_) (fun K hK => ?_)
              · refine rs_go (Q := RS s.1 s.2.1 p 120) (ft h46.2 (by omega) hp (by decide)) (fun r51 h51 => ?_)
                exact ⟨rfl, h51.2.1, h51.2.2.mono (by omega)⟩
              · by_cases c2 : v20 = true
                · rw [if_pos c2]
                  refine rs_go (Q := RS s.1 s.2.1 p 120) (ft h44.2.2 (by omega) hp (by decide)) (fun r49 h49 => ?_)
                  exact hK _ ⟨h49.2.1, h49.2.2.mono (by omega)⟩
                · rw [if_neg c2]; exact hK _ ⟨h44.2.1, h44.2.2.mono (by omega)⟩
            · by_cases c2 : v20 = true
              · rw [if_pos c2]
                refine bnd_go (Q := RS s.1 s.2.1 p 120) ?_
                refine rs_go (Q := RS s.1 s.2.1 p 120) (sn_name h28.2 hp (by omega) (nm_9s (low_in _ (by decide) (by decide))) (by omega)) (fun r41 h41 => ?_)
                exact hK _ ⟨h41.2.1, h41.2.2.mono (by omega)⟩
              · rw [if_neg c2]; exact hK _ ⟨h28.1, h28.2.mono (by omega)⟩
          · by_cases c2 : v20 = true
            · rw [if_pos c2]
              refine bnd_go (Q := RS s.1 s.2.1 p 120) ?_
              refine jn_go (fun w : Int32 => ∃ d, d ≤ 4 ∧ NM w d) (fun v32 h32 => ?_) (fun K' hK' => ?_)
              · obtain ⟨d, hd, hN⟩ := h32
                refine rs_go (Q := RS s.1 s.2.1 p 120) (sn_name h23.2 hp (by omega) hN (by omega)) (fun r35 h35 => ?_)
                exact hK _ ⟨h35.2.1, h35.2.2.mono (by omega)⟩
              · split
                · exact hK' _ ⟨3, by decide, nm_841⟩
                · exact hK' _ ⟨4, by decide, nm_394691⟩
            · rw [if_neg c2]; exact hK _ ⟨h23.1, h23.2.mono (by omega)⟩
        · by_cases c2 : v20 = true
          · rw [if_pos c2]
            refine rs_go (Q := RS s.1 s.2.1 p 120) (ft h10.2 (by omega) hp (by decide)) (fun r26 h26 => ?_)
            exact hK _ ⟨h26.2.1, h26.2.2.mono (by omega)⟩
          · rw [if_neg c2]; exact hK _ ⟨h10.1, h10.2.mono (by omega)⟩
      · split
        · exact hK _ trivial
        · exact hK _ trivial
    · by_cases c2 : (3 : Int32) ≤ fL_low v 9
      · rw [if_pos c2]
        refine bnd_go (Q := RS s.1 s.2.1 p 120) ?_
        refine rs_go (Q := RS s.1 s.2.1 p 120) (sn_num t8 hp (sn_2 (low_in _ (by decide) (by decide))) (by omega)) (fun r14 h14 => ?_)
        exact hK _ ⟨h14.2.1, h14.2.2.mono (by omega)⟩
      · rw [if_neg c2]
        refine bnd_go (Q := RS s.1 s.2.1 p 120) ?_
        refine rs_go (Q := RS s.1 s.2.1 p 120) (sn_name t8 hp (by omega) (nm_9s (a := fL_low (v >>> (4 &&& 31)) 3) ?_) (by omega)) (fun r17 h17 => ?_)
        · have := low_in (v >>> (4 &&& 31)) (m := 3) (N := 3) (by decide) (by decide)
          rw [vp_in_iff] at this ⊢; omega
        · exact hK _ ⟨h17.2.1, h17.2.2.mono (by omega)⟩
  · rw [if_neg c]
    refine bnd_go (Q := RS s.1 s.2.1 p 120) ?_
    dsimp only
    rw [if_pos rfl]
    exact ⟨rfl, by show 0 ≤ (M 8 2 0 p).toInt; omega, ⟨M, hM⟩, ⟨rfl, rfl⟩, by rw [len_e hM hp]; omega⟩
end SAY
