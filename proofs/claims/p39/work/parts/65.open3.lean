/-! lists: the simulation -/
section OPS
variable {t x8 : Cm} {E : Int32 → Int32 → Prop} {L : Int} {w : Int32} {VA : Wm → Int32 → Int32 → Int32 × Wm} {M0 M : Wm} {m0 m1 : Cm} {d s P first : Int32}
/-- what stands behind a list's name -/
theorem LsC.mk' {i r1 : Int32} (hs : vp_in s 8) (hft : f12_faultOf m0 s = -1) (hT : TreeOk t m0 s (E s)) (hX : Tx12 m0 s) (hk0 : Ok12 m0) (hE : E s i) (h40 : f12_signAt m0 s i = 40) (hr : f12_nextAt m0 s (i + 1) = r1) (h1 : ¬ r1 = -1) : LsC t E m0 s (Pl s i) (f12_following m0 s r1) ∧ E s r1 ∧ f9_partOf t (Pl s i) 0 = Pl s r1 := by
  have nd := hT.2 _ hE
  obtain ⟨k3, hx, hLs⟩ := nd.2.2.2.1 h40
  rw [hr] at hx hLs
  have le := nd.1.le hk0 hs
  obtain ⟨p1, p2, _⟩ := Pl_in hs le.1 le.2
  have hE1 : E s r1 := hx.resolve_left h1
  have nd1 := hT.2 _ hE1
  refine ⟨⟨⟨hs, hft, hT, hX, hk0⟩, fun k hk => ?_, ?_, nd1.2.1⟩, hE1, ?_⟩
  · rw [part_e hk0 hs hX hT hLs hx p1 p2 (by omega), show k.toInt.toNat = (k.toInt.toNat - 1) + 1 by omega]
    show Px s (if r1 = -1 then -1 else skp12 m0 s (k.toInt.toNat - 1) (f12_following m0 s r1)) = _
    rw [if_neg h1]; rfl
  · rw [parts_e hs le.1 le.2, hLs.2, CN12_s hk0 hs hX nd1.1]; omega
  · rw [part_e hk0 hs hX hT hLs hx p1 p2 (by decide)]
    show Px s r1 = _
    rw [Px_e h1]
theorem push12_37 (m : Cm) (op first : Int32) : push12 m op first 37 0 (m 0 0 45) = 0 := fI_at _ _ _
theorem push12_g (m : Cm) (op f : Int32) {g : Nat} (h : ¬ (31 ≤ g ∧ g ≤ 37)) : push12 m op f g = m g := by
  unfold push12
  rw [u3_ne _ _ _ (by omega), u3_ne _ _ _ (by omega), u3_ne _ _ _ (by omega), u3_ne _ _ _ (by omega), u3_ne _ _ _ (by omega), u3_ne _ _ _ (by omega)]
theorem kpF_43 {m : Cm} {b : Int32} (hd : 0 ≤ d.toInt ∧ d.toInt < 30) (k : Nat) (hk : k < 3) : kpF m d b 43 0 (3 * d + nI k) = m 54 0 (3 * b + nI k) := by
  have i : ∀ k : Nat, k < 3 → (3 * d + nI k).toInt = 3 * d.toInt + k := fun k hk => by
    have tk : (nI k : Int32).toInt = k := nI_toInt (by omega)
    rw [idx3_t hd (by rw [tk]; omega) (by rw [tk]; omega), tk]
  have ne : ∀ a c : Nat, a < 3 → c < 3 → ¬ a = c → ¬ 3 * d + nI a = 3 * d + nI c := by
    intro a c ha hc hac z
    rw [i32eq, i a ha, i c hc] at z; omega
  unfold kpF
  rw [u3_ne _ _ _ (by decide), u3_ne _ _ _ (by decide)]
  have kc : k = 0 ∨ k = 1 ∨ k = 2 := by omega
  rcases kc with z | z | z <;> subst z
  · have a := ne 0 2 (by decide) (by decide) (by decide)
    have c := ne 0 1 (by decide) (by decide) (by decide)
    exact (u3_j a).trans ((u3_j c).trans (u3_at _ _ _ _ _))
  · have a := ne 1 2 (by decide) (by decide) (by decide)
    exact (u3_j a).trans (u3_at _ _ _ _ _)
  · exact u3_at _ _ _ _ _
theorem push_keep {m : Cm} {op f b : Int32} (hd : 0 ≤ d.toInt ∧ d.toInt < 30) : u3 (kpF (push12 m op f) d b) 0 0 45 (d + 1) 42 0 d = m 53 0 b ∧ u3 (kpF (push12 m op f) d b) 0 0 45 (d + 1) 44 0 d = m 55 0 b ∧ u3 (kpF (push12 m op f) d b) 0 0 45 (d + 1) 45 0 d = m 56 0 b ∧ ∀ k : Nat, k < 3 → u3 (kpF (push12 m op f) d b) 0 0 45 (d + 1) 43 0 (3 * d + nI k) = m 54 0 (3 * b + nI k) := by
  refine ⟨?_, ?_, ?_, fun k hk => ?_⟩
  · rw [u3_ne _ _ _ (by decide)]
    unfold kpF
    rw [u3_ne _ _ _ (by decide), u3_ne _ _ _ (by decide), u3_ne _ _ _ (by decide), u3_ne _ _ _ (by decide), u3_ne _ _ _ (by decide), u3_at, push12_g _ _ _ (by decide)]
  · rw [u3_ne _ _ _ (by decide)]
    unfold kpF
    rw [u3_ne _ _ _ (by decide), u3_at, push12_g _ _ _ (by decide)]
  · rw [u3_ne _ _ _ (by decide)]
    unfold kpF
    rw [u3_at, push12_g _ _ _ (by decide)]
  · rw [u3_ne _ _ _ (by decide), kpF_43 hd k hk, push12_g _ _ _ (by decide)]
set_option maxHeartbeats 4000000 in
theorem open_c {i : Int32} (hMi : Mi0 t x8 E L w M0 m0 d M m1 s i) (hs : vp_in s 8) (hft : f12_faultOf m0 s = -1) (hE : E s i) (h40 : f12_signAt m0 s i = 40) (hTx : TextR t x8 m0 E) (hk0 : Ok12 m0) (hC0 : Ct12 m0) (h99 : ∀ n : Int32, ExE (E s) n → CN12 m0 s n ≤ 99) (hL1 : L ≤ 1000000) (h10 : 0 ≤ (M0 4 0 0 2).toInt ∧ (M0 4 0 0 2).toInt ≤ 1000) (hV : SimV t x8 E L w VA (d + 1)) (h0 : H0 VA) (hc : (M 2 0 0 2).toInt ≤ 3 * d.toInt) (hb : M 2 0 0 2 = M0 2 0 0 2 ∧ M 2 0 0 3 = M0 2 0 0 3) :
    PostA t x8 E L w M0 m0 d (f7_valueOfList VA M (Pl s i) d) (f12_open m1) := by
  have t1 := hMi.tx
  have h9 := hMi.m9
  have ok1 := hMi.ok
  have e60 := hMi.2.2.2.1.2.1
  have e61 := hMi.2.2.2.1.2.2.1
  have e45 := hMi.2.2.2.1.2.2.2
  have hd := hMi.2.2.2.2.2.2.1
  have hC1 : Ct12 m1 := hMi.1.2.2.2.2.2.2.2
  have hT := (hTx s hs).2 hft
  have hX := faultOf_T hk0 hs hft
  have nd := hT.2 _ hE
  have le := nd.1.le hk0 hs
  obtain ⟨p1, p2, _⟩ := Pl_in hs le.1 le.2
  have hP9 : ¬ Pl s i = -1 := fun z => p1 (by rw [z]; decide)
  generalize hr0 : f12_nextAt m0 s (i + 1) = r1
  have hr : f12_nextAt m1 (m1 0 0 60) (m1 0 0 61 + 1) = r1 := by rw [e60, e61, nextAt_fr t1, hr0]
  obtain ⟨k3, hx, hLs⟩ := nd.2.2.2.1 h40
  rw [hr0] at hx hLs
  have isn : f12_isName m1 (m1 0 0 60) r1 = f12_isName m0 s r1 := by rw [e60, isName_fr t1]
  by_cases c0 : r1 = -1
  · have n1 : ¬ f12_isName m1 (m1 0 0 60) r1 = true := by
      rw [isn, c0]; unfold f12_isName; rw [if_pos rfl]; decide
    rw [open_no hr n1, list_no]
    · exact err0_c (idx := i) hMi.1 hMi.2.2.2.2.1 (by decide)
    · rw [h9, part_e hk0 hs hX hT hLs hx p1 p2 (by decide)]
      show ¬ f9_kindOf t (Px s r1) = 2
      have k0 : f9_kindOf t (-1) = 0 := by unfold f9_kindOf; rw [if_pos (show (-1 : Int32) < 0 by decide)]
      rw [c0, Px_m, k0]; decide
  · obtain ⟨hL, hE1, P0⟩ := LsC.mk' hs hft hT hX hk0 hE h40 hr0 c0
    have nk := name_k hL hE1
    by_cases c1 : f12_isName m0 s r1 = true
    · have n1 : f12_isName m1 (m1 0 0 60) r1 = true := by rw [isn]; exact c1
      have k2 : f9_kindOf (M 9) (f9_partOf (M 9) (Pl s i) 0) = 2 := by rw [h9, P0]; exact nk.mpr c1
      have nm : f12_nameAt m1 (m1 0 0 60) r1 = f12_nameAt m0 s r1 := by rw [e60, nameAt_fr t1]
      have cn : f9_contentOf (M 9) (f9_partOf (M 9) (Pl s i) 0) = f12_nameAt m0 s r1 := by rw [h9, P0]; exact (letter_e hL hE1 c1).2.1
      have fo : f12_following m1 (m1 0 0 60) r1 = f12_following m0 s r1 := by rw [e60, following_fr t1]
      generalize hf0 : f12_following m0 s r1 = first at hL fo
      generalize hnn : f12_nameAt m0 s r1 = name at nm cn
      have hNf : Nx12 m1 (m1 0 0 60) first := by rw [e60, Nx12_eq t1]; exact hL.2.2.2.nx hT
      have hX1 : Tx12 m1 (m1 0 0 60) := by rw [e60]; exact hX.fr t1
      have top : (m1 0 0 49).toInt ≤ 97 := by
        have := hMi.2.1.1.1
        rw [← this]; omega
      have CN : CN12 m1 (m1 0 0 60) first = CN12 m0 s first := by rw [e60, CN12_fr t1]
      have h99f := h99 first hL.2.2.2
      have op0 : f12_opOf m1 name = f10_of name := opOf_of hC1 _
      by_cases c2 : f10_of name = -1
      · -- a function
        have o1 : f12_opOf m1 (f12_nameAt m1 (m1 0 0 60) r1) = -1 := by rw [nm, op0]; exact c2
        rw [list_fun k2 (by rw [cn]; exact (of_neg _).mpr c2), cn]
        have D := definitionOf_e hMi.2.1.2 name
        by_cases c3 : f12_functionOf m1 name = -1
        · rw [open_f (fn := -1) hr n1 o1 (by rw [nm]; exact c3), if_pos rfl, opnK_n, fun_none (D.1 c3)]
          exact err0_c (idx := i) hMi.1 hMi.2.2.2.2.1 (by decide)
        · obtain ⟨d1, d2, d3⟩ := D.2 c3
          generalize hfn : f12_functionOf m1 name = fn at c3 d1 d2 d3
          rw [open_f (fn := fn) hr n1 o1 (by rw [nm]; exact hfn), if_neg c3, opnK_f, fo]
          have d3' := d3
          obtain ⟨q1, q2, q3, q4, q5, q6, q7, q8⟩ := d3
          have q3' := vp_in_iff.mp q3
          have fm : f12_isFormed m1 26 fn first = if f12_countFrom m1 (m1 0 0 60) first = m1 53 0 fn then true else false := by
            unfold f12_isFormed
            simp only [bnd_e]
            rw [if_pos trivial]
          have ec : (f12_countFrom m1 (m1 0 0 60) first).toInt = (CN12 m0 s first : Int) := by
            rw [← CN]; exact countFrom_eq ok1 (by rw [e60]; exact hs) hX1 hNf
          obtain ⟨pp1, pp2⟩ := parts1 hL
          have ecn : f12_countFrom m1 (m1 0 0 60) first = nI (CN12 m0 s first) := by rw [i32eq, ec, nI_toInt (by omega)]
          rw [fm, ecn]
          by_cases c4 : nI (CN12 m0 s first) = m1 53 0 fn
          · rw [if_pos c4, if_pos rfl]
            have c5 : CN12 m0 s first ≤ 3 := by
              rw [i32eq, nI_toInt (by omega)] at c4
              have := q3'.2
              omega
            have F := fn_cls (VA := VA) (M := M) (P := Pl s i) (d := d) (name := name) (r1 := M 2 6 0 fn) (cN := CN12 m0 s first) d2 q1 c5 (by rw [h9, q2, c4]) (by rw [h9]; exact pp1)
            rw [F, h9]
            have okp : Ok12 (push12 m1 26 first) := ok_push ok1 (by rw [vp_in_iff]; decide)
            have okk : Ok12 (f12_keep (push12 m1 26 first) (m1 0 0 45) fn) := (okT_f12_keep (m0 := push12 m1 26 first) ⟨okp, rfl, rfl⟩ (m1 0 0 45) fn (by rw [e45]; exact (lv_inc hd).2.2) d1).1
            rw [keep_e] at okk ⊢
            have po := (PO.push m1 26 first).trans (PO.keep (push12 m1 26 first) (m1 0 0 45) fn)
            have kp := (Kp.push (m := m1) 26 first e45).trans (Kp.keep (m := push12 m1 26 first) fn hd)
            have z0 : kpF (push12 m1 26 first) (m1 0 0 45) fn 0 = m1 0 := by
              unfold kpF
              rw [u3_ne _ _ _ (by decide), u3_ne _ _ _ (by decide), u3_ne _ _ _ (by decide), u3_ne _ _ _ (by decide), u3_ne _ _ _ (by decide), u3_ne _ _ _ (by decide)]
              exact push12_0 _ _ _
            have z45 : kpF (push12 m1 26 first) (m1 0 0 45) fn 0 0 45 = d := by rw [z0]; exact e45
            rw [z45, show d + 1 - 1 = d from (lv_inc hd).2.1]
            rw [e45] at z0 po okk ⊢
            have pu : ∀ g : Nat, ¬ g = 0 → ¬ (42 ≤ g ∧ g ≤ 45) → u3 (kpF (push12 m1 26 first) d fn) 0 0 45 (d + 1) g = push12 m1 26 first g := by
              intro g g0 g1
              unfold kpF
              rw [u3_ne _ _ _ g0, u3_ne _ _ _ (by omega), u3_ne _ _ _ (by omega), u3_ne _ _ _ (by omega), u3_ne _ _ _ (by omega), u3_ne _ _ _ (by omega), u3_ne _ _ _ (by omega)]
            have hM2 := hMi.up po z0 kp okk
            have b31 := push12_31 m1 26 first
            have b32 := push12_32 m1 26 first
            have b33 := push12_33 m1 26 first
            have b35 := push12_35 m1 26 first
            rw [e45] at b31 b32 b33 b35
            refine apply_c (bs := m1 55 0 fn) (bi := m1 56 0 fn) hV h0 hL rfl hM2 ⟨?_, ?_, ?_⟩ ?_ ?_ hc hb
            · rw [pu 31 (by decide) (by omega), b31, e60]
            · rw [pu 32 (by decide) (by omega), b32]
            · rw [pu 35 (by decide) (by omega), b35]
            · have b := push_keep (m := m1) (op := 26) (f := first) (d := d) (b := fn) hd
              refine ⟨b.1.trans c4.symm, c5, by rw [q2, c4], fun k hk => ?_, ⟨b.2.1, b.2.2.1⟩, q5, q6, by rw [← faultOf_fr t1]; exact q7, q8⟩
              have tk : (nI k : Int32).toInt = k := nI_toInt (by omega)
              have tc : (m1 53 0 fn).toInt = CN12 m0 s first := by rw [← c4, nI_toInt (by omega)]
              have q := q4 (nI k) (by rw [tk]; omega) (by rw [tk, tc]; omega)
              refine ⟨q.1, q.2.trans ?_⟩
              rw [b.2.2.2 k (by omega)]
            · rw [pu 33 (by decide) (by omega), b33]
          · rw [if_neg c4, if_neg (by decide), fun_bad (by rw [d2]; exact q1) (by rw [d2, h9, q2, pp1]; exact c4)]
            exact err0_c (idx := i) hMi.1 hMi.2.2.2.2.1 (by decide)
      · -- a word
        have o1 : f12_opOf m1 (f12_nameAt m1 (m1 0 0 60) r1) = f10_of name := by rw [nm, op0]
        have hin : vp_in (f10_of name) 26 := by
          rcases of_last (x := name) with ⟨a, _⟩ | ⟨a, b, _⟩
          · exact absurd a c2
          · rw [vp_in_iff]; omega
        have h26 : ¬ f10_of name = 26 := by intro z; rw [z, vp_in_iff] at hin; exact absurd hin (by decide)
        rw [list_word (op := f10_of name) k2 (by rw [cn]) (fun z => c2 ((of_neg _).mp z)), open_w hr n1 o1 c2, opnK_w c2 h26, fo]
        generalize hop : f10_of name = op at hin h26 c2
        have sorted : f12_isFormed m1 op (-1) first = true → PostA t x8 E L w M0 m0 d (wordV VA M (Pl s i) op d) (f12_advance (u3 (push12 m1 op first) 0 0 45 (push12 m1 op first 0 0 45 + 1)) (push12 m1 op first 0 0 45 + 1 - 1)) := by
          intro hfm
          have Ft := isFormed_t ok1 hC1 hX1 hNf hin hfm
          have Fm : FmT m0 s first op := by
            rw [e60] at Ft
            simp only [CN12_fr t1, isName_fr t1, goodAt_fr t1, following_fr t1, nameAt_fr t1] at Ft
            refine ⟨Ft.1, Ft.2.1, Ft.2.2.1, Ft.2.2.2.1, Ft.2.2.2.2.1, fun z => ?_⟩
            have f := Ft.2.2.2.2.2 z
            have hI : Ix12 m0 s (f12_following m0 s first) := CN12_2 hk0 hs hX (hL.2.2.2.nx hT) (by have a := Ft.1; have b := lst12_2 (j := op) (Or.inr (Or.inl z)); omega)
            exact ⟨f.1, by rw [opOf_of hC0, ← opOf_of hC1]; exact f.2.1, f.2.2.1, by rw [← isParts_fr2 hk0 ok1 hs hX t1 hI]; exact f.2.2.2⟩
          have okp : Ok12 (push12 m1 op first) := ok_push ok1 (by rw [vp_in_iff] at hin ⊢; omega)
          have z45 : push12 m1 op first 0 0 45 = d := by rw [push12_0]; exact e45
          rw [z45, show d + 1 - 1 = d from (lv_inc hd).2.1]
          have hM2 := hMi.up (PO.push m1 op first) (push12_0 _ _ _) (Kp.push (m := m1) op first e45) okp
          have b31 := push12_31 m1 op first
          have b32 := push12_32 m1 op first
          have b33 := push12_33 m1 op first
          have b34 := push12_34 m1 op first
          have b35 := push12_35 m1 op first
          have b37 := push12_37 m1 op first
          rw [e45] at b31 b32 b33 b34 b35 b37
          have pu : ∀ g : Nat, ¬ g = 0 → u3 (push12 m1 op first) 0 0 45 (d + 1) g = push12 m1 op first g := fun g g0 => u3_ne _ _ _ g0
          refine word_c hin Fm hL1 h10 hTx hC0 hP9 hV h0 hL hM2 ⟨?_, ?_, ?_⟩ ?_ ?_ ?_ hc hb
          · rw [pu 31 (by decide), b31, e60]
          · rw [pu 32 (by decide), b32]
          · rw [pu 35 (by decide), b35]
          · rw [pu 33 (by decide), b33]
          · rw [pu 34 (by decide), b34]
          · rw [pu 37 (by decide), b37]
        by_cases c17 : op = 17
        · subst c17
          have De := def_e (fn := -1) h9 hL h99f t1 e60 hC1 ok1
          by_cases cf : f12_isFormed m1 17 (-1) first = true
          · rw [if_pos cf, if_pos (De.1 cf)]; exact sorted cf
          · rw [if_neg cf]
            by_cases cf2 : f7_fits M (Pl s i) 17 = true
            · rcases De.2 cf with z | z
              · exact absurd cf2 z
              · rw [if_pos cf2]
                have e : wordV VA M (Pl s i) 17 d = bnd (f7_define M (Pl s i)) (fun (r38 : Int32 × Wm) => (r38.1, r38.2)) := rfl
                rw [e, pr_e, z]
                exact err0_c (idx := i) hMi.1 hMi.2.2.2.2.1 (by decide)
            · rw [if_neg cf2]
              exact err0_c (idx := i) hMi.1 hMi.2.2.2.2.1 (by decide)
        · have Fe := formed_e (fn := -1) hin h9 hL h99f t1 e60 hC1 c17
          rw [Fe]
          by_cases cf : f12_isFormed m1 op (-1) first = true
          · rw [if_pos cf, if_pos cf]; exact sorted cf
          · rw [if_neg cf, if_neg cf]
            exact err0_c (idx := i) hMi.1 hMi.2.2.2.2.1 (by decide)
    · have n1 : ¬ f12_isName m1 (m1 0 0 60) r1 = true := by rw [isn]; exact c1
      rw [open_no hr n1, list_no]
      · exact err0_c (idx := i) hMi.1 hMi.2.2.2.2.1 (by decide)
      · rw [h9, P0]; exact fun z => c1 (nk.mp z)
end OPS
