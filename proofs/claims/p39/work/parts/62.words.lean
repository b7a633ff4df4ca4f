/-! words: every list that a word begins -/
def wordV (VA : Wm → Int32 → Int32 → Int32 × Wm) (M : Wm) (p1 r5 p2 : Int32) : Int32 × Wm := if (wdSw r5) = 1 then bnd (f7_valueOfPart VA M p1 1 p2) (fun (r13 : Int32 × Wm) => if r13.1 = 0 then (1, r13.2) else (0, r13.2)) else if (wdSw r5) = 2 then bnd (f7_valueOfChoice VA M r5 p1 p2) (fun (r17 : Int32 × Wm) => (r17.1, r17.2)) else if (wdSw r5) = 3 then bnd (f7_valueOfChoice VA M r5 p1 p2) (fun (r20 : Int32 × Wm) => (r20.1, r20.2)) else if (wdSw r5) = 4 then bnd (f7_valueOfChoice VA M r5 p1 p2) (fun (r23 : Int32 × Wm) => (r23.1, r23.2)) else if (wdSw r5) = 5 then bnd (f7_valueOfWhile VA M p1 p2) (fun (r26 : Int32 × Wm) => (r26.1, r26.2)) else if (wdSw r5) = 6 then bnd (f7_valueOfRow VA M p1 1 p2) (fun (r29 : Int32 × Wm) => (r29.1, r29.2)) else if (wdSw r5) = 7 then bnd (f7_valueOfLet VA M p1 p2) (fun (r32 : Int32 × Wm) => (r32.1, r32.2)) else if (wdSw r5) = 8 then bnd (f7_setBinding VA M p1 p2) (fun (r35 : Int32 × Wm) => (r35.1, r35.2)) else if (wdSw r5) = 9 then bnd (f7_define M p1) (fun (r38 : Int32 × Wm) => (r38.1, r38.2)) else if (wdSw r5) = 10 then bnd (f9_partOf (M 9) p1 1) (fun (r41 : Int32) => bnd (f7_valueOfPart VA M p1 2 p2) (fun (r42 : Int32 × Wm) => bnd (f7_carry r42.2 (-1) (M 7 0 0 7) r41 r42.1) (fun (r44 : Int32 × Wm) => (r44.1, r44.2)))) else if (wdSw r5) = 11 then bnd (f9_partOf (M 9) p1 1) (fun (r47 : Int32) => bnd (f7_valueOfPart VA M p1 2 p2) (fun (r48 : Int32 × Wm) => bnd (f7_carry r48.2 (M 7 0 0 7) (-1) r47 r48.1) (fun (r50 : Int32 × Wm) => (r50.1, r50.2)))) else if (wdSw r5) = 12 then bnd (f7_give VA M p1 p2) (fun (r53 : Int32 × Wm) => (r53.1, r53.2)) else if (wdSw r5) = 13 then bnd (f7_orderAhead VA M p1 p2) (fun (r56 : Int32 × Wm) => (r56.1, r56.2)) else if (wdSw r5) = 14 then bnd (f7_valueOfPart VA M p1 1 p2) (fun (r59 : Int32 × Wm) => bnd (f7_valueOfScript VA r59.2 r59.1 p2) (fun (r61 : Int32 × Wm) => (r61.1, r61.2))) else if (wdSw r5) = 15 then bnd (f7_valueOfPart VA M p1 1 p2) (fun (r64 : Int32 × Wm) => bnd (f7_buyWith r64.2 r64.1) (fun (r66 : Int32 × Wm) => (r66.1, r66.2))) else if (wdSw r5) = 16 then bnd (f5_fuelOf (M 5) (M 7 0 0 7)) (fun (r69 : Int32) => (r69, M)) else if (wdSw r5) = 17 then ((M 4 0 0 2), M) else bnd (f7_valueOfPart VA M p1 1 p2) (fun (r71 : Int32 × Wm) => bnd (f7_valueOfPart VA r71.2 p1 2 p2) (fun (r73 : Int32 × Wm) => bnd (f7_combine r73.2 r5 r71.1 r73.1) (fun (r75 : Int32 × Wm) => (r75.1, r75.2))))
section OPS
variable {t x8 : Cm} {E : Int32 → Int32 → Prop} {L : Int} {w : Int32} {VA : Wm → Int32 → Int32 → Int32 × Wm} {M0 M : Wm} {m0 m1 : Cm} {d s P first : Int32}
/-- what a well-formed list keeps -/
def FmT (m0 : Cm) (s first op : Int32) : Prop := (lst12 op).toInt ≤ (CN12 m0 s first : Int) ∧ (CN12 m0 s first : Int) ≤ (mst12 op).toInt ∧ (op = 15 ∨ op = 16 → f12_isName m0 s first = true) ∧ (op = 18 ∨ op = 19 → ¬ f12_goodAt m0 s first = -1) ∧ (op = 20 → ¬ f12_goodAt m0 s (f12_following m0 s first) = -1) ∧ (op = 17 → f12_isName m0 s first = true ∧ f12_opOf m0 (f12_nameAt m0 s first) = -1 ∧ f12_goodAt m0 s first = -1 ∧ f12_isParts m0 s (f12_following m0 s first) = true)
theorem pr_e (x : Int32 × Wm) : bnd x (fun r => (r.1, r.2)) = x := by cases x; rfl
set_option maxHeartbeats 4000000 in
theorem word_c {op : Int32} (ho : vp_in op 26) (hF : FmT m0 s first op) (hL1 : L ≤ 1000000) (h10 : 0 ≤ (M0 4 0 0 2).toInt ∧ (M0 4 0 0 2).toInt ≤ 1000) (hTx : TextR t x8 m0 E) (hC0 : Ct12 m0) (hP9 : ¬ P = -1) (hV : SimV t x8 E L w VA (d + 1)) (h0 : H0 VA) (hL : LsC t E m0 s P first) (hM : Mid t x8 E L w M0 m0 d M m1) (hl : LvI m1 d s op first) (l33 : m1 33 0 d = 0) (l34 : m1 34 0 d = -1) (l37 : m1 37 0 d = 0) (hc : (M 2 0 0 2).toInt ≤ 3 * d.toInt) (hb : M 2 0 0 2 = M0 2 0 0 2 ∧ M 2 0 0 3 = M0 2 0 0 3) :
    PostA t x8 E L w M0 m0 d (wordV VA M P op d) (f12_advance m1 d) := by
  have hc3 : (M 2 0 0 2).toInt ≤ 3 * d.toInt + 3 := by omega
  obtain ⟨F1, F2, F3, F4, F5, F6⟩ := hF
  have hw : vp_in (M 7 0 0 7) 4 := by
    have e := hM.1.2.2.2.2.2.1.2.2.1
    rw [e]; exact hM.ok.cmp
  have two : ∀ k : Nat, op = nI k → k < 9 → CN12 m0 s first = 2 := by
    intro k e hk
    subst e
    have : k = 0 ∨ k = 1 ∨ k = 2 ∨ k = 3 ∨ k = 4 ∨ k = 5 ∨ k = 6 ∨ k = 7 ∨ k = 8 := by omega
    rcases this with z | z | z | z | z | z | z | z | z <;> subst z <;> (have a : (2 : Int) ≤ _ := F1; have b : _ ≤ (2 : Int) := F2; omega)
  have R : ∀ k : Nat, op = nI k → k < 9 → wordV VA M P op d = f7_combine (f7_valueOfPart VA (f7_valueOfPart VA M P 1 d).2 P 2 d).2 op (f7_valueOfPart VA M P 1 d).1 (f7_valueOfPart VA (f7_valueOfPart VA M P 1 d).2 P 2 d).1 := by
    intro k e hk
    subst e
    have : k = 0 ∨ k = 1 ∨ k = 2 ∨ k = 3 ∨ k = 4 ∨ k = 5 ∨ k = 6 ∨ k = 7 ∨ k = 8 := by omega
    rcases this with z | z | z | z | z | z | z | z | z <;> subst z <;> rfl
  have ho' := vp_in_iff.mp ho
  have eo : op = nI op.toInt.toNat := by rw [i32eq, nI_toInt (by omega)]; omega
  generalize hk : op.toInt.toNat = k at eo
  have hk26 : k < 26 := by omega
  by_cases ck : k < 9
  · rw [R k eo ck]
    exact reckon_c hV h0 hL (two k eo ck) hM hl l33 ⟨ho'.1, by omega⟩ hc3 hb
  · have : k = 9 ∨ k = 10 ∨ k = 11 ∨ k = 12 ∨ k = 13 ∨ k = 14 ∨ k = 15 ∨ k = 16 ∨ k = 17 ∨ k = 18 ∨ k = 19 ∨ k = 20 ∨ k = 21 ∨ k = 22 ∨ k = 23 ∨ k = 24 ∨ k = 25 := by omega
    clear R two hk ho' ck hk26
    rcases this with z | z | z | z | z | z | z | z | z | z | z | z | z | z | z | z | z <;> subst z <;> subst eo
    · have a : (1 : Int) ≤ _ := F1
      exact not_c hV hL (by omega) hM hl l33 hc3 hb
    · have a : (2 : Int) ≤ _ := F1
      exact choice_c hV h0 hL (by omega) (fun z => absurd z (by decide)) hM hl l33 (Or.inl rfl) hc3 hb
    · have a : (2 : Int) ≤ _ := F1
      exact choice_c hV h0 hL (by omega) (fun z => absurd z (by decide)) hM hl l33 (Or.inr (Or.inl rfl)) hc3 hb
    · have a : (3 : Int) ≤ _ := F1
      exact choice_c hV h0 hL (by omega) (fun _ => by omega) hM hl l33 (Or.inr (Or.inr rfl)) hc3 hb
    · have a : (2 : Int) ≤ _ := F1
      exact while_c hV h0 hL (by omega) hM hl l33 l34 l37 hc3 hb
    · have a : (1 : Int) ≤ _ := F1
      exact do_c hV h0 hL (by omega) hM hl l33 hc3 hb
    · have a : (3 : Int) ≤ _ := F1
      exact let_c hV h0 hL (by omega) (F3 (Or.inl rfl)) hM hl l33 hc hb
    · have a : (2 : Int) ≤ _ := F1
      exact set_c hV hL (by omega) (F3 (Or.inr rfl)) hM hl l33 hc3 hb
    · have a : (3 : Int) ≤ _ := F1
      have b : _ ≤ (3 : Int) := F2
      have f6 := F6 rfl
      have e : wordV VA M P (nI 17) d = bnd (f7_define M P) (fun (r38 : Int32 × Wm) => (r38.1, r38.2)) := rfl
      rw [e, pr_e]
      exact define_c hL hP9 (by omega) f6.1 f6.2.1 hC0 f6.2.2.1 f6.2.2.2 hM hl hb
    · have a : (2 : Int) ≤ _ := F1
      have b : _ ≤ (2 : Int) := F2
      have T := trade_c (op := 18) (f := 4) (to := M 7 0 0 7) hL1 hV hL (by omega) (F4 (Or.inl rfl)) hM hl l33 (Or.inl rfl) ⟨fun _ => ⟨rfl, rfl⟩, fun z => absurd z (by decide)⟩ hc3 hb
      have e : wordV VA M P (nI 18) d = f7_carry (f7_valueOfPart VA M P 2 d).2 (-1) (M 7 0 0 7) (f9_partOf (M 9) P 1) (f7_valueOfPart VA M P 2 d).1 := rfl
      rw [e, hM.m9]
      rw [ow_c hw] at T
      exact T
    · have a : (2 : Int) ≤ _ := F1
      have b : _ ≤ (2 : Int) := F2
      have T := trade_c (op := 19) (f := M 7 0 0 7) (to := 4) hL1 hV hL (by omega) (F4 (Or.inr rfl)) hM hl l33 (Or.inr rfl) ⟨fun z => absurd z (by decide), fun _ => ⟨rfl, rfl⟩⟩ hc3 hb
      have e : wordV VA M P (nI 19) d = f7_carry (f7_valueOfPart VA M P 2 d).2 (M 7 0 0 7) (-1) (f9_partOf (M 9) P 1) (f7_valueOfPart VA M P 2 d).1 := rfl
      rw [e, hM.m9]
      rw [ow_c hw] at T
      exact T
    · have a : (3 : Int) ≤ _ := F1
      have b : _ ≤ (3 : Int) := F2
      exact give_c hL1 hV h0 hL (by omega) (F5 rfl) hM hl l33 hc3 hb
    · have a : (3 : Int) ≤ _ := F1
      have b : _ ≤ (3 : Int) := F2
      exact at_c h10 hV h0 hL (by omega) hM hl l33 hc3 hb
    · have a : (1 : Int) ≤ _ := F1
      exact call_c hV hL hTx (by omega) hM hl l33 hc3 hb
    · have a : (1 : Int) ≤ _ := F1
      exact buy_c hV hL (by omega) hM hl l33 hc3 hb
    · exact fuel_c (op := 24) hM hl (Or.inl rfl) hb
    · exact fuel_c (op := 25) hM hl (Or.inr rfl) hb
end OPS
