/-! THE LAW'S LOOP -/
section LOOP
variable {p : Program} {l : Launch} {e : Env} {s : State} {m : MethodId} {below : List Frame} {meth : Method} {c : Code} {cells slots : Nat} {Q : Unit → State → Prop} {D : va_G} {ta : wTa} {ad : wAd} {M : Wm} {b Ln : Nat} {xs : Nat → Int32} {i : Int32} {Lb : Int}
theorem law_sw (X : LwC p l s m meth c D ta ad b Ln xs) (hR : RW Lb M) (hLb : Lb ≤ 1000000) (hi : LwI Ln i) (hc : cells + 4 ≤ 601024 ∧ slots + 24 ≤ 7293034) (K : ∀ (M2 : Wm) (c2 s2 : Nat), RW (Lb + 1000) M2 → c2 ≤ cells + 4 → s2 ≤ slots + 24 → mw p l e room_1 s m #[Value.ref b] below meth c c2 s2 Q D ta ad 7 M2 2334 (lv0 ad b i) [] ()) (x : Int32) : mw p l e room_1 s m #[Value.ref b] below meth c cells slots Q D ta ad 7 M 39 (lv0 ad b i) [.int x] () := by
  have cx := X.1
  have key : ∀ k : Nat, k < 36 → x.toInt = (k : Int) → mw p l e room_1 s m #[Value.ref b] below meth c cells slots Q D ta ad 7 M 39 (lv0 ad b i) [.int x] () := by
    intro k hk ek
    match k, hk, ek with
    | 0, _, ek => exact mw_tableIn cx (off := 157) (tgt := 196) dL_law_39 (by rw [ek]; decide) (by rw [ek]; decide) (by rw [ek]; rfl) (by decide) (law_c0 X hR hLb hi hc K)
    | 1, _, ek => exact mw_tableIn cx (off := 225) (tgt := 264) dL_law_39 (by rw [ek]; decide) (by rw [ek]; decide) (by rw [ek]; rfl) (by decide) (law_c1 X hR hLb hi hc K)
    | 2, _, ek => exact mw_tableIn cx (off := 293) (tgt := 332) dL_law_39 (by rw [ek]; decide) (by rw [ek]; decide) (by rw [ek]; rfl) (by decide) (law_c2 X hR hLb hi hc K)
    | 3, _, ek => exact mw_tableIn cx (off := 349) (tgt := 388) dL_law_39 (by rw [ek]; decide) (by rw [ek]; decide) (by rw [ek]; rfl) (by decide) (law_c3 X hR hLb hi hc K)
    | 4, _, ek => exact mw_tableIn cx (off := 417) (tgt := 456) dL_law_39 (by rw [ek]; decide) (by rw [ek]; decide) (by rw [ek]; rfl) (by decide) (law_c4 X hR hLb hi hc K)
    | 5, _, ek => exact mw_tableIn cx (off := 473) (tgt := 512) dL_law_39 (by rw [ek]; decide) (by rw [ek]; decide) (by rw [ek]; rfl) (by decide) (law_c5 X hR hLb hi hc K)
    | 6, _, ek => exact mw_tableIn cx (off := 529) (tgt := 568) dL_law_39 (by rw [ek]; decide) (by rw [ek]; decide) (by rw [ek]; rfl) (by decide) (law_c6 X hR hLb hi hc K)
    | 7, _, ek => exact mw_tableIn cx (off := 597) (tgt := 636) dL_law_39 (by rw [ek]; decide) (by rw [ek]; decide) (by rw [ek]; rfl) (by decide) (law_c7 X hR hLb hi hc K)
    | 8, _, ek => exact mw_tableIn cx (off := 665) (tgt := 704) dL_law_39 (by rw [ek]; decide) (by rw [ek]; decide) (by rw [ek]; rfl) (by decide) (law_c8 X hR hLb hi hc K)
    | 9, _, ek => exact mw_tableIn cx (off := 721) (tgt := 760) dL_law_39 (by rw [ek]; decide) (by rw [ek]; decide) (by rw [ek]; rfl) (by decide) (law_c9 X hR hLb hi hc K)
    | 10, _, ek => exact mw_tableIn cx (off := 789) (tgt := 828) dL_law_39 (by rw [ek]; decide) (by rw [ek]; decide) (by rw [ek]; rfl) (by decide) (law_c10 X hR hLb hi hc K)
    | 11, _, ek => exact mw_tableIn cx (off := 880) (tgt := 919) dL_law_39 (by rw [ek]; decide) (by rw [ek]; decide) (by rw [ek]; rfl) (by decide) (law_c11 X hR hLb hi hc K)
    | 12, _, ek => exact mw_tableIn cx (off := 960) (tgt := 999) dL_law_39 (by rw [ek]; decide) (by rw [ek]; decide) (by rw [ek]; rfl) (by decide) (law_c12 X hR hLb hi hc K)
    | 13, _, ek => exact mw_tableIn cx (off := 1040) (tgt := 1079) dL_law_39 (by rw [ek]; decide) (by rw [ek]; decide) (by rw [ek]; rfl) (by decide) (law_c13 X hR hLb hi hc K)
    | 14, _, ek => exact mw_tableIn cx (off := 1108) (tgt := 1147) dL_law_39 (by rw [ek]; decide) (by rw [ek]; decide) (by rw [ek]; rfl) (by decide) (law_c14 X hR hLb hi hc K)
    | 15, _, ek => exact mw_tableIn cx (off := 1176) (tgt := 1215) dL_law_39 (by rw [ek]; decide) (by rw [ek]; decide) (by rw [ek]; rfl) (by decide) (law_c15 X hR hLb hi hc K)
    | 16, _, ek => exact mw_tableIn cx (off := 1232) (tgt := 1271) dL_law_39 (by rw [ek]; decide) (by rw [ek]; decide) (by rw [ek]; rfl) (by decide) (law_c16 X hR hLb hi hc K)
    | 17, _, ek => exact mw_tableIn cx (off := 1288) (tgt := 1327) dL_law_39 (by rw [ek]; decide) (by rw [ek]; decide) (by rw [ek]; rfl) (by decide) (law_c17 X hR hLb hi hc K)
    | 18, _, ek => exact mw_tableIn cx (off := 1356) (tgt := 1395) dL_law_39 (by rw [ek]; decide) (by rw [ek]; decide) (by rw [ek]; rfl) (by decide) (law_c18 X hR hLb hi hc K)
    | 19, _, ek => exact mw_tableIn cx (off := 1448) (tgt := 1487) dL_law_39 (by rw [ek]; decide) (by rw [ek]; decide) (by rw [ek]; rfl) (by decide) (law_c19 X hR hLb hi hc K)
    | 20, _, ek => exact mw_tableIn cx (off := 1504) (tgt := 1543) dL_law_39 (by rw [ek]; decide) (by rw [ek]; decide) (by rw [ek]; rfl) (by decide) (law_c20 X hR hLb hi hc K)
    | 21, _, ek => exact mw_tableIn cx (off := 1517) (tgt := 1556) dL_law_39 (by rw [ek]; decide) (by rw [ek]; decide) (by rw [ek]; rfl) (by decide) (law_c21 X hR hLb hi hc K)
    | 22, _, ek => exact mw_tableIn cx (off := 1585) (tgt := 1624) dL_law_39 (by rw [ek]; decide) (by rw [ek]; decide) (by rw [ek]; rfl) (by decide) (law_c22 X hR hLb hi hc K)
    | 23, _, ek => exact mw_tableIn cx (off := 1598) (tgt := 1637) dL_law_39 (by rw [ek]; decide) (by rw [ek]; decide) (by rw [ek]; rfl) (by decide) (law_c23 X hR hLb hi hc K)
    | 24, _, ek => exact mw_tableIn cx (off := 1654) (tgt := 1693) dL_law_39 (by rw [ek]; decide) (by rw [ek]; decide) (by rw [ek]; rfl) (by decide) (law_c24 X hR hLb hi hc K)
    | 25, _, ek => exact mw_tableIn cx (off := 1710) (tgt := 1749) dL_law_39 (by rw [ek]; decide) (by rw [ek]; decide) (by rw [ek]; rfl) (by decide) (law_c25 X hR hLb hi hc K)
    | 26, _, ek => exact mw_tableIn cx (off := 1766) (tgt := 1805) dL_law_39 (by rw [ek]; decide) (by rw [ek]; decide) (by rw [ek]; rfl) (by decide) (law_c26 X hR hLb hi hc K)
    | 27, _, ek => exact mw_tableIn cx (off := 1822) (tgt := 1861) dL_law_39 (by rw [ek]; decide) (by rw [ek]; decide) (by rw [ek]; rfl) (by decide) (law_c27 X hR hLb hi hc K)
    | 28, _, ek => exact mw_tableIn cx (off := 1878) (tgt := 1917) dL_law_39 (by rw [ek]; decide) (by rw [ek]; decide) (by rw [ek]; rfl) (by decide) (law_c28 X hR hLb hi hc K)
    | 29, _, ek => exact mw_tableIn cx (off := 1934) (tgt := 1973) dL_law_39 (by rw [ek]; decide) (by rw [ek]; decide) (by rw [ek]; rfl) (by decide) (law_c29 X hR hLb hi hc K)
    | 30, _, ek => exact mw_tableIn cx (off := 2002) (tgt := 2041) dL_law_39 (by rw [ek]; decide) (by rw [ek]; decide) (by rw [ek]; rfl) (by decide) (law_c30 X hR hLb hi hc K)
    | 31, _, ek => exact mw_tableIn cx (off := 2015) (tgt := 2054) dL_law_39 (by rw [ek]; decide) (by rw [ek]; decide) (by rw [ek]; rfl) (by decide) (law_c31 X hR hLb hi hc K)
    | 32, _, ek => exact mw_tableIn cx (off := 2071) (tgt := 2110) dL_law_39 (by rw [ek]; decide) (by rw [ek]; decide) (by rw [ek]; rfl) (by decide) (law_c32 X hR hLb hi hc K)
    | 33, _, ek => exact mw_tableIn cx (off := 2127) (tgt := 2166) dL_law_39 (by rw [ek]; decide) (by rw [ek]; decide) (by rw [ek]; rfl) (by decide) (law_c33 X hR hLb hi hc K)
    | 34, _, ek => exact mw_tableIn cx (off := 2183) (tgt := 2222) dL_law_39 (by rw [ek]; decide) (by rw [ek]; decide) (by rw [ek]; rfl) (by decide) (law_c34 X hR hLb hi hc K)
    | 35, _, ek => exact mw_tableIn cx (off := 2239) (tgt := 2278) dL_law_39 (by rw [ek]; decide) (by rw [ek]; decide) (by rw [ek]; rfl) (by decide) (law_c35 X hR hLb hi hc K)
    | k + 36, hk, _ => exact absurd hk (by omega)
  by_cases h : x.toInt < 0 ∨ 35 < x.toInt
  · exact mw_tableOut cx (tgt := 2334) dL_law_39 h (by decide) (K M cells slots ⟨hR.1, hR.2.1.mono (by omega), hR.2.2⟩ (by omega) (by omega))
  · exact key x.toInt.toNat (by omega) (by omega)
theorem law_loop (X : LwC p l s m meth c D ta ad b Ln xs) (hLn : Ln ≤ 2560) (hQ : ∀ (H : Heap) (ls : Array Slot), W p l e room_1 s m #[Value.ref b] below meth c H [] 601024 7293034 (Q ()) (F0 m 2341 ls [.int 1])) {c0 s0 : Nat} (h0 : c0 + 2600 ≤ 601024 ∧ s0 + 13000 ≤ 7293034) : ∀ (n : Nat) (i : Int32) (Lb : Int) (M : Wm) (cells slots : Nat), RW Lb M → Lb ≤ 200 * i.toInt → 0 ≤ i.toInt → i.toInt ≤ Ln → Ln - i.toInt < n → (cells : Int) ≤ c0 + i.toInt → (slots : Int) ≤ s0 + 5 * i.toInt → mw p l e room_1 s m #[Value.ref b] below meth c cells slots Q D ta ad 7 M 23 (lv0 ad b i) [] () := by
  have cx := X.1
  have hX := X.2.2.2.1
  have t5 : (5 : Int32).toInt = 5 := by decide
  have eL : (Int32.ofNat Ln).toInt = Ln := by
    rw [Int32.toInt_ofNat_of_lt (by omega)]
  have eL5 : (Int32.ofNat Ln - 5).toInt = Ln - 5 := by rw [i32subn (by rw [eL, t5]; omega) (by rw [eL, t5]; omega), eL, t5]
  intro n
  induction n with
  | zero => intro i Lb M cells slots _ _ _ _ h; omega
  | succ n ih =>
    intro i Lb M cells slots hR hL i0 i1 hn hc hs
    refine mw_iload cx (q := 25) 4 rfl dL_law_23 rfl ?_
    refine mw_aload_n cx (q := 26) 0 rfl rfl dL_law_25 rfl ?_
    refine mw_slen cx hX (q := 27) dL_law_26 rfl ?_
    refine mw_iconst cx (q := 28) (v := 5) dL_law_27 rfl rfl ?_
    refine mw_isub cx (q := 29) dL_law_28 rfl ?_
    refine mw_icmp_gt_k cx (tgt := 2340) (q := 32) dL_law_29 (by decide) rfl (fun _ => ?_) (fun h => ?_)
    · refine mw_iconst cx (q := 2341) (v := 1) dL_law_2340 rfl rfl ?_
      exact mw_law1 cx hX.2.2 hQ ⟨by omega, by omega⟩
    · simp only [i32lt, eL5] at h
      have hi : LwI Ln i := ⟨i0, by omega, hLn⟩
      refine mw_aload_n cx (q := 33) 0 rfl rfl dL_law_32 rfl ?_
      refine mw_iload cx (q := 35) 4 rfl dL_law_33 rfl ?_
      refine mw_sld cx hX (q := 36) (by rw [vp_in_iff]; omega) dL_law_35 rfl ?_
      refine mw_bipush cx (q := 38) (v := 63) dL_law_36 rfl rfl ?_
      refine mw_iand cx (q := 39) dL_law_38 rfl ?_
      refine law_sw X hR (by omega) hi ⟨by omega, by omega⟩ (fun M2 c2 s2 hR2 hc2 hs2 => ?_) _
      have e5 : (i + 5).toInt = i.toInt + 5 := by rw [i32addn (by rw [t5]; omega) (by rw [t5]; omega), t5]
      refine mw_iinc cx (q := 2337) (v := i + 5) (lv' := [(4, .int (i + 5)), (0, .ref b), (1, .ref (ad 11 0 0)), (2, .ref (ad 12 0 0)), (3, .ref (ad 13 0 0))]) 4 rfl rfl rfl (by decide) dL_law_2334 rfl ?_
      refine mw_goto cx (tgt := 23) dL_law_2337 (by decide) ?_
      refine mw_sub (lv' := lv0 ad b (i + 5)) [1, 2, 3, 4, 0] rfl ?_
      exact ih (i + 5) (Lb + 1000) M2 c2 s2 hR2 (by omega) (by omega) (by omega) (by omega) (by omega) (by omega)
end LOOP
