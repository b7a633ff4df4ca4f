/-! THE LAW'S OWN WALK: its loop, its end -/
section LWK
variable {p : Program} {l : Launch} {ev : Env} {s : State} {m : MethodId} {below : List Frame} {meth : Method} {c : Code} {cb : Nat} {Q : Unit → State → Prop} {D : va_G} {ta : wTa} {ad : wAd} {M : Wm} {b Ln : Nat} {xs : Nat → Int32} {v e : Int32} {x : Int32 → Int32} {σ : ST}
def LwC (p : Program) (l : Launch) (s : State) (m : MethodId) (meth : Method) (c : Code) (D : va_G) (ta : wTa) (ad : wAd) (b Ln : Nat) (xs : Nat → Int32) : Prop := Cx p s m #[Value.ref b] meth c D ta ad RL cL_law 8 ∧ wZx ad s s.heap ∧ wCx s ∧ ScX ad s b Ln xs ∧ l.stackTraces = false
theorem hi_law1 (cx : Cx p s m #[Value.ref b] meth c D ta ad RL cL_law 8) (hA : ∀ q : Nat, wA ad q → s.heap.size ≤ q) {pc : Nat} {lv : List (Nat × Value)} (k : ∀ (H : Heap) (ls : Array Slot), W p l ev room_1 s m #[Value.ref b] below meth c H [] 600104 7301314 (Q ()) (F0 m pc ls [.int 1])) (hc : cb ≤ 600104) : mw p l ev room_1 s m #[Value.ref b] below meth c cb (6 * cb) Q D ta ad 8 M pc lv [.int 1] () := fun H locs ls hP hS hl => by
  refine va_forget (fun q hq => hA _ (hS.2.2 q hq)) ?_
  exact W.widen hc (by omega) (k H ls)
theorem law_q (X : LwC p l s m meth c D ta ad b Ln xs) (hG : GM x σ σ M) (hc : cb + 10 ≤ 600104) (K : ∀ M : Wm, GM x σ σ M → mw p l ev room_1 s m #[Value.ref b] below meth c (cb + 10) (6 * (cb + 10)) Q D ta ad 8 M 24 ([(4, .int (e + 1)), (3, .ref (ad 31 0 0)), (2, .ref (ad 11 0 0)), (1, .ref (ad 13 0 0)), (0, .ref b)]) ([]) ()) : mw p l ev room_1 s m #[Value.ref b] below meth c (cb) (6 * (cb)) Q D ta ad 8 M 239 ((5, .int v) :: [(4, .int e), (3, .ref (ad 31 0 0)), (2, .ref (ad 11 0 0)), (1, .ref (ad 13 0 0)), (0, .ref b)]) ([]) () := by
  obtain ⟨cx, hzx, hcx, hX, hl⟩ := X
  refine mw_iload cx (q := 241) 0 rfl dL_law_239 rfl ?_
  refine mw_iconst cx (q := 242) (v := 5) dL_law_241 rfl rfl ?_
  refine mw_ishr cx (q := 243) dL_law_242 rfl ?_
  refine mw_bipush cx (q := 245) (v := 8) dL_law_243 rfl rfl ?_
  obtain ⟨g, eg⟩ : ∃ g : Int32, g = fL_low (v >>> (5 &&& 31)) 8 := ⟨_, rfl⟩
  have hg : vp_in g 8 := by rw [eg]; exact low_in _ (by decide) (by decide)
  refine mw_callS cx (q := 248) (d := 0) (As := [.int (v >>> (5 &&& 31)), .int 8]) (z := fip M g) (st := []) (st1 := [.int g]) (M' := M) (by rw [eg]; exact mc_L_low l D ta ad M (v >>> (5 &&& 31)) 8 (by decide)) cs_L_67 ⟨Nat.le_of_ble_eq_true rfl, Nat.le_of_ble_eq_true rfl⟩ (lc_r (by omega)) (by simp [Value.category]) rfl rfl rfl dL_law_245 rfl ?_
  refine mw_istore cx (q := 250) (lv' := [(6, .int g), (5, .int v), (4, .int e), (3, .ref (ad 31 0 0)), (2, .ref (ad 11 0 0)), (1, .ref (ad 13 0 0)), (0, .ref b)]) rfl (by decide) dL_law_248 rfl ?_
  refine mw_aload_n cx (q := 251) 4 rfl rfl dL_law_250 rfl ?_
  refine mw_iload cx (q := 253) 0 rfl dL_law_251 rfl ?_
  obtain ⟨t1, t2, t3, t4⟩ := ex_ok hG.2.1 hg
  have ef : g_fault σ.2.2 g = (0, (g_fault σ.2.2 g).2) := Prod.ext t1 rfl
  have el : g_length σ.2.2 g = (0, (g_length σ.2.2 g).2) := Prod.ext t2 rfl
  generalize hf : (g_fault σ.2.2 g).2 = f at ef t3 t4
  generalize hn : (g_length σ.2.2 g).2 = n at el t4
  generalize hw : W_expressions σ g = z at t3
  refine lc_H cx hzx hcx (q := 256) (d0 := 9) (u0 := 2) (As := [.ref (ad 11 0 0), .int g]) (v := z) (Γ' := GM x σ σ) (st := []) (by rw [← hw]; exact ml_L_expressions hl D ta ad g) hG cs_L_197 ⟨Nat.le_of_ble_eq_true rfl, Nat.le_of_ble_eq_true rfl⟩ (by omega) (by simp [Value.category]) rfl dL_law_253 rfl (fun M hG => ?_)
  refine mw_iconst cx (q := 257) (v := (-1)) dL_law_256 rfl rfl ?_
  have tail : ∀ (M : Wm) (c2 : Nat), GM x σ σ M → c2 ≤ cb + 3 → mw p l ev room_1 s m #[Value.ref b] below meth c (c2) (6 * (c2)) Q D ta ad 8 M 282 ([(6, .int g), (5, .int v), (4, .int e), (3, .ref (ad 31 0 0)), (2, .ref (ad 11 0 0)), (1, .ref (ad 13 0 0)), (0, .ref b)]) ([]) () := by
    intro M c2 hG h2
    refine mw_aload_n cx (q := 283) 4 rfl rfl dL_law_282 rfl ?_
    refine mw_iload cx (q := 285) 0 rfl dL_law_283 rfl ?_
    obtain ⟨M, hG, hM⟩ := C_fault (D := D) (ta := ta) (ad := ad) hl hG g
    rw [ef] at hM
    refine lc_V cx hzx (q := 288) (d0 := 8) (u0 := 1) (As := [.int g]) (v := f) (M' := M) (st := []) hM cv_L_130 rfl rfl rfl vi_11_0 ⟨Nat.le_of_ble_eq_true rfl, Nat.le_of_ble_eq_true rfl⟩ (by omega) (by simp [Value.category]) rfl dL_law_285 rfl ?_
    refine mw_aload_n cx (q := 289) 4 rfl rfl dL_law_288 rfl ?_
    refine mw_iload cx (q := 291) 0 rfl dL_law_289 rfl ?_
    obtain ⟨M, hG, hM⟩ := C_length (D := D) (ta := ta) (ad := ad) hl hG g
    rw [el] at hM
    refine lc_V cx hzx (q := 294) (d0 := 8) (u0 := 1) (As := [.int g]) (v := n) (M' := M) (st := [.int f]) hM cv_L_64 rfl rfl rfl vi_11_0 ⟨Nat.le_of_ble_eq_true rfl, Nat.le_of_ble_eq_true rfl⟩ (by omega) (by simp [Value.category]) rfl dL_law_291 rfl ?_
    refine mw_icmp_le_k cx (tgt := 299) (q := 297) dL_law_294 (by decide) rfl (fun _ => ?_) (fun h => ?_)
    · refine mw_sub (lv' := [(4, .int e), (3, .ref (ad 31 0 0)), (2, .ref (ad 11 0 0)), (1, .ref (ad 13 0 0)), (0, .ref b)]) [2, 3, 4, 5, 6] rfl ?_
      refine mw_iinc cx (q := 302) (v := (e + 1)) (lv' := [(4, .int (e + 1)), (3, .ref (ad 31 0 0)), (2, .ref (ad 11 0 0)), (1, .ref (ad 13 0 0)), (0, .ref b)]) 0 rfl rfl rfl (by decide) dL_law_299 rfl ?_
      refine mw_goto cx (tgt := 24) dL_law_302 (by decide) ?_
      exact gl_w (by omega) (K M hG)
    · exact absurd (Int32.le_iff_toInt_le.mpr t4) h
  refine mw_icmp_ne_k cx (tgt := 264) (q := 260) dL_law_257 (by decide) rfl (fun hz => ?_) (fun hz => ?_)
  · have hff : f.toInt < 0 := by have := mt t3.mpr hz; omega
    refine mw_iconst cx (q := 265) (v := 0) dL_law_264 rfl rfl ?_
    refine mw_aload_n cx (q := 266) 4 rfl rfl dL_law_265 rfl ?_
    refine mw_iload cx (q := 268) 0 rfl dL_law_266 rfl ?_
    obtain ⟨M, hG, hM⟩ := C_fault (D := D) (ta := ta) (ad := ad) hl hG g
    rw [ef] at hM
    refine lc_V cx hzx (q := 271) (d0 := 8) (u0 := 1) (As := [.int g]) (v := f) (M' := M) (st := [.int 0]) hM cv_L_130 rfl rfl rfl vi_11_0 ⟨Nat.le_of_ble_eq_true rfl, Nat.le_of_ble_eq_true rfl⟩ (by omega) (by simp [Value.category]) rfl dL_law_268 rfl ?_
    refine mw_if_lt_k cx (tgt := 278) (q := 274) dL_law_271 (by decide) rfl (fun hy => ?_) (fun hy => ?_)
    · refine mw_iconst cx (q := 279) (v := 0) dL_law_278 rfl rfl ?_
      refine mw_icmp_ne_k cx (tgt := 297) (q := 282) dL_law_279 (by decide) rfl (fun h => absurd rfl h) (fun _ => ?_)
      exact gl_w (Nat.le_refl _) (tail M (cb + 2 + 1) hG (by omega))
    · exact absurd hff (by rw [Int32.lt_iff_toInt_lt, show (0 : Int32).toInt = 0 by decide] at hy; exact hy)
  · have hff : 0 ≤ f.toInt := t3.mp hz
    refine mw_iconst cx (q := 261) (v := 1) dL_law_260 rfl rfl ?_
    refine mw_goto cx (tgt := 265) dL_law_261 (by decide) ?_
    refine mw_aload_n cx (q := 266) 4 rfl rfl dL_law_265 rfl ?_
    refine mw_iload cx (q := 268) 0 rfl dL_law_266 rfl ?_
    obtain ⟨M, hG, hM⟩ := C_fault (D := D) (ta := ta) (ad := ad) hl hG g
    rw [ef] at hM
    refine lc_V cx hzx (q := 271) (d0 := 8) (u0 := 1) (As := [.int g]) (v := f) (M' := M) (st := [.int 1]) hM cv_L_130 rfl rfl rfl vi_11_0 ⟨Nat.le_of_ble_eq_true rfl, Nat.le_of_ble_eq_true rfl⟩ (by omega) (by simp [Value.category]) rfl dL_law_268 rfl ?_
    refine mw_if_lt_k cx (tgt := 278) (q := 274) dL_law_271 (by decide) rfl (fun hy => ?_) (fun hy => ?_)
    · exact absurd hff (by rw [Int32.lt_iff_toInt_lt, show (0 : Int32).toInt = 0 by decide] at hy; omega)
    · refine mw_iconst cx (q := 275) (v := 1) dL_law_274 rfl rfl ?_
      refine mw_goto cx (tgt := 279) dL_law_275 (by decide) ?_
      refine mw_icmp_ne_k cx (tgt := 297) (q := 282) dL_law_279 (by decide) rfl (fun h => absurd rfl h) (fun _ => ?_)
      exact gl_w (Nat.le_refl _) (tail M (cb + 2 + 1) hG (by omega))
theorem mod12 (k : Nat) (hk : k < 100) (h : nI k - nI k / 12 * 12 = 11) : (k + 1) / 12 = k / 12 + 1 := by
  revert h; revert hk; revert k
  decide
theorem law_o (X : LwC p l s m meth c D ta ad b Ln xs) (hx : σ.1 = x) (hG : GM x σ σ M) {k : Nat} (he : e = nI k) (hk : k < 100) {C : Nat → Nat} (hC : cb ≤ C (k / 12)) (hCs : ∀ j : Nat, C (j + 1) = C j + 21605) (hc : C ((k + 1) / 12) ≤ 600104) (K : ∀ M : Wm, GM x σ σ M → mw p l ev room_1 s m #[Value.ref b] below meth c (C ((k + 1) / 12)) (6 * (C ((k + 1) / 12))) Q D ta ad 8 M 239 ((5, .int v) :: [(4, .int e), (3, .ref (ad 31 0 0)), (2, .ref (ad 11 0 0)), (1, .ref (ad 13 0 0)), (0, .ref b)]) ([]) ()) : mw p l ev room_1 s m #[Value.ref b] below meth c (cb) (6 * (cb)) Q D ta ad 8 M 220 ((5, .int v) :: [(4, .int e), (3, .ref (ad 31 0 0)), (2, .ref (ad 11 0 0)), (1, .ref (ad 13 0 0)), (0, .ref b)]) ([]) () := by
  obtain ⟨cx, hzx, hcx, hX, hl⟩ := X
  have hm : C (k / 12) ≤ C ((k + 1) / 12) := by
    have : (k + 1) / 12 = k / 12 ∨ (k + 1) / 12 = k / 12 + 1 := by omega
    rcases this with z | z
    · rw [z]; exact Nat.le_refl _
    · rw [z, hCs]; omega
  refine mw_iload cx (q := 222) 1 rfl dL_law_220 rfl ?_
  refine mw_bipush cx (q := 224) (v := 12) dL_law_222 rfl rfl ?_
  refine mw_irem cx (q := 225) dL_law_224 rfl (by decide) ?_
  refine mw_bipush cx (q := 227) (v := 11) dL_law_225 rfl rfl ?_
  refine mw_icmp_ne_k cx (tgt := 239) (q := 230) dL_law_227 (by decide) rfl (fun _ => gl_w (by omega) (K M hG)) (fun hz => ?_)
  have e12 : C ((k + 1) / 12) = C (k / 12) + 21605 := by
    have : (k + 1) / 12 = k / 12 + 1 := mod12 k hk (by rw [← he]; exact hz)
    rw [this, hCs]
  refine mw_aload_n cx (q := 231) 3 rfl rfl dL_law_230 rfl ?_
  refine lc_S cx hzx hcx (q := 234) (d0 := 9) (u0 := 21605) (As := [.ref (ad 11 0 0)]) (v := 1) (Γ' := GM x σ σ) (st := []) (by have t := ml_L_areOrdersSo (w := x) (sa := σ) (sb := σ) hl D ta ad; rw [or_all hG.2.1] at t; exact t) hG cs_L_193 ⟨Nat.le_of_ble_eq_true rfl, Nat.le_of_ble_eq_true rfl⟩ (by omega) (by simp [Value.category]) rfl dL_law_231 rfl (fun M hG => ?_)
  refine mw_if_ne_k cx (tgt := 239) (q := 237) dL_law_234 (by decide) rfl (fun _ => gl_w (by omega) (K M hG)) (fun z => absurd z (by decide))
theorem law_a (X : LwC p l s m meth c D ta ad b Ln xs) (hx : σ.1 = x) (hG : GM x σ σ M) {k : Nat} (he : e = nI k) (hk : k < 100) {C : Nat → Nat} (hC : cb + 644 + 1332 ≤ C (k / 12)) (hCs : ∀ j : Nat, C (j + 1) = C j + 21605) (hc : C ((k + 1) / 12) + 10 ≤ 600104) (K : ∀ M : Wm, GM x σ σ M → mw p l ev room_1 s m #[Value.ref b] below meth c (C ((k + 1) / 12) + 10) (6 * (C ((k + 1) / 12) + 10)) Q D ta ad 8 M 24 ([(4, .int (e + 1)), (3, .ref (ad 31 0 0)), (2, .ref (ad 11 0 0)), (1, .ref (ad 13 0 0)), (0, .ref b)]) ([]) ()) : mw p l ev room_1 s m #[Value.ref b] below meth c (cb) (6 * (cb)) Q D ta ad 8 M 194 ((5, .int v) :: [(4, .int e), (3, .ref (ad 31 0 0)), (2, .ref (ad 11 0 0)), (1, .ref (ad 13 0 0)), (0, .ref b)]) ([]) () := by
  have hm : C (k / 12) ≤ C ((k + 1) / 12) := by
    have : (k + 1) / 12 = k / 12 ∨ (k + 1) / 12 = k / 12 + 1 := by omega
    rcases this with z | z
    · rw [z]; exact Nat.le_refl _
    · rw [z, hCs]; omega
  have go : ∀ (M : Wm) (c2 : Nat), GM x σ σ M → c2 ≤ C (k / 12) → mw p l ev room_1 s m #[Value.ref b] below meth c (c2) (6 * (c2)) Q D ta ad 8 M 220 ((5, .int v) :: [(4, .int e), (3, .ref (ad 31 0 0)), (2, .ref (ad 11 0 0)), (1, .ref (ad 13 0 0)), (0, .ref b)]) ([]) () := fun M c2 hG h2 => law_o X hx hG he hk h2 hCs (by omega) (fun M hG => law_q X hG (by omega) K)
  obtain ⟨cx, hzx, hcx, hX, hl⟩ := X
  refine mw_aload_n cx (q := 195) 3 rfl rfl dL_law_194 rfl ?_
  refine mw_aload_n cx (q := 196) 2 rfl rfl dL_law_195 rfl ?_
  refine lc_S cx hzx hcx (q := 199) (d0 := 9) (u0 := 644) (As := [.ref (ad 11 0 0), .ref (ad 31 0 0)]) (v := 1) (Γ' := GM x σ σ) (st := []) (by have t := ml_L_areAlike (w := x) (sa := σ) (sb := σ) hl D ta ad; rw [al_all hG.2.1 rfl] at t; exact t) hG cs_L_185 ⟨Nat.le_of_ble_eq_true rfl, Nat.le_of_ble_eq_true rfl⟩ (by omega) (by simp [Value.category]) rfl dL_law_196 rfl (fun M hG => ?_)
  refine mw_if_eq_k cx (tgt := 237) (q := 202) dL_law_199 (by decide) rfl (fun z => absurd z (by decide)) (fun _ => ?_)
  refine mw_iload cx (q := 204) 1 rfl dL_law_202 rfl ?_
  refine mw_bipush cx (q := 206) (v := 10) dL_law_204 rfl rfl ?_
  refine mw_irem cx (q := 207) dL_law_206 rfl (by decide) ?_
  refine mw_bipush cx (q := 209) (v := 9) dL_law_207 rfl rfl ?_
  refine mw_icmp_ne_k cx (tgt := 220) (q := 212) dL_law_209 (by decide) rfl (fun _ => go M _ hG (by omega)) (fun _ => ?_)
  refine mw_aload_n cx (q := 213) 3 rfl rfl dL_law_212 rfl ?_
  refine mw_aload_n cx (q := 214) 4 rfl rfl dL_law_213 rfl ?_
  refine lc_S cx hzx hcx (q := 217) (d0 := 9) (u0 := 1332) (As := [.ref (ad 11 0 0), .ref (ad 13 0 0)]) (v := 1) (Γ' := GM x σ σ) (st := []) (by have t := ml_L_areStocksSo (w := σ.1) (sa := σ) (sb := σ) hl D ta ad; rw [so_all hG.2.1, hx] at t; exact t) hG cs_L_189 ⟨Nat.le_of_ble_eq_true rfl, Nat.le_of_ble_eq_true rfl⟩ (by omega) (by simp [Value.category]) rfl dL_law_214 rfl (fun M hG => ?_)
  exact mw_if_eq_k cx (tgt := 237) (q := 220) dL_law_217 (by decide) rfl (fun z => absurd z (by decide)) (fun _ => go M _ hG (by omega))
theorem law_s (X : LwC p l s m meth c D ta ad b Ln xs) (hx : σ.1 = x) (hG : GM x σ σ M) (hc : cb + 10 ≤ 600104) (hb : XB (upx x (fL_low (v >>> (3 &&& 31)) 3) ((1 : Int32) + fL_low (v >>> (6 &&& 31)) 9))) (K : ∀ (τ : ST) (M : Wm), τ.1 = upx x (fL_low (v >>> (3 &&& 31)) 3) ((1 : Int32) + fL_low (v >>> (6 &&& 31)) 9) → τ.2.1 = σ.2.1 → GM τ.1 τ τ M → mw p l ev room_1 s m #[Value.ref b] below meth c (cb + 10) (6 * (cb + 10)) Q D ta ad 8 M 194 ((5, .int v) :: [(4, .int e), (3, .ref (ad 31 0 0)), (2, .ref (ad 11 0 0)), (1, .ref (ad 13 0 0)), (0, .ref b)]) ([]) ()) : mw p l ev room_1 s m #[Value.ref b] below meth c (cb) (6 * (cb)) Q D ta ad 8 M 49 ((5, .int v) :: [(4, .int e), (3, .ref (ad 31 0 0)), (2, .ref (ad 11 0 0)), (1, .ref (ad 13 0 0)), (0, .ref b)]) ([]) () := by
  obtain ⟨cx, hzx, hcx, hX, hl⟩ := X
  obtain ⟨g, eg⟩ : ∃ g : Int32, g = fL_low (v >>> (3 &&& 31)) 3 := ⟨_, rfl⟩
  obtain ⟨r, er⟩ : ∃ r : Int32, r = fL_low (v >>> (6 &&& 31)) 9 := ⟨_, rfl⟩
  have hg3 : vp_in g 3 := by rw [eg]; exact low_in _ (by decide) (by decide)
  have hg : vp_in g 8 := by rw [vp_in_iff] at hg3 ⊢; omega
  have hr := low_rng (v >>> (6 &&& 31)) (m := 9) (by decide)
  rw [← er, show (9 : Int32).toInt = 9 by decide] at hr
  rw [← eg, ← er] at hb
  have en : (1 + r).toInt = 1 + r.toInt := by rw [i32addn (by rw [t32_1]; omega) (by rw [t32_1]; omega), t32_1]
  obtain ⟨su1, su2, su3, su4, _, su5, su6⟩ := su_ok (n := 1 + r) hG.2.1 hg (by omega) (by omega) (by rw [hx]; exact hb)
  have su7 := su_w su1
  obtain ⟨τ, eτ⟩ : ∃ τ : ST, τ = (F_supply σ g (1 + r)).2 := ⟨_, rfl⟩
  obtain ⟨h, eh⟩ : ∃ h : Int32, h = (F_supply σ g (1 + r)).1.2 := ⟨_, rfl⟩
  rw [← eτ, ← eh] at su7
  rw [← eτ] at su3 su4 su5 su6
  rw [← eh] at su2 su6
  rw [hx] at su3
  refine mw_iload cx (q := 51) 0 rfl dL_law_49 rfl ?_
  refine mw_iconst cx (q := 52) (v := 3) dL_law_51 rfl rfl ?_
  refine mw_ishr cx (q := 53) dL_law_52 rfl ?_
  refine mw_iconst cx (q := 54) (v := 3) dL_law_53 rfl rfl ?_
  refine mw_callS cx (q := 57) (d := 0) (As := [.int (v >>> (3 &&& 31)), .int 3]) (z := fip M g) (st := []) (st1 := [.int g]) (M' := M) (by rw [eg]; exact mc_L_low l D ta ad M (v >>> (3 &&& 31)) 3 (by decide)) cs_L_67 ⟨Nat.le_of_ble_eq_true rfl, Nat.le_of_ble_eq_true rfl⟩ (lc_r (by omega)) (by simp [Value.category]) rfl rfl rfl dL_law_54 rfl ?_
  refine mw_istore cx (q := 59) (lv' := [(6, .int g), (5, .int v), (4, .int e), (3, .ref (ad 31 0 0)), (2, .ref (ad 11 0 0)), (1, .ref (ad 13 0 0)), (0, .ref b)]) rfl (by decide) dL_law_57 rfl ?_
  refine mw_aload_n cx (q := 60) 4 rfl rfl dL_law_59 rfl ?_
  refine mw_iload cx (q := 62) 0 rfl dL_law_60 rfl ?_
  refine mw_iconst cx (q := 63) (v := 1) dL_law_62 rfl rfl ?_
  refine mw_iload cx (q := 65) 1 rfl dL_law_63 rfl ?_
  refine mw_bipush cx (q := 67) (v := 6) dL_law_65 rfl rfl ?_
  refine mw_ishr cx (q := 68) dL_law_67 rfl ?_
  refine mw_bipush cx (q := 70) (v := 9) dL_law_68 rfl rfl ?_
  refine mw_callS cx (q := 73) (d := 0) (As := [.int (v >>> (6 &&& 31)), .int 9]) (z := fip M r) (st := [.int 1, .int g, .ref (ad 11 0 0)]) (st1 := [.int r, .int 1, .int g, .ref (ad 11 0 0)]) (M' := M) (by rw [er]; exact mc_L_low l D ta ad M (v >>> (6 &&& 31)) 9 (by decide)) cs_L_67 ⟨Nat.le_of_ble_eq_true rfl, Nat.le_of_ble_eq_true rfl⟩ (lc_r (by omega)) (by simp [Value.category]) rfl rfl rfl dL_law_70 rfl ?_
  refine mw_iadd cx (q := 74) dL_law_73 rfl ?_
  refine lc_H cx hzx hcx (q := 77) (d0 := 9) (u0 := 2) (As := [.ref (ad 11 0 0), .int g, .int (1 + r)]) (v := h) (Γ' := GM x τ σ) (st := []) (by have t := ml_L_supply (w := x) (sa := σ) (sb := σ) hl D ta ad g (1 + r) (fun _ => by rw [hx]; exact hb); rw [su7] at t; exact t) hG cs_L_180 ⟨Nat.le_of_ble_eq_true rfl, Nat.le_of_ble_eq_true rfl⟩ (by omega) (by simp [Value.category]) rfl dL_law_74 rfl (fun M hG => ?_)
  refine mw_istore cx (q := 79) (lv' := [(7, .int h), (6, .int g), (5, .int v), (4, .int e), (3, .ref (ad 31 0 0)), (2, .ref (ad 11 0 0)), (1, .ref (ad 13 0 0)), (0, .ref b)]) rfl (by decide) dL_law_77 rfl ?_
  refine mw_aload_n cx (q := 80) 6 rfl rfl dL_law_79 rfl ?_
  refine mw_iload cx (q := 82) 1 rfl dL_law_80 rfl ?_
  refine mw_dup2 cx (q := 83) dL_law_82 rfl rfl rfl ?_
  refine mw_iald cx (q := 84) (w := x g) (congrFun hG.1 _) (fun _ => rfl) vi_13_0 hg dL_law_83 rfl ?_
  refine mw_iconst cx (q := 85) (v := 1) dL_law_84 rfl rfl ?_
  refine mw_iload cx (q := 87) 2 rfl dL_law_85 rfl ?_
  refine mw_bipush cx (q := 89) (v := 6) dL_law_87 rfl rfl ?_
  refine mw_ishr cx (q := 90) dL_law_89 rfl ?_
  refine mw_bipush cx (q := 92) (v := 9) dL_law_90 rfl rfl ?_
  refine mw_callS cx (q := 95) (d := 0) (As := [.int (v >>> (6 &&& 31)), .int 9]) (z := fip M r) (st := [.int 1, .int (x g), .int g, .ref (ad 13 0 0)]) (st1 := [.int r, .int 1, .int (x g), .int g, .ref (ad 13 0 0)]) (M' := M) (by rw [er]; exact mc_L_low l D ta ad M (v >>> (6 &&& 31)) 9 (by decide)) cs_L_67 ⟨Nat.le_of_ble_eq_true rfl, Nat.le_of_ble_eq_true rfl⟩ (lc_r (by omega)) (by simp [Value.category]) rfl rfl rfl dL_law_92 rfl ?_
  refine mw_iadd cx (q := 96) dL_law_95 rfl ?_
  refine mw_iadd cx (q := 97) dL_law_96 rfl ?_
  refine mw_iast cx (q := 98) (fun _ => rfl) (by decide) vi_13_0 hg (by decide) dL_law_97 rfl ?_
  have hG := GMw hG g (1 + r)
  generalize uW M 13 (u3 (M 13) 0 0 g (x g + (1 + r))) = M at hG ⊢
  refine mw_iload cx (q := 100) 0 rfl dL_law_98 rfl ?_
  refine mw_aload_n cx (q := 101) 5 rfl rfl dL_law_100 rfl ?_
  refine mw_iconst cx (q := 102) (v := (-1)) dL_law_101 rfl rfl ?_
  refine mw_iload cx (q := 104) 1 rfl dL_law_102 rfl ?_
  obtain ⟨M, hG, hM⟩ := C_stock (D := D) (ta := ta) (ad := ad) hl hG (-1) g
  rw [su6] at hM
  refine lc_V cx hzx (q := 107) (d0 := 8) (u0 := 2) (As := [.int (-1), .int g]) (v := h) (M' := M) (st := [.int h]) hM cv_L_145 rfl rfl rfl vi_11_0 ⟨Nat.le_of_ble_eq_true rfl, Nat.le_of_ble_eq_true rfl⟩ (by omega) (by simp [Value.category]) rfl dL_law_104 rfl ?_
  refine mw_icmp_ne_k cx (tgt := 157) (q := 110) dL_law_107 (by decide) rfl (fun z => absurd rfl z) (fun _ => ?_)
  refine mw_aload_n cx (q := 111) 4 rfl rfl dL_law_110 rfl ?_
  refine mw_iload cx (q := 113) 1 rfl dL_law_111 rfl ?_
  refine mw_iconst cx (q := 114) (v := 1) dL_law_113 rfl rfl ?_
  refine mw_iload cx (q := 116) 2 rfl dL_law_114 rfl ?_
  refine mw_bipush cx (q := 118) (v := 6) dL_law_116 rfl rfl ?_
  refine mw_ishr cx (q := 119) dL_law_118 rfl ?_
  refine mw_bipush cx (q := 121) (v := 9) dL_law_119 rfl rfl ?_
  refine mw_callS cx (q := 124) (d := 0) (As := [.int (v >>> (6 &&& 31)), .int 9]) (z := fip M r) (st := [.int 1, .int g, .ref (ad 31 0 0)]) (st1 := [.int r, .int 1, .int g, .ref (ad 31 0 0)]) (M' := M) (by rw [er]; exact mc_L_low l D ta ad M (v >>> (6 &&& 31)) 9 (by decide)) cs_L_67 ⟨Nat.le_of_ble_eq_true rfl, Nat.le_of_ble_eq_true rfl⟩ (lc_r (by omega)) (by simp [Value.category]) rfl rfl rfl dL_law_121 rfl ?_
  refine mw_iadd cx (q := 125) dL_law_124 rfl ?_
  refine lc_H cx hzx hcx (q := 128) (d0 := 9) (u0 := 2) (As := [.ref (ad 31 0 0), .int g, .int (1 + r)]) (v := h) (Γ' := GM (upx x g (1 + r)) τ τ) (st := []) (by have t := ML_sw (ml_L_supply (w := upx x g (1 + r)) (sa := σ) (sb := τ) hl D ta (adS ad) g (1 + r) (fun _ => by rw [hx]; exact hb)); rw [su7] at t; rw [GM_sw, GM_sw] at t; exact t) hG cs_L_180 ⟨Nat.le_of_ble_eq_true rfl, Nat.le_of_ble_eq_true rfl⟩ (by omega) (by simp [Value.category]) rfl dL_law_125 rfl (fun M hG => ?_)
  refine mw_iload cx (q := 130) 0 rfl dL_law_128 rfl ?_
  refine mw_icmp_ne_k cx (tgt := 157) (q := 133) dL_law_130 (by decide) rfl (fun z => absurd rfl z) (fun _ => ?_)
  refine mw_aload_n cx (q := 134) 5 rfl rfl dL_law_133 rfl ?_
  refine mw_bipush cx (q := 136) (v := 8) dL_law_134 rfl rfl ?_
  refine mw_iconst cx (q := 137) (v := 1) dL_law_136 rfl rfl ?_
  have n1 := su_no (s := τ) (g := 8) (n := 1) (Or.inl (by decide))
  have n2 := su_no (s := τ) (g := g) (n := 0) (Or.inr (by decide))
  refine lc_H cx hzx hcx (q := 140) (d0 := 9) (u0 := 2) (As := [.ref (ad 11 0 0), .int 8, .int 1]) (v := (-99999)) (Γ' := GM (upx x g (1 + r)) τ τ) (st := []) (by have t := ml_L_supply (w := upx x g (1 + r)) (sa := τ) (sb := τ) hl D ta ad 8 1 (fun z => absurd z n1.2); rw [n1.1] at t; exact t) hG cs_L_180 ⟨Nat.le_of_ble_eq_true rfl, Nat.le_of_ble_eq_true rfl⟩ (by omega) (by simp [Value.category]) rfl dL_law_137 rfl (fun M hG => ?_)
  refine mw_ldc cx (q := 142) dL_law_140 rfl ld_L_16 ?_
  refine mw_icmp_ne_k cx (tgt := 157) (q := 145) dL_law_142 (by decide) rfl (fun z => absurd rfl z) (fun _ => ?_)
  refine mw_aload_n cx (q := 146) 5 rfl rfl dL_law_145 rfl ?_
  refine mw_iload cx (q := 148) 1 rfl dL_law_146 rfl ?_
  refine mw_iconst cx (q := 149) (v := 0) dL_law_148 rfl rfl ?_
  refine lc_H cx hzx hcx (q := 152) (d0 := 9) (u0 := 2) (As := [.ref (ad 11 0 0), .int g, .int 0]) (v := (-99999)) (Γ' := GM (upx x g (1 + r)) τ τ) (st := []) (by have t := ml_L_supply (w := upx x g (1 + r)) (sa := τ) (sb := τ) hl D ta ad g 0 (fun z => absurd z n2.2); rw [n2.1] at t; exact t) hG cs_L_180 ⟨Nat.le_of_ble_eq_true rfl, Nat.le_of_ble_eq_true rfl⟩ (by omega) (by simp [Value.category]) rfl dL_law_149 rfl (fun M hG => ?_)
  refine mw_ldc cx (q := 154) dL_law_152 rfl ld_L_16 ?_
  refine mw_icmp_eq_k cx (tgt := 159) (q := 157) dL_law_154 (by decide) rfl (fun _ => ?_) (fun z => absurd rfl z)
  refine mw_goto cx (tgt := 194) dL_law_159 (by decide) ?_
  refine mw_sub (lv' := [(5, .int v), (4, .int e), (3, .ref (ad 31 0 0)), (2, .ref (ad 11 0 0)), (1, .ref (ad 13 0 0)), (0, .ref b)]) [2, 3, 4, 5, 6, 7] rfl ?_
  exact gl_w (by omega) (K τ M (by rw [su3, eg, er]) su4 (by rw [su3]; exact hG))
theorem law_t (X : LwC p l s m meth c D ta ad b Ln xs) (hx : σ.1 = x) (hG : GM x σ σ M) (hk : 0 ≤ σ.2.1 ∧ σ.2.1 < 10000) (hc : cb + 266 ≤ 600104) (K : ∀ (τ : ST) (M : Wm), τ.1 = x → τ.2.1 = σ.2.1 + 1 → GM x τ τ M → mw p l ev room_1 s m #[Value.ref b] below meth c (cb + 266) (6 * (cb + 266)) Q D ta ad 8 M 194 ((5, .int v) :: [(4, .int e), (3, .ref (ad 31 0 0)), (2, .ref (ad 11 0 0)), (1, .ref (ad 13 0 0)), (0, .ref b)]) ([]) ()) : mw p l ev room_1 s m #[Value.ref b] below meth c (cb) (6 * (cb)) Q D ta ad 8 M 162 ((5, .int v) :: [(4, .int e), (3, .ref (ad 31 0 0)), (2, .ref (ad 11 0 0)), (1, .ref (ad 13 0 0)), (0, .ref b)]) ([]) () := by
  obtain ⟨cx, hzx, hcx, hX, hl⟩ := X
  obtain ⟨r, er⟩ : ∃ r : (Nat × Int32) × ST, r = fL_act σ (v >>> (2 &&& 31)) := ⟨_, rfl⟩
  have ak := act_all (s := σ) ⟨M, hG.2.1⟩ hk.2 (v >>> (2 &&& 31))
  rw [← er] at ak
  obtain ⟨a0, _, a1, a2, a3⟩ := ak
  obtain ⟨⟨r0, t⟩, x1, k1, m1⟩ := r
  dsimp only at a0 a1 a2 a3
  subst a0
  refine mw_aload_n cx (q := 163) 3 rfl rfl dL_law_162 rfl ?_
  refine mw_iload cx (q := 165) 0 rfl dL_law_163 rfl ?_
  refine mw_iconst cx (q := 166) (v := 2) dL_law_165 rfl rfl ?_
  refine mw_ishr cx (q := 167) dL_law_166 rfl ?_
  refine lc_S cx hzx hcx (q := 170) (d0 := 222) (u0 := 133) (As := [.ref (ad 11 0 0), .int (v >>> (2 &&& 31))]) (v := t) (Γ' := GM x (x1, k1, m1) σ) (st := []) (by have q := ml_L_act (w := x) (sa := σ) (sb := σ) hl D ta ad (v >>> (2 &&& 31)) hk.2; rw [← er] at q; exact q) hG cs_L_182 ⟨Nat.le_of_ble_eq_true rfl, Nat.le_of_ble_eq_true rfl⟩ (by omega) (by simp [Value.category]) rfl dL_law_167 rfl (fun M hG => ?_)
  refine mw_istore cx (q := 172) (lv' := [(6, .int t), (5, .int v), (4, .int e), (3, .ref (ad 31 0 0)), (2, .ref (ad 11 0 0)), (1, .ref (ad 13 0 0)), (0, .ref b)]) rfl (by decide) dL_law_170 rfl ?_
  refine mw_iload cx (q := 174) 0 rfl dL_law_172 rfl ?_
  refine mw_ldc cx (q := 176) dL_law_174 rfl ld_L_16 ?_
  refine mw_icmp_eq_k cx (tgt := 194) (q := 179) dL_law_176 (by decide) rfl (fun z => ?_) (fun z => ?_)
  · have e0 := a3 z
    refine mw_sub (lv' := [(5, .int v), (4, .int e), (3, .ref (ad 31 0 0)), (2, .ref (ad 11 0 0)), (1, .ref (ad 13 0 0)), (0, .ref b)]) [1, 2, 3, 4, 5, 6] rfl ?_
    have hG2 : GM x (x, k1, m1) (x, σ.2.1, m1) M := by
      rw [a1, hx] at hG; rw [e0] at hG ⊢
      have e3 : σ = (x, σ.2.1, σ.2.2) := by rw [← hx]
      rw [e3] at hG; exact hG
    exact gl_w (by omega) (K (x, σ.2.1 + 1, m1) M rfl rfl (GMk hG2 a2.2 (by omega) (by omega)))
  · refine mw_aload_n cx (q := 180) 3 rfl rfl dL_law_179 rfl ?_
    refine mw_iload cx (q := 182) 1 rfl dL_law_180 rfl ?_
    refine mw_iconst cx (q := 183) (v := 2) dL_law_182 rfl rfl ?_
    refine mw_ishr cx (q := 184) dL_law_183 rfl ?_
    refine lc_S cx hzx hcx (q := 187) (d0 := 222) (u0 := 133) (As := [.ref (ad 31 0 0), .int (v >>> (2 &&& 31))]) (v := t) (Γ' := GM x (x1, k1, m1) (x1, k1, m1)) (st := []) (by have q := ML_sw (ml_L_act (w := x) (sa := σ) (sb := (x1, k1, m1)) hl D ta (adS ad) (v >>> (2 &&& 31)) hk.2); rw [← er] at q; rw [GM_sw, GM_sw] at q; exact q) hG cs_L_182 ⟨Nat.le_of_ble_eq_true rfl, Nat.le_of_ble_eq_true rfl⟩ (by omega) (by simp [Value.category]) rfl dL_law_184 rfl (fun M hG => ?_)
    refine mw_iload cx (q := 189) 0 rfl dL_law_187 rfl ?_
    refine mw_icmp_eq_k cx (tgt := 194) (q := 192) dL_law_189 (by decide) rfl (fun _ => ?_) (fun z => absurd rfl z)
    refine mw_sub (lv' := [(5, .int v), (4, .int e), (3, .ref (ad 31 0 0)), (2, .ref (ad 11 0 0)), (1, .ref (ad 13 0 0)), (0, .ref b)]) [1, 2, 3, 4, 5, 6] rfl ?_
    have hG2 : GM x (x, k1, m1) (x, k1, m1) M := by
      rw [a1, hx] at hG; exact hG
    exact gl_w (by omega) (K (x, σ.2.1 + 1, m1) M rfl rfl (GMk hG2 a2.2 a2.2 (by omega)))
/-- what was supplied after k calls -/
def XN (k : Nat) (x : Int32 → Int32) : Prop := ∀ g : Int32, vp_in g 8 → 0 ≤ (x g).toInt ∧ (x g).toInt ≤ 9 * k
theorem XN.up {k : Nat} (h : XN k x) (hk : k < 100) {g r : Int32} (hr : 0 ≤ r.toInt ∧ r.toInt < 9) : XN (k + 1) (upx x g (1 + r)) := by
  intro j hj
  have en : (1 + r).toInt = 1 + r.toInt := by rw [i32addn (by rw [t32_1]; omega) (by rw [t32_1]; omega), t32_1]
  have hh := h j hj
  by_cases c : j = g
  · subst c
    show 0 ≤ (fI x j (x j + (1 + r)) j).toInt ∧ (fI x j (x j + (1 + r)) j).toInt ≤ _
    rw [show fI x j (x j + (1 + r)) j = x j + (1 + r) from if_pos rfl, i32addn (by omega) (by omega), en]
    omega
  · show 0 ≤ (fI x g (x g + (1 + r)) j).toInt ∧ (fI x g (x g + (1 + r)) j).toInt ≤ _
    rw [show fI x g (x g + (1 + r)) j = x j from if_neg c]
    omega
theorem XN.le {k : Nat} (h : XN k x) : XN (k + 1) x := fun g hg => ⟨(h g hg).1, by have := (h g hg).2; omega⟩
theorem XN.xb {k : Nat} (h : XN k x) (hk : k ≤ 100) : XB x := fun g hg => ⟨(h g hg).1, by have := (h g hg).2; omega⟩
theorem nI_inc {k : Nat} (hk : k < 100) : nI k + 1 = nI (k + 1) := by
  revert hk; revert k
  decide
theorem law_loop (X : LwC p l s m meth c D ta ad b Ln xs) (hLn : Ln ≤ 260) (hA : ∀ q : Nat, wA ad q → s.heap.size ≤ q) (hQ : ∀ (H : Heap) (ls : Array Slot), W p l ev room_1 s m #[Value.ref b] below meth c H [] 600104 7301314 (Q ()) (F0 m 325 ls [.int 1])) : ∀ (n k : Nat) (x : Int32 → Int32) (τ : ST) (M : Wm), k + n = 100 → τ.1 = x → τ.2.1 = k → XN k x → GM x τ τ M → mw p l ev room_1 s m #[Value.ref b] below meth c (8000 + 2262 * k + 21605 * (k / 12)) (6 * (8000 + 2262 * k + 21605 * (k / 12))) Q D ta ad 8 M 24 ([(4, .int (nI k)), (3, .ref (ad 31 0 0)), (2, .ref (ad 11 0 0)), (1, .ref (ad 13 0 0)), (0, .ref b)]) ([]) () := by
  intro n
  induction n with
  | zero =>
    intro k x τ M hk hx ht hN hG
    obtain rfl : k = 100 := by omega
    obtain ⟨cx, hzx, hcx, hX, hl⟩ := X
    refine mw_iload cx (q := 26) 0 rfl dL_law_24 rfl ?_
    refine mw_bipush cx (q := 28) (v := 100) dL_law_26 rfl rfl ?_
    refine mw_icmp_ge_k cx (tgt := 305) (q := 31) dL_law_28 (by decide) rfl (fun _ => ?_) (fun z => absurd (show (100 : Int32) ≤ nI 100 by decide) z)
    refine mw_aload_n cx (q := 306) 2 rfl rfl dL_law_305 rfl ?_
    refine mw_aload_n cx (q := 307) 3 rfl rfl dL_law_306 rfl ?_
    refine lc_S cx hzx hcx (q := 310) (d0 := 9) (u0 := 1332) (As := [.ref (ad 11 0 0), .ref (ad 13 0 0)]) (v := 1) (Γ' := GM x τ τ) (st := []) (by have t := ml_L_areStocksSo (w := τ.1) (sa := τ) (sb := τ) hl D ta ad; rw [so_all hG.2.1, hx] at t; exact t) hG cs_L_189 ⟨Nat.le_of_ble_eq_true rfl, Nat.le_of_ble_eq_true rfl⟩ (by omega) (by simp [Value.category]) rfl dL_law_307 rfl (fun M hG => ?_)
    refine mw_if_eq_k cx (tgt := 324) (q := 313) dL_law_310 (by decide) rfl (fun z => absurd z (by decide)) (fun _ => ?_)
    refine mw_aload_n cx (q := 314) 2 rfl rfl dL_law_313 rfl ?_
    refine lc_S cx hzx hcx (q := 317) (d0 := 9) (u0 := 21605) (As := [.ref (ad 11 0 0)]) (v := 1) (Γ' := GM x τ τ) (st := []) (by have t := ml_L_areOrdersSo (w := x) (sa := τ) (sb := τ) hl D ta ad; rw [or_all hG.2.1] at t; exact t) hG cs_L_193 ⟨Nat.le_of_ble_eq_true rfl, Nat.le_of_ble_eq_true rfl⟩ (by omega) (by simp [Value.category]) rfl dL_law_314 rfl (fun M hG => ?_)
    refine mw_if_eq_k cx (tgt := 324) (q := 320) dL_law_317 (by decide) rfl (fun z => absurd z (by decide)) (fun _ => ?_)
    refine mw_iconst cx (q := 321) (v := 1) dL_law_320 rfl rfl ?_
    refine mw_goto cx (tgt := 325) dL_law_321 (by decide) ?_
    exact hi_law1 cx hA hQ (by omega)
  | succ n ih =>
    intro k x τ M hk hx ht hN hG
    have X2 := X
    obtain ⟨cx, hzx, hcx, hX, hl⟩ := X
    have hk9 : k < 100 := by omega
    have ei : (nI k).toInt = k := nI_toInt (by omega)
    refine mw_iload cx (q := 26) 0 rfl dL_law_24 rfl ?_
    refine mw_bipush cx (q := 28) (v := 100) dL_law_26 rfl rfl ?_
    refine mw_icmp_ge_k cx (tgt := 305) (q := 31) dL_law_28 (by decide) rfl (fun z => absurd z (by rw [i32le, ei, show (100 : Int32).toInt = 100 by decide]; omega)) (fun _ => ?_)
    refine mw_aload_n cx (q := 32) 4 rfl rfl dL_law_31 rfl ?_
    refine mw_iload cx (q := 34) 0 rfl dL_law_32 rfl ?_
    obtain ⟨v, ev⟩ : ∃ v : Int32, v = cellV Ln xs (nI k) := ⟨_, rfl⟩
    refine ms_callS cx hX (q := 37) (d := 0) (As := [.ref b, .int (nI k)]) (z := fip M v) (st := []) (st1 := [.int v]) (M' := M) (by rw [ev]; exact mc_cell l D ta ad M hLn (nI k) (by omega)) cs_L_176 ⟨Nat.le_of_ble_eq_true rfl, Nat.le_of_ble_eq_true rfl⟩ (lc_r (by omega)) (by simp [Value.category]) rfl rfl rfl dL_law_34 rfl ?_
    refine mw_istore cx (q := 39) (lv' := [(5, .int v), (4, .int (nI k)), (3, .ref (ad 31 0 0)), (2, .ref (ad 11 0 0)), (1, .ref (ad 13 0 0)), (0, .ref b)]) rfl (by decide) dL_law_37 rfl ?_
    refine mw_iload cx (q := 41) 0 rfl dL_law_39 rfl ?_
    refine mw_bipush cx (q := 43) (v := 7) dL_law_41 rfl rfl ?_
    refine mw_callS cx (q := 46) (d := 0) (As := [.int v, .int 7]) (z := fip M (fL_low v 7)) (st := []) (st1 := [.int (fL_low v 7)]) (M' := M) (mc_L_low l D ta ad M v 7 (by decide)) cs_L_67 ⟨Nat.le_of_ble_eq_true rfl, Nat.le_of_ble_eq_true rfl⟩ (lc_r (by omega)) (by simp [Value.category]) rfl rfl rfl dL_law_43 rfl ?_
    refine mw_if_ne_k cx (tgt := 162) (q := 49) dL_law_46 (by decide) rfl (fun _ => ?_) (fun _ => ?_)
    · refine law_t X2 hx hG ⟨by omega, by omega⟩ (by omega) (fun τ2 M h1 h2 hG => ?_)
      refine law_a X2 h1 hG (k := k) rfl hk9 (C := fun j => 8000 + 2262 * k + 2242 + 21605 * j) (by show _ ≤ 8000 + 2262 * k + 2242 + 21605 * (k / 12); omega) (fun j => by show 8000 + 2262 * k + 2242 + 21605 * (j + 1) = 8000 + 2262 * k + 2242 + 21605 * j + 21605; omega) (by show 8000 + 2262 * k + 2242 + 21605 * ((k + 1) / 12) + 10 ≤ _; omega) (fun M hG => ?_)
      rw [nI_inc hk9]
      exact gl_w (by show 8000 + 2262 * k + 2242 + 21605 * ((k + 1) / 12) + 10 ≤ _; omega) (ih (k + 1) x τ2 M (by omega) h1 (by rw [h2, ht]; omega) hN.le hG)
    · have hr := low_rng (v >>> (6 &&& 31)) (m := 9) (by decide)
      rw [show (9 : Int32).toInt = 9 by decide] at hr
      have hN2 := hN.up hk9 (g := fL_low (v >>> (3 &&& 31)) 3) hr
      refine law_s X2 hx hG (by omega) (hN2.xb (by omega)) (fun τ2 M h1 h2 hG => ?_)
      obtain ⟨x2, k2, m2⟩ := τ2
      dsimp only at h1 h2 hG
      have hG := GMk (k := (k : Int) + 1) hG (by omega) (by omega) (by omega)
      refine law_a X2 (σ := (x2, (k : Int) + 1, m2)) (x := x2) rfl hG (k := k) rfl hk9 (C := fun j => 8000 + 2262 * k + 2242 + 21605 * j) (by show _ ≤ 8000 + 2262 * k + 2242 + 21605 * (k / 12); omega) (fun j => by show 8000 + 2262 * k + 2242 + 21605 * (j + 1) = 8000 + 2262 * k + 2242 + 21605 * j + 21605; omega) (by show 8000 + 2262 * k + 2242 + 21605 * ((k + 1) / 12) + 10 ≤ _; omega) (fun M hG => ?_)
      rw [nI_inc hk9]
      exact gl_w (by show 8000 + 2262 * k + 2242 + 21605 * ((k + 1) / 12) + 10 ≤ _; omega) (ih (k + 1) x2 (x2, (k : Int) + 1, m2) M (by omega) rfl (by show (k : Int) + 1 = ((k + 1 : Nat) : Int); omega) (by rw [h1]; exact hN2) hG)
end LWK
