/-! THE LAW'S CASES: each call in both, and what the law sees of it -/
section LAW
variable {p : Program} {l : Launch} {e : Env} {s : State} {m : MethodId} {below : List Frame} {meth : Method} {c : Code} {cells slots : Nat} {Q : Unit → State → Prop} {D : va_G} {ta : wTa} {ad : wAd} {M : Wm} {b Ln : Nat} {xs : Nat → Int32} {i : Int32} {Lb : Int}
def LwC (p : Program) (l : Launch) (s : State) (m : MethodId) (meth : Method) (c : Code) (D : va_G) (ta : wTa) (ad : wAd) (b Ln : Nat) (xs : Nat → Int32) : Prop := Cx p s m #[Value.ref b] meth c D ta ad RL cL_law 7 ∧ wZx ad s s.heap ∧ wCx s ∧ ScX ad s b Ln xs ∧ l.stackTraces = false
def lv0 (ad : wAd) (b : Nat) (i : Int32) : List (Nat × Value) := [(0, .ref b), (1, .ref (ad 11 0 0)), (2, .ref (ad 12 0 0)), (3, .ref (ad 13 0 0)), (4, .int i)]
def LwI (Ln : Nat) (i : Int32) : Prop := 0 ≤ i.toInt ∧ i.toInt + 5 ≤ Ln ∧ Ln ≤ 2560
theorem LwI.ix (h : LwI Ln i) {k : Int32} (h0 : 0 ≤ k.toInt) (h1 : k.toInt ≤ 4) : vp_in (i + k) Ln := by
  obtain ⟨a, b, c⟩ := h
  rw [vp_in_iff, i32addn (by omega) (by omega)]; omega
theorem mw_sldw {n : Nat} {args : Array Value} {R : Room} {cc : ByteArray} {own : String} {σ : Type} {Q : σ → State → Prop} {S : σ} {pc q : Nat} {lv : List (Nat × Value)} {st : List Value} (cx : Cx p s m args meth c D ta ad own cc n) (hX : ScX ad s b Ln xs) {i w : Int32} (hw : w = xs i.toNatClampNeg) (hin : vp_in i Ln) (hd : decode cc pc = .ok (.iaload, 1)) (hq : pc + 1 = q) (k : mw p l e R s m args below meth c cells slots Q D ta ad n M q lv (.int w :: st) S) : mw p l e R s m args below meth c cells slots Q D ta ad n M pc lv (.int i :: .ref b :: st) S := by
  subst hw
  exact mw_sld cx hX hin hd hq k
theorem RW.hb (h : RW Lb M) : ∀ j : Int32, vp_in j 4 → M 5 3 0 j = 0 ∨ M 5 3 0 j = 1 := fun j hj => by rw [(h.q.1 j hj).2.2]; exact h.q.2.2.2 j hj
theorem cs_L_123 : CSh RL 123 yL_type cL_type 5 (some .int) [(0, 10, 13, 13), (0, 10, 17, 15)] 4 := ⟨⟨BG_at 422 (by decide +kernel) (by decide +kernel), BG_at 423 (by decide +kernel) (by decide +kernel), BG_at 79 (by decide +kernel) (by decide +kernel), BG_at 424 (by decide +kernel) (by decide +kernel)⟩, by decide, by decide, by decide +kernel⟩
theorem cv_LM_128 : CV RL 128 yX12_type RX12 cX12_type 4 (some .int) 2 := ⟨⟨BG_at 1433 (by decide +kernel) (by decide +kernel), BG_at 1434 (by decide +kernel) (by decide +kernel), BG_at 1435 (by decide +kernel) (by decide +kernel), BG_at 90 (by decide +kernel) (by decide +kernel), BG_at 1436 (by decide +kernel) (by decide +kernel)⟩, rfl, by decide, by decide, by decide +kernel⟩
theorem cv_LM_129 : CV RL 129 yX12_thrown RX12 cX12_thrown 1 (some .int) 0 := ⟨⟨BG_at 1429 (by decide +kernel) (by decide +kernel), BG_at 1430 (by decide +kernel) (by decide +kernel), BG_at 1431 (by decide +kernel) (by decide +kernel), BG_at 90 (by decide +kernel) (by decide +kernel), BG_at 1432 (by decide +kernel) (by decide +kernel)⟩, rfl, by decide, by decide, by decide +kernel⟩
set_option maxHeartbeats 1000000 in
theorem law_c0 (X : LwC p l s m meth c D ta ad b Ln xs) (hR : RW Lb M) (hLb : Lb ≤ 1000000) (hi : LwI Ln i) (hc : cells + 4 ≤ 601024 ∧ slots + 24 ≤ 7293034) (K : ∀ (M2 : Wm) (c2 s2 : Nat), RW (Lb + 1000) M2 → c2 ≤ cells + 4 → s2 ≤ slots + 24 → mw p l e room_1 s m #[Value.ref b] below meth c c2 s2 Q D ta ad 7 M2 2334 (lv0 ad b i) [] ()) : mw p l e room_1 s m #[Value.ref b] below meth c cells slots Q D ta ad 7 M 196 (lv0 ad b i) [] () := by
  obtain ⟨cx, hzx, hcx, hX, hl⟩ := X
  unfold lv0 at K ⊢
  obtain ⟨a1, ea1⟩ : ∃ y : Int32, y = xs (i + 1).toNatClampNeg := ⟨_, rfl⟩
  have v1 : vp_in (i + 1) Ln := hi.ix (k := 1) (by decide) (by decide)
  obtain ⟨a2, ea2⟩ : ∃ y : Int32, y = xs (i + 2).toNatClampNeg := ⟨_, rfl⟩
  have v2 : vp_in (i + 2) Ln := hi.ix (k := 2) (by decide) (by decide)
  refine mw_aload_n cx (q := 197) 1 rfl rfl dL_law_196 rfl ?_
  refine mw_aload_n cx (q := 198) 0 rfl rfl dL_law_197 rfl ?_
  refine mw_iload cx (q := 200) 4 rfl dL_law_198 rfl ?_
  refine mw_iconst cx (q := 201) (v := 1) dL_law_200 rfl rfl ?_
  refine mw_iadd cx (q := 202) dL_law_201 rfl ?_
  refine mw_sldw cx hX (w := a1) (q := 203) ea1 v1 dL_law_202 rfl ?_
  refine mw_aload_n cx (q := 204) 0 rfl rfl dL_law_203 rfl ?_
  refine mw_iload cx (q := 206) 4 rfl dL_law_204 rfl ?_
  refine mw_iconst cx (q := 207) (v := 2) dL_law_206 rfl rfl ?_
  refine mw_iadd cx (q := 208) dL_law_207 rfl ?_
  refine mw_sldw cx hX (w := a2) (q := 209) ea2 v2 dL_law_208 rfl ?_
  refine mw_aload_n cx (q := 210) 3 rfl rfl dL_law_209 rfl ?_
  have hO := R_type (p1 := a1) (p2 := a2) hR
  have hM := mc_L_type l hl D ta ad M a1 a2 hR.ln k_type
  have h0 := fw13_n (kfI 1 2) (f11_type M a1 a2)
  unfold OpR at hO
  generalize hw : fw13 (kfI 1 2) (f11_type M a1 a2) = w at hO hM h0
  obtain ⟨e12, o1, o2, o3⟩ := hO
  have hMC := mc_X12_type l D ta ad w.2 a1 a2 (by rw [e12]; exact hR.k)
  dsimp only at o1 o2 o3
  generalize hr : f12_type (w.2 12) a1 a2 = r at o1 o2 o3 hMC
  refine mh_callS cx hzx hcx (q := 213) (d := 9) (u0 := 3) (As := [.ref (ad 11 0 0), .int a1, .int a2, .ref (ad 13 0 0)]) (z := fxi w) (st := []) (st1 := [.int w.1.2]) (M' := w.2) hM cs_L_123 ⟨Nat.le_of_ble_eq_true rfl, Nat.le_of_ble_eq_true rfl⟩ ⟨by show cells + 3 ≤ 601024; omega, by show slots + 6 * 3 ≤ 7293034; omega⟩ (by simp) rfl h0 rfl rfl dL_law_210 rfl ?_
  refine mw_istore cx (q := 215) (lv' := [(5, .int w.1.2), (0, .ref b), (1, .ref (ad 11 0 0)), (2, .ref (ad 12 0 0)), (3, .ref (ad 13 0 0)), (4, .int i)]) rfl (by decide) dL_law_213 rfl ?_
  refine mw_aload_n cx (q := 216) 3 rfl rfl dL_law_215 rfl ?_
  refine mw_aload_n cx (q := 217) 1 rfl rfl dL_law_216 rfl ?_
  refine mw_iload cx (q := 219) 5 rfl dL_law_217 rfl ?_
  refine mw_iconst cx (q := 220) (v := 1) dL_law_219 rfl rfl ?_
  refine mw_iadd cx (q := 221) dL_law_220 rfl ?_
  refine mw_sldw cx hX (w := a1) (q := 222) ea1 v1 dL_law_221 rfl ?_
  refine mw_aload_n cx (q := 223) 1 rfl rfl dL_law_222 rfl ?_
  refine mw_iload cx (q := 225) 5 rfl dL_law_223 rfl ?_
  refine mw_iconst cx (q := 226) (v := 2) dL_law_225 rfl rfl ?_
  refine mw_iadd cx (q := 227) dL_law_226 rfl ?_
  refine mw_sldw cx hX (w := a2) (q := 228) ea2 v2 dL_law_227 rfl ?_
  refine mw_callV cx (q := 231) (d := 2) (As := [.int a1, .int a2]) (z := fic w.2 12 r) (st := []) (st1 := [.int r.1]) (M' := uW w.2 12 r.2) hMC cv_LM_128 rfl rfl rfl vi_12_0 ⟨Nat.le_of_ble_eq_true rfl, Nat.le_of_ble_eq_true rfl⟩ ⟨by show cells + 3 ≤ 601024; omega, by show slots + 6 * 3 ≤ 7293034; omega⟩ (by simp) rfl rfl rfl dL_law_228 rfl ?_
  refine mw_istore cx (q := 233) (lv' := [(6, .int r.1), (5, .int w.1.2), (0, .ref b), (1, .ref (ad 11 0 0)), (2, .ref (ad 12 0 0)), (3, .ref (ad 13 0 0)), (4, .int i)]) rfl (by decide) dL_law_231 rfl ?_
  refine mw_aload_n cx (q := 234) 4 rfl rfl dL_law_233 rfl ?_
  refine mw_callV cx (q := 237) (d := 0) (As := []) (z := fip (uW w.2 12 r.2) (r.2 0 0 0)) (st := []) (st1 := [.int (r.2 0 0 0)]) (M' := uW w.2 12 r.2) (mc_X12_thrown l D ta ad (uW w.2 12 r.2)) cv_LM_129 rfl rfl rfl vi_12_0 ⟨Nat.le_of_ble_eq_true rfl, Nat.le_of_ble_eq_true rfl⟩ ⟨by show cells + 3 ≤ 601024; omega, by show slots + 6 * 3 ≤ 7293034; omega⟩ (by simp) rfl rfl rfl dL_law_234 rfl ?_
  refine mw_iload cx (q := 239) 1 rfl dL_law_237 rfl ?_
  refine mw_icmp_eq_k cx (tgt := 244) (q := 242) dL_law_239 (by decide) rfl (fun _ => ?_) (fun h => absurd o1 h)
  refine mw_iload cx (q := 246) 1 rfl dL_law_244 rfl ?_
  refine mw_if_ne_k cx (tgt := 261) (q := 249) dL_law_246 (by decide) rfl (fun _ => ?_) (fun h => ?_)
  · refine mw_goto cx (tgt := 2334) dL_law_261 (by decide) ?_
    exact mw_sub [2, 3, 4, 5, 6] rfl (K _ _ _ o3 (by omega) (by omega))
  · refine mw_aload_n cx (q := 250) 5 rfl rfl dL_law_249 rfl ?_
    refine mw_iconst cx (q := 251) (v := 0) dL_law_250 rfl rfl ?_
    refine mw_lald cx (q := 252) dL_law_251 rfl ?_
    refine mw_iload cx (q := 254) 0 rfl dL_law_252 rfl ?_
    refine mw_i2l cx (q := 255) dL_law_254 rfl ?_
    refine mw_lcmp0 cx (q := 256) (by rw [uW_ne _ _ (by decide), o2 h]) dL_law_255 rfl ?_
    refine mw_if_eq_k cx (tgt := 261) (q := 259) dL_law_256 (by decide) rfl (fun _ => ?_) (fun h => absurd rfl h)
    refine mw_goto cx (tgt := 2334) dL_law_261 (by decide) ?_
    exact mw_sub [2, 3, 4, 5, 6] rfl (K _ _ _ o3 (by omega) (by omega))
theorem cs_L_133 : CSh RL 133 yL_erase cL_erase 5 (some .int) [(0, 10, 13, 13)] 4 := ⟨⟨BG_at 539 (by decide +kernel) (by decide +kernel), BG_at 540 (by decide +kernel) (by decide +kernel), BG_at 79 (by decide +kernel) (by decide +kernel), BG_at 541 (by decide +kernel) (by decide +kernel)⟩, by decide, by decide, by decide +kernel⟩
theorem cv_LM_135 : CV RL 135 yX12_erase RX12 cX12_erase 3 (some .int) 2 := ⟨⟨BG_at 1453 (by decide +kernel) (by decide +kernel), BG_at 1454 (by decide +kernel) (by decide +kernel), BG_at 1455 (by decide +kernel) (by decide +kernel), BG_at 90 (by decide +kernel) (by decide +kernel), BG_at 1456 (by decide +kernel) (by decide +kernel)⟩, rfl, by decide, by decide, by decide +kernel⟩
set_option maxHeartbeats 1000000 in
theorem law_c1 (X : LwC p l s m meth c D ta ad b Ln xs) (hR : RW Lb M) (hLb : Lb ≤ 1000000) (hi : LwI Ln i) (hc : cells + 4 ≤ 601024 ∧ slots + 24 ≤ 7293034) (K : ∀ (M2 : Wm) (c2 s2 : Nat), RW (Lb + 1000) M2 → c2 ≤ cells + 4 → s2 ≤ slots + 24 → mw p l e room_1 s m #[Value.ref b] below meth c c2 s2 Q D ta ad 7 M2 2334 (lv0 ad b i) [] ()) : mw p l e room_1 s m #[Value.ref b] below meth c cells slots Q D ta ad 7 M 264 (lv0 ad b i) [] () := by
  obtain ⟨cx, hzx, hcx, hX, hl⟩ := X
  unfold lv0 at K ⊢
  obtain ⟨a1, ea1⟩ : ∃ y : Int32, y = xs (i + 1).toNatClampNeg := ⟨_, rfl⟩
  have v1 : vp_in (i + 1) Ln := hi.ix (k := 1) (by decide) (by decide)
  obtain ⟨a2, ea2⟩ : ∃ y : Int32, y = xs (i + 2).toNatClampNeg := ⟨_, rfl⟩
  have v2 : vp_in (i + 2) Ln := hi.ix (k := 2) (by decide) (by decide)
  refine mw_aload_n cx (q := 265) 1 rfl rfl dL_law_264 rfl ?_
  refine mw_aload_n cx (q := 266) 0 rfl rfl dL_law_265 rfl ?_
  refine mw_iload cx (q := 268) 4 rfl dL_law_266 rfl ?_
  refine mw_iconst cx (q := 269) (v := 1) dL_law_268 rfl rfl ?_
  refine mw_iadd cx (q := 270) dL_law_269 rfl ?_
  refine mw_sldw cx hX (w := a1) (q := 271) ea1 v1 dL_law_270 rfl ?_
  refine mw_aload_n cx (q := 272) 0 rfl rfl dL_law_271 rfl ?_
  refine mw_iload cx (q := 274) 4 rfl dL_law_272 rfl ?_
  refine mw_iconst cx (q := 275) (v := 2) dL_law_274 rfl rfl ?_
  refine mw_iadd cx (q := 276) dL_law_275 rfl ?_
  refine mw_sldw cx hX (w := a2) (q := 277) ea2 v2 dL_law_276 rfl ?_
  refine mw_aload_n cx (q := 278) 3 rfl rfl dL_law_277 rfl ?_
  have hO := R_erase (p1 := a1) (p2 := a2) hR
  have hM := mc_L_erase l hl D ta ad M a1 a2 k_erase
  have h0 := fw13_n (kfI 1 1) (f11_erase M a1 a2)
  unfold OpR at hO
  generalize hw : fw13 (kfI 1 1) (f11_erase M a1 a2) = w at hO hM h0
  obtain ⟨e12, o1, o2, o3⟩ := hO
  have hMC := mc_X12_erase l D ta ad w.2 a1 a2 (by rw [e12]; exact hR.k)
  dsimp only at o1 o2 o3
  generalize hr : f12_erase (w.2 12) a1 a2 = r at o1 o2 o3 hMC
  refine mh_callS cx hzx hcx (q := 281) (d := 9) (u0 := 2) (As := [.ref (ad 11 0 0), .int a1, .int a2, .ref (ad 13 0 0)]) (z := fxi w) (st := []) (st1 := [.int w.1.2]) (M' := w.2) hM cs_L_133 ⟨Nat.le_of_ble_eq_true rfl, Nat.le_of_ble_eq_true rfl⟩ ⟨by show cells + 2 ≤ 601024; omega, by show slots + 6 * 2 ≤ 7293034; omega⟩ (by simp) rfl h0 rfl rfl dL_law_278 rfl ?_
  refine mw_istore cx (q := 283) (lv' := [(5, .int w.1.2), (0, .ref b), (1, .ref (ad 11 0 0)), (2, .ref (ad 12 0 0)), (3, .ref (ad 13 0 0)), (4, .int i)]) rfl (by decide) dL_law_281 rfl ?_
  refine mw_aload_n cx (q := 284) 3 rfl rfl dL_law_283 rfl ?_
  refine mw_aload_n cx (q := 285) 1 rfl rfl dL_law_284 rfl ?_
  refine mw_iload cx (q := 287) 5 rfl dL_law_285 rfl ?_
  refine mw_iconst cx (q := 288) (v := 1) dL_law_287 rfl rfl ?_
  refine mw_iadd cx (q := 289) dL_law_288 rfl ?_
  refine mw_sldw cx hX (w := a1) (q := 290) ea1 v1 dL_law_289 rfl ?_
  refine mw_aload_n cx (q := 291) 1 rfl rfl dL_law_290 rfl ?_
  refine mw_iload cx (q := 293) 5 rfl dL_law_291 rfl ?_
  refine mw_iconst cx (q := 294) (v := 2) dL_law_293 rfl rfl ?_
  refine mw_iadd cx (q := 295) dL_law_294 rfl ?_
  refine mw_sldw cx hX (w := a2) (q := 296) ea2 v2 dL_law_295 rfl ?_
  refine mw_callV cx (q := 299) (d := 2) (As := [.int a1, .int a2]) (z := fic w.2 12 r) (st := []) (st1 := [.int r.1]) (M' := uW w.2 12 r.2) hMC cv_LM_135 rfl rfl rfl vi_12_0 ⟨Nat.le_of_ble_eq_true rfl, Nat.le_of_ble_eq_true rfl⟩ ⟨by show cells + 2 ≤ 601024; omega, by show slots + 6 * 2 ≤ 7293034; omega⟩ (by simp) rfl rfl rfl dL_law_296 rfl ?_
  refine mw_istore cx (q := 301) (lv' := [(6, .int r.1), (5, .int w.1.2), (0, .ref b), (1, .ref (ad 11 0 0)), (2, .ref (ad 12 0 0)), (3, .ref (ad 13 0 0)), (4, .int i)]) rfl (by decide) dL_law_299 rfl ?_
  refine mw_aload_n cx (q := 302) 4 rfl rfl dL_law_301 rfl ?_
  refine mw_callV cx (q := 305) (d := 0) (As := []) (z := fip (uW w.2 12 r.2) (r.2 0 0 0)) (st := []) (st1 := [.int (r.2 0 0 0)]) (M' := uW w.2 12 r.2) (mc_X12_thrown l D ta ad (uW w.2 12 r.2)) cv_LM_129 rfl rfl rfl vi_12_0 ⟨Nat.le_of_ble_eq_true rfl, Nat.le_of_ble_eq_true rfl⟩ ⟨by show cells + 2 ≤ 601024; omega, by show slots + 6 * 2 ≤ 7293034; omega⟩ (by simp) rfl rfl rfl dL_law_302 rfl ?_
  refine mw_iload cx (q := 307) 1 rfl dL_law_305 rfl ?_
  refine mw_icmp_eq_k cx (tgt := 312) (q := 310) dL_law_307 (by decide) rfl (fun _ => ?_) (fun h => absurd o1 h)
  refine mw_iload cx (q := 314) 1 rfl dL_law_312 rfl ?_
  refine mw_if_ne_k cx (tgt := 329) (q := 317) dL_law_314 (by decide) rfl (fun _ => ?_) (fun h => ?_)
  · refine mw_goto cx (tgt := 2334) dL_law_329 (by decide) ?_
    exact mw_sub [2, 3, 4, 5, 6] rfl (K _ _ _ o3 (by omega) (by omega))
  · refine mw_aload_n cx (q := 318) 5 rfl rfl dL_law_317 rfl ?_
    refine mw_iconst cx (q := 319) (v := 0) dL_law_318 rfl rfl ?_
    refine mw_lald cx (q := 320) dL_law_319 rfl ?_
    refine mw_iload cx (q := 322) 0 rfl dL_law_320 rfl ?_
    refine mw_i2l cx (q := 323) dL_law_322 rfl ?_
    refine mw_lcmp0 cx (q := 324) (by rw [uW_ne _ _ (by decide), o2 h]) dL_law_323 rfl ?_
    refine mw_if_eq_k cx (tgt := 329) (q := 327) dL_law_324 (by decide) rfl (fun _ => ?_) (fun h => absurd rfl h)
    refine mw_goto cx (tgt := 2334) dL_law_329 (by decide) ?_
    exact mw_sub [2, 3, 4, 5, 6] rfl (K _ _ _ o3 (by omega) (by omega))
theorem cs_L_136 : CSh RL 136 yL_length cL_length 4 (some .int) [(0, 9, 12, 13)] 3 := ⟨⟨BG_at 553 (by decide +kernel) (by decide +kernel), BG_at 554 (by decide +kernel) (by decide +kernel), BG_at 79 (by decide +kernel) (by decide +kernel), BG_at 555 (by decide +kernel) (by decide +kernel)⟩, by decide, by decide, by decide +kernel⟩
theorem cv_LM_139 : CV RL 139 yX12_length RX12 cX12_length 2 (some .int) 1 := ⟨⟨BG_at 1457 (by decide +kernel) (by decide +kernel), BG_at 1458 (by decide +kernel) (by decide +kernel), BG_at 1459 (by decide +kernel) (by decide +kernel), BG_at 90 (by decide +kernel) (by decide +kernel), BG_at 1460 (by decide +kernel) (by decide +kernel)⟩, rfl, by decide, by decide, by decide +kernel⟩
set_option maxHeartbeats 1000000 in
theorem law_c2 (X : LwC p l s m meth c D ta ad b Ln xs) (hR : RW Lb M) (hLb : Lb ≤ 1000000) (hi : LwI Ln i) (hc : cells + 4 ≤ 601024 ∧ slots + 24 ≤ 7293034) (K : ∀ (M2 : Wm) (c2 s2 : Nat), RW (Lb + 1000) M2 → c2 ≤ cells + 4 → s2 ≤ slots + 24 → mw p l e room_1 s m #[Value.ref b] below meth c c2 s2 Q D ta ad 7 M2 2334 (lv0 ad b i) [] ()) : mw p l e room_1 s m #[Value.ref b] below meth c cells slots Q D ta ad 7 M 332 (lv0 ad b i) [] () := by
  obtain ⟨cx, hzx, hcx, hX, hl⟩ := X
  unfold lv0 at K ⊢
  obtain ⟨a1, ea1⟩ : ∃ y : Int32, y = xs (i + 1).toNatClampNeg := ⟨_, rfl⟩
  have v1 : vp_in (i + 1) Ln := hi.ix (k := 1) (by decide) (by decide)
  refine mw_aload_n cx (q := 333) 1 rfl rfl dL_law_332 rfl ?_
  refine mw_aload_n cx (q := 334) 0 rfl rfl dL_law_333 rfl ?_
  refine mw_iload cx (q := 336) 4 rfl dL_law_334 rfl ?_
  refine mw_iconst cx (q := 337) (v := 1) dL_law_336 rfl rfl ?_
  refine mw_iadd cx (q := 338) dL_law_337 rfl ?_
  refine mw_sldw cx hX (w := a1) (q := 339) ea1 v1 dL_law_338 rfl ?_
  refine mw_aload_n cx (q := 340) 3 rfl rfl dL_law_339 rfl ?_
  have hO := R_length (p1 := a1) hR
  have hM := mc_L_length l hl D ta ad M a1 k_length
  have h0 := fw13_n (kfI 1 1) (f11_length M a1)
  unfold OpR at hO
  generalize hw : fw13 (kfI 1 1) (f11_length M a1) = w at hO hM h0
  obtain ⟨e12, o1, o2, o3⟩ := hO
  have hMC := mc_X12_length l D ta ad w.2 a1 (by rw [e12]; exact hR.k)
  dsimp only at o1 o2 o3
  generalize hr : f12_length (w.2 12) a1 = r at o1 o2 o3 hMC
  refine mh_callS cx hzx hcx (q := 343) (d := 9) (u0 := 1) (As := [.ref (ad 11 0 0), .int a1, .ref (ad 13 0 0)]) (z := fxi w) (st := []) (st1 := [.int w.1.2]) (M' := w.2) hM cs_L_136 ⟨Nat.le_of_ble_eq_true rfl, Nat.le_of_ble_eq_true rfl⟩ ⟨by show cells + 1 ≤ 601024; omega, by show slots + 6 * 1 ≤ 7293034; omega⟩ (by simp) rfl h0 rfl rfl dL_law_340 rfl ?_
  refine mw_istore cx (q := 345) (lv' := [(5, .int w.1.2), (0, .ref b), (1, .ref (ad 11 0 0)), (2, .ref (ad 12 0 0)), (3, .ref (ad 13 0 0)), (4, .int i)]) rfl (by decide) dL_law_343 rfl ?_
  refine mw_aload_n cx (q := 346) 3 rfl rfl dL_law_345 rfl ?_
  refine mw_aload_n cx (q := 347) 1 rfl rfl dL_law_346 rfl ?_
  refine mw_iload cx (q := 349) 5 rfl dL_law_347 rfl ?_
  refine mw_iconst cx (q := 350) (v := 1) dL_law_349 rfl rfl ?_
  refine mw_iadd cx (q := 351) dL_law_350 rfl ?_
  refine mw_sldw cx hX (w := a1) (q := 352) ea1 v1 dL_law_351 rfl ?_
  refine mw_callV cx (q := 355) (d := 2) (As := [.int a1]) (z := fic w.2 12 r) (st := []) (st1 := [.int r.1]) (M' := uW w.2 12 r.2) hMC cv_LM_139 rfl rfl rfl vi_12_0 ⟨Nat.le_of_ble_eq_true rfl, Nat.le_of_ble_eq_true rfl⟩ ⟨by show cells + 1 ≤ 601024; omega, by show slots + 6 * 1 ≤ 7293034; omega⟩ (by simp) rfl rfl rfl dL_law_352 rfl ?_
  refine mw_istore cx (q := 357) (lv' := [(6, .int r.1), (5, .int w.1.2), (0, .ref b), (1, .ref (ad 11 0 0)), (2, .ref (ad 12 0 0)), (3, .ref (ad 13 0 0)), (4, .int i)]) rfl (by decide) dL_law_355 rfl ?_
  refine mw_aload_n cx (q := 358) 4 rfl rfl dL_law_357 rfl ?_
  refine mw_callV cx (q := 361) (d := 0) (As := []) (z := fip (uW w.2 12 r.2) (r.2 0 0 0)) (st := []) (st1 := [.int (r.2 0 0 0)]) (M' := uW w.2 12 r.2) (mc_X12_thrown l D ta ad (uW w.2 12 r.2)) cv_LM_129 rfl rfl rfl vi_12_0 ⟨Nat.le_of_ble_eq_true rfl, Nat.le_of_ble_eq_true rfl⟩ ⟨by show cells + 1 ≤ 601024; omega, by show slots + 6 * 1 ≤ 7293034; omega⟩ (by simp) rfl rfl rfl dL_law_358 rfl ?_
  refine mw_iload cx (q := 363) 1 rfl dL_law_361 rfl ?_
  refine mw_icmp_eq_k cx (tgt := 368) (q := 366) dL_law_363 (by decide) rfl (fun _ => ?_) (fun h => absurd o1 h)
  refine mw_iload cx (q := 370) 1 rfl dL_law_368 rfl ?_
  refine mw_if_ne_k cx (tgt := 385) (q := 373) dL_law_370 (by decide) rfl (fun _ => ?_) (fun h => ?_)
  · refine mw_goto cx (tgt := 2334) dL_law_385 (by decide) ?_
    exact mw_sub [2, 3, 4, 5, 6] rfl (K _ _ _ o3 (by omega) (by omega))
  · refine mw_aload_n cx (q := 374) 5 rfl rfl dL_law_373 rfl ?_
    refine mw_iconst cx (q := 375) (v := 0) dL_law_374 rfl rfl ?_
    refine mw_lald cx (q := 376) dL_law_375 rfl ?_
    refine mw_iload cx (q := 378) 0 rfl dL_law_376 rfl ?_
    refine mw_i2l cx (q := 379) dL_law_378 rfl ?_
    refine mw_lcmp0 cx (q := 380) (by rw [uW_ne _ _ (by decide), o2 h]) dL_law_379 rfl ?_
    refine mw_if_eq_k cx (tgt := 385) (q := 383) dL_law_380 (by decide) rfl (fun _ => ?_) (fun h => absurd rfl h)
    refine mw_goto cx (tgt := 2334) dL_law_385 (by decide) ?_
    exact mw_sub [2, 3, 4, 5, 6] rfl (K _ _ _ o3 (by omega) (by omega))
theorem cs_L_140 : CSh RL 140 yL_sign cL_sign 5 (some .int) [(0, 10, 13, 13), (0, 10, 17, 27)] 4 := ⟨⟨BG_at 560 (by decide +kernel) (by decide +kernel), BG_at 561 (by decide +kernel) (by decide +kernel), BG_at 79 (by decide +kernel) (by decide +kernel), BG_at 562 (by decide +kernel) (by decide +kernel)⟩, by decide, by decide, by decide +kernel⟩
theorem cv_LM_142 : CV RL 142 yX12_sign RX12 cX12_sign 4 (some .int) 2 := ⟨⟨BG_at 1461 (by decide +kernel) (by decide +kernel), BG_at 1462 (by decide +kernel) (by decide +kernel), BG_at 1463 (by decide +kernel) (by decide +kernel), BG_at 90 (by decide +kernel) (by decide +kernel), BG_at 1464 (by decide +kernel) (by decide +kernel)⟩, rfl, by decide, by decide, by decide +kernel⟩
set_option maxHeartbeats 1000000 in
theorem law_c3 (X : LwC p l s m meth c D ta ad b Ln xs) (hR : RW Lb M) (hLb : Lb ≤ 1000000) (hi : LwI Ln i) (hc : cells + 4 ≤ 601024 ∧ slots + 24 ≤ 7293034) (K : ∀ (M2 : Wm) (c2 s2 : Nat), RW (Lb + 1000) M2 → c2 ≤ cells + 4 → s2 ≤ slots + 24 → mw p l e room_1 s m #[Value.ref b] below meth c c2 s2 Q D ta ad 7 M2 2334 (lv0 ad b i) [] ()) : mw p l e room_1 s m #[Value.ref b] below meth c cells slots Q D ta ad 7 M 388 (lv0 ad b i) [] () := by
  obtain ⟨cx, hzx, hcx, hX, hl⟩ := X
  unfold lv0 at K ⊢
  obtain ⟨a1, ea1⟩ : ∃ y : Int32, y = xs (i + 1).toNatClampNeg := ⟨_, rfl⟩
  have v1 : vp_in (i + 1) Ln := hi.ix (k := 1) (by decide) (by decide)
  obtain ⟨a2, ea2⟩ : ∃ y : Int32, y = xs (i + 2).toNatClampNeg := ⟨_, rfl⟩
  have v2 : vp_in (i + 2) Ln := hi.ix (k := 2) (by decide) (by decide)
  refine mw_aload_n cx (q := 389) 1 rfl rfl dL_law_388 rfl ?_
  refine mw_aload_n cx (q := 390) 0 rfl rfl dL_law_389 rfl ?_
  refine mw_iload cx (q := 392) 4 rfl dL_law_390 rfl ?_
  refine mw_iconst cx (q := 393) (v := 1) dL_law_392 rfl rfl ?_
  refine mw_iadd cx (q := 394) dL_law_393 rfl ?_
  refine mw_sldw cx hX (w := a1) (q := 395) ea1 v1 dL_law_394 rfl ?_
  refine mw_aload_n cx (q := 396) 0 rfl rfl dL_law_395 rfl ?_
  refine mw_iload cx (q := 398) 4 rfl dL_law_396 rfl ?_
  refine mw_iconst cx (q := 399) (v := 2) dL_law_398 rfl rfl ?_
  refine mw_iadd cx (q := 400) dL_law_399 rfl ?_
  refine mw_sldw cx hX (w := a2) (q := 401) ea2 v2 dL_law_400 rfl ?_
  refine mw_aload_n cx (q := 402) 3 rfl rfl dL_law_401 rfl ?_
  have hO := R_sign (p1 := a1) (p2 := a2) hR
  have hM := mc_L_sign l hl D ta ad M a1 a2 hR.ln k_sign
  have h0 := fw13_n (kfI 1 3) (f11_sign M a1 a2)
  unfold OpR at hO
  generalize hw : fw13 (kfI 1 3) (f11_sign M a1 a2) = w at hO hM h0
  obtain ⟨e12, o1, o2, o3⟩ := hO
  have hMC := mc_X12_sign l D ta ad w.2 a1 a2 (by rw [e12]; exact hR.k)
  dsimp only at o1 o2 o3
  generalize hr : f12_sign (w.2 12) a1 a2 = r at o1 o2 o3 hMC
  refine mh_callS cx hzx hcx (q := 405) (d := 9) (u0 := 2) (As := [.ref (ad 11 0 0), .int a1, .int a2, .ref (ad 13 0 0)]) (z := fxi w) (st := []) (st1 := [.int w.1.2]) (M' := w.2) hM cs_L_140 ⟨Nat.le_of_ble_eq_true rfl, Nat.le_of_ble_eq_true rfl⟩ ⟨by show cells + 2 ≤ 601024; omega, by show slots + 6 * 2 ≤ 7293034; omega⟩ (by simp) rfl h0 rfl rfl dL_law_402 rfl ?_
  refine mw_istore cx (q := 407) (lv' := [(5, .int w.1.2), (0, .ref b), (1, .ref (ad 11 0 0)), (2, .ref (ad 12 0 0)), (3, .ref (ad 13 0 0)), (4, .int i)]) rfl (by decide) dL_law_405 rfl ?_
  refine mw_aload_n cx (q := 408) 3 rfl rfl dL_law_407 rfl ?_
  refine mw_aload_n cx (q := 409) 1 rfl rfl dL_law_408 rfl ?_
  refine mw_iload cx (q := 411) 5 rfl dL_law_409 rfl ?_
  refine mw_iconst cx (q := 412) (v := 1) dL_law_411 rfl rfl ?_
  refine mw_iadd cx (q := 413) dL_law_412 rfl ?_
  refine mw_sldw cx hX (w := a1) (q := 414) ea1 v1 dL_law_413 rfl ?_
  refine mw_aload_n cx (q := 415) 1 rfl rfl dL_law_414 rfl ?_
  refine mw_iload cx (q := 417) 5 rfl dL_law_415 rfl ?_
  refine mw_iconst cx (q := 418) (v := 2) dL_law_417 rfl rfl ?_
  refine mw_iadd cx (q := 419) dL_law_418 rfl ?_
  refine mw_sldw cx hX (w := a2) (q := 420) ea2 v2 dL_law_419 rfl ?_
  refine mw_callV cx (q := 423) (d := 2) (As := [.int a1, .int a2]) (z := fic w.2 12 r) (st := []) (st1 := [.int r.1]) (M' := uW w.2 12 r.2) hMC cv_LM_142 rfl rfl rfl vi_12_0 ⟨Nat.le_of_ble_eq_true rfl, Nat.le_of_ble_eq_true rfl⟩ ⟨by show cells + 2 ≤ 601024; omega, by show slots + 6 * 2 ≤ 7293034; omega⟩ (by simp) rfl rfl rfl dL_law_420 rfl ?_
  refine mw_istore cx (q := 425) (lv' := [(6, .int r.1), (5, .int w.1.2), (0, .ref b), (1, .ref (ad 11 0 0)), (2, .ref (ad 12 0 0)), (3, .ref (ad 13 0 0)), (4, .int i)]) rfl (by decide) dL_law_423 rfl ?_
  refine mw_aload_n cx (q := 426) 4 rfl rfl dL_law_425 rfl ?_
  refine mw_callV cx (q := 429) (d := 0) (As := []) (z := fip (uW w.2 12 r.2) (r.2 0 0 0)) (st := []) (st1 := [.int (r.2 0 0 0)]) (M' := uW w.2 12 r.2) (mc_X12_thrown l D ta ad (uW w.2 12 r.2)) cv_LM_129 rfl rfl rfl vi_12_0 ⟨Nat.le_of_ble_eq_true rfl, Nat.le_of_ble_eq_true rfl⟩ ⟨by show cells + 2 ≤ 601024; omega, by show slots + 6 * 2 ≤ 7293034; omega⟩ (by simp) rfl rfl rfl dL_law_426 rfl ?_
  refine mw_iload cx (q := 431) 1 rfl dL_law_429 rfl ?_
  refine mw_icmp_eq_k cx (tgt := 436) (q := 434) dL_law_431 (by decide) rfl (fun _ => ?_) (fun h => absurd o1 h)
  refine mw_iload cx (q := 438) 1 rfl dL_law_436 rfl ?_
  refine mw_if_ne_k cx (tgt := 453) (q := 441) dL_law_438 (by decide) rfl (fun _ => ?_) (fun h => ?_)
  · refine mw_goto cx (tgt := 2334) dL_law_453 (by decide) ?_
    exact mw_sub [2, 3, 4, 5, 6] rfl (K _ _ _ o3 (by omega) (by omega))
  · refine mw_aload_n cx (q := 442) 5 rfl rfl dL_law_441 rfl ?_
    refine mw_iconst cx (q := 443) (v := 0) dL_law_442 rfl rfl ?_
    refine mw_lald cx (q := 444) dL_law_443 rfl ?_
    refine mw_iload cx (q := 446) 0 rfl dL_law_444 rfl ?_
    refine mw_i2l cx (q := 447) dL_law_446 rfl ?_
    refine mw_lcmp0 cx (q := 448) (by rw [uW_ne _ _ (by decide), o2 h]) dL_law_447 rfl ?_
    refine mw_if_eq_k cx (tgt := 453) (q := 451) dL_law_448 (by decide) rfl (fun _ => ?_) (fun h => absurd rfl h)
    refine mw_goto cx (tgt := 2334) dL_law_453 (by decide) ?_
    exact mw_sub [2, 3, 4, 5, 6] rfl (K _ _ _ o3 (by omega) (by omega))
theorem cs_L_143 : CSh RL 143 yL_fault cL_fault 4 (some .int) [(0, 9, 12, 13)] 3 := ⟨⟨BG_at 590 (by decide +kernel) (by decide +kernel), BG_at 591 (by decide +kernel) (by decide +kernel), BG_at 79 (by decide +kernel) (by decide +kernel), BG_at 592 (by decide +kernel) (by decide +kernel)⟩, by decide, by decide, by decide +kernel⟩
theorem cv_LM_145 : CV RL 145 yX12_fault RX12 cX12_fault 2 (some .int) 1 := ⟨⟨BG_at 1469 (by decide +kernel) (by decide +kernel), BG_at 1470 (by decide +kernel) (by decide +kernel), BG_at 1471 (by decide +kernel) (by decide +kernel), BG_at 90 (by decide +kernel) (by decide +kernel), BG_at 1472 (by decide +kernel) (by decide +kernel)⟩, rfl, by decide, by decide, by decide +kernel⟩
set_option maxHeartbeats 1000000 in
theorem law_c4 (X : LwC p l s m meth c D ta ad b Ln xs) (hR : RW Lb M) (hLb : Lb ≤ 1000000) (hi : LwI Ln i) (hc : cells + 4 ≤ 601024 ∧ slots + 24 ≤ 7293034) (K : ∀ (M2 : Wm) (c2 s2 : Nat), RW (Lb + 1000) M2 → c2 ≤ cells + 4 → s2 ≤ slots + 24 → mw p l e room_1 s m #[Value.ref b] below meth c c2 s2 Q D ta ad 7 M2 2334 (lv0 ad b i) [] ()) : mw p l e room_1 s m #[Value.ref b] below meth c cells slots Q D ta ad 7 M 456 (lv0 ad b i) [] () := by
  obtain ⟨cx, hzx, hcx, hX, hl⟩ := X
  unfold lv0 at K ⊢
  obtain ⟨a1, ea1⟩ : ∃ y : Int32, y = xs (i + 1).toNatClampNeg := ⟨_, rfl⟩
  have v1 : vp_in (i + 1) Ln := hi.ix (k := 1) (by decide) (by decide)
  refine mw_aload_n cx (q := 457) 1 rfl rfl dL_law_456 rfl ?_
  refine mw_aload_n cx (q := 458) 0 rfl rfl dL_law_457 rfl ?_
  refine mw_iload cx (q := 460) 4 rfl dL_law_458 rfl ?_
  refine mw_iconst cx (q := 461) (v := 1) dL_law_460 rfl rfl ?_
  refine mw_iadd cx (q := 462) dL_law_461 rfl ?_
  refine mw_sldw cx hX (w := a1) (q := 463) ea1 v1 dL_law_462 rfl ?_
  refine mw_aload_n cx (q := 464) 3 rfl rfl dL_law_463 rfl ?_
  have hO := R_fault (p1 := a1) hR
  have hM := mc_L_fault l hl D ta ad M a1 hR.ln k_fault
  have h0 := fw13_n (kfI 1 1) (f11_fault M a1)
  unfold OpR at hO
  generalize hw : fw13 (kfI 1 1) (f11_fault M a1) = w at hO hM h0
  obtain ⟨e12, o1, o2, o3⟩ := hO
  have hMC := mc_X12_fault l D ta ad w.2 a1 (by rw [e12]; exact hR.k)
  dsimp only at o1 o2 o3
  generalize hr : f12_fault (w.2 12) a1 = r at o1 o2 o3 hMC
  refine mh_callS cx hzx hcx (q := 467) (d := 9) (u0 := 1) (As := [.ref (ad 11 0 0), .int a1, .ref (ad 13 0 0)]) (z := fxi w) (st := []) (st1 := [.int w.1.2]) (M' := w.2) hM cs_L_143 ⟨Nat.le_of_ble_eq_true rfl, Nat.le_of_ble_eq_true rfl⟩ ⟨by show cells + 1 ≤ 601024; omega, by show slots + 6 * 1 ≤ 7293034; omega⟩ (by simp) rfl h0 rfl rfl dL_law_464 rfl ?_
  refine mw_istore cx (q := 469) (lv' := [(5, .int w.1.2), (0, .ref b), (1, .ref (ad 11 0 0)), (2, .ref (ad 12 0 0)), (3, .ref (ad 13 0 0)), (4, .int i)]) rfl (by decide) dL_law_467 rfl ?_
  refine mw_aload_n cx (q := 470) 3 rfl rfl dL_law_469 rfl ?_
  refine mw_aload_n cx (q := 471) 1 rfl rfl dL_law_470 rfl ?_
  refine mw_iload cx (q := 473) 5 rfl dL_law_471 rfl ?_
  refine mw_iconst cx (q := 474) (v := 1) dL_law_473 rfl rfl ?_
  refine mw_iadd cx (q := 475) dL_law_474 rfl ?_
  refine mw_sldw cx hX (w := a1) (q := 476) ea1 v1 dL_law_475 rfl ?_
  refine mw_callV cx (q := 479) (d := 4) (As := [.int a1]) (z := fic w.2 12 r) (st := []) (st1 := [.int r.1]) (M' := uW w.2 12 r.2) hMC cv_LM_145 rfl rfl rfl vi_12_0 ⟨Nat.le_of_ble_eq_true rfl, Nat.le_of_ble_eq_true rfl⟩ ⟨by show cells + 1 ≤ 601024; omega, by show slots + 6 * 1 ≤ 7293034; omega⟩ (by simp) rfl rfl rfl dL_law_476 rfl ?_
  refine mw_istore cx (q := 481) (lv' := [(6, .int r.1), (5, .int w.1.2), (0, .ref b), (1, .ref (ad 11 0 0)), (2, .ref (ad 12 0 0)), (3, .ref (ad 13 0 0)), (4, .int i)]) rfl (by decide) dL_law_479 rfl ?_
  refine mw_aload_n cx (q := 482) 4 rfl rfl dL_law_481 rfl ?_
  refine mw_callV cx (q := 485) (d := 0) (As := []) (z := fip (uW w.2 12 r.2) (r.2 0 0 0)) (st := []) (st1 := [.int (r.2 0 0 0)]) (M' := uW w.2 12 r.2) (mc_X12_thrown l D ta ad (uW w.2 12 r.2)) cv_LM_129 rfl rfl rfl vi_12_0 ⟨Nat.le_of_ble_eq_true rfl, Nat.le_of_ble_eq_true rfl⟩ ⟨by show cells + 1 ≤ 601024; omega, by show slots + 6 * 1 ≤ 7293034; omega⟩ (by simp) rfl rfl rfl dL_law_482 rfl ?_
  refine mw_iload cx (q := 487) 1 rfl dL_law_485 rfl ?_
  refine mw_icmp_eq_k cx (tgt := 492) (q := 490) dL_law_487 (by decide) rfl (fun _ => ?_) (fun h => absurd o1 h)
  refine mw_iload cx (q := 494) 1 rfl dL_law_492 rfl ?_
  refine mw_if_ne_k cx (tgt := 509) (q := 497) dL_law_494 (by decide) rfl (fun _ => ?_) (fun h => ?_)
  · refine mw_goto cx (tgt := 2334) dL_law_509 (by decide) ?_
    exact mw_sub [2, 3, 4, 5, 6] rfl (K _ _ _ o3 (by omega) (by omega))
  · refine mw_aload_n cx (q := 498) 5 rfl rfl dL_law_497 rfl ?_
    refine mw_iconst cx (q := 499) (v := 0) dL_law_498 rfl rfl ?_
    refine mw_lald cx (q := 500) dL_law_499 rfl ?_
    refine mw_iload cx (q := 502) 0 rfl dL_law_500 rfl ?_
    refine mw_i2l cx (q := 503) dL_law_502 rfl ?_
    refine mw_lcmp0 cx (q := 504) (by rw [uW_ne _ _ (by decide), o2 h]) dL_law_503 rfl ?_
    refine mw_if_eq_k cx (tgt := 509) (q := 507) dL_law_504 (by decide) rfl (fun _ => ?_) (fun h => absurd rfl h)
    refine mw_goto cx (tgt := 2334) dL_law_509 (by decide) ?_
    exact mw_sub [2, 3, 4, 5, 6] rfl (K _ _ _ o3 (by omega) (by omega))
theorem cs_L_146 : CSh RL 146 yL_expressions cL_expressions 4 (some .int) [(0, 9, 12, 13), (0, 9, 15, 15)] 3 := ⟨⟨BG_at 676 (by decide +kernel) (by decide +kernel), BG_at 677 (by decide +kernel) (by decide +kernel), BG_at 79 (by decide +kernel) (by decide +kernel), BG_at 678 (by decide +kernel) (by decide +kernel)⟩, by decide, by decide, by decide +kernel⟩
theorem cv_LM_148 : CV RL 148 yX12_expressions RX12 cX12_expressions 3 (some .int) 1 := ⟨⟨BG_at 1480 (by decide +kernel) (by decide +kernel), BG_at 1481 (by decide +kernel) (by decide +kernel), BG_at 1482 (by decide +kernel) (by decide +kernel), BG_at 90 (by decide +kernel) (by decide +kernel), BG_at 1483 (by decide +kernel) (by decide +kernel)⟩, rfl, by decide, by decide, by decide +kernel⟩
set_option maxHeartbeats 1000000 in
theorem law_c5 (X : LwC p l s m meth c D ta ad b Ln xs) (hR : RW Lb M) (hLb : Lb ≤ 1000000) (hi : LwI Ln i) (hc : cells + 4 ≤ 601024 ∧ slots + 24 ≤ 7293034) (K : ∀ (M2 : Wm) (c2 s2 : Nat), RW (Lb + 1000) M2 → c2 ≤ cells + 4 → s2 ≤ slots + 24 → mw p l e room_1 s m #[Value.ref b] below meth c c2 s2 Q D ta ad 7 M2 2334 (lv0 ad b i) [] ()) : mw p l e room_1 s m #[Value.ref b] below meth c cells slots Q D ta ad 7 M 512 (lv0 ad b i) [] () := by
  obtain ⟨cx, hzx, hcx, hX, hl⟩ := X
  unfold lv0 at K ⊢
  obtain ⟨a1, ea1⟩ : ∃ y : Int32, y = xs (i + 1).toNatClampNeg := ⟨_, rfl⟩
  have v1 : vp_in (i + 1) Ln := hi.ix (k := 1) (by decide) (by decide)
  refine mw_aload_n cx (q := 513) 1 rfl rfl dL_law_512 rfl ?_
  refine mw_aload_n cx (q := 514) 0 rfl rfl dL_law_513 rfl ?_
  refine mw_iload cx (q := 516) 4 rfl dL_law_514 rfl ?_
  refine mw_iconst cx (q := 517) (v := 1) dL_law_516 rfl rfl ?_
  refine mw_iadd cx (q := 518) dL_law_517 rfl ?_
  refine mw_sldw cx hX (w := a1) (q := 519) ea1 v1 dL_law_518 rfl ?_
  refine mw_aload_n cx (q := 520) 3 rfl rfl dL_law_519 rfl ?_
  have hO := R_expressions (p1 := a1) hR
  have hM := mc_L_expressions l hl D ta ad M a1 hR.ln k_expressions
  have h0 := fw13_n (kfI 1 2) (f11_expressions M a1)
  unfold OpR at hO
  generalize hw : fw13 (kfI 1 2) (f11_expressions M a1) = w at hO hM h0
  obtain ⟨e12, o1, o2, o3⟩ := hO
  have hMC := mc_X12_expressions l D ta ad w.2 a1 (by rw [e12]; exact hR.k)
  dsimp only at o1 o2 o3
  generalize hr : f12_expressions (w.2 12) a1 = r at o1 o2 o3 hMC
  refine mh_callS cx hzx hcx (q := 523) (d := 9) (u0 := 2) (As := [.ref (ad 11 0 0), .int a1, .ref (ad 13 0 0)]) (z := fxi w) (st := []) (st1 := [.int w.1.2]) (M' := w.2) hM cs_L_146 ⟨Nat.le_of_ble_eq_true rfl, Nat.le_of_ble_eq_true rfl⟩ ⟨by show cells + 2 ≤ 601024; omega, by show slots + 6 * 2 ≤ 7293034; omega⟩ (by simp) rfl h0 rfl rfl dL_law_520 rfl ?_
  refine mw_istore cx (q := 525) (lv' := [(5, .int w.1.2), (0, .ref b), (1, .ref (ad 11 0 0)), (2, .ref (ad 12 0 0)), (3, .ref (ad 13 0 0)), (4, .int i)]) rfl (by decide) dL_law_523 rfl ?_
  refine mw_aload_n cx (q := 526) 3 rfl rfl dL_law_525 rfl ?_
  refine mw_aload_n cx (q := 527) 1 rfl rfl dL_law_526 rfl ?_
  refine mw_iload cx (q := 529) 5 rfl dL_law_527 rfl ?_
  refine mw_iconst cx (q := 530) (v := 1) dL_law_529 rfl rfl ?_
  refine mw_iadd cx (q := 531) dL_law_530 rfl ?_
  refine mw_sldw cx hX (w := a1) (q := 532) ea1 v1 dL_law_531 rfl ?_
  refine mw_callV cx (q := 535) (d := 5) (As := [.int a1]) (z := fic w.2 12 r) (st := []) (st1 := [.int r.1]) (M' := uW w.2 12 r.2) hMC cv_LM_148 rfl rfl rfl vi_12_0 ⟨Nat.le_of_ble_eq_true rfl, Nat.le_of_ble_eq_true rfl⟩ ⟨by show cells + 2 ≤ 601024; omega, by show slots + 6 * 2 ≤ 7293034; omega⟩ (by simp) rfl rfl rfl dL_law_532 rfl ?_
  refine mw_istore cx (q := 537) (lv' := [(6, .int r.1), (5, .int w.1.2), (0, .ref b), (1, .ref (ad 11 0 0)), (2, .ref (ad 12 0 0)), (3, .ref (ad 13 0 0)), (4, .int i)]) rfl (by decide) dL_law_535 rfl ?_
  refine mw_aload_n cx (q := 538) 4 rfl rfl dL_law_537 rfl ?_
  refine mw_callV cx (q := 541) (d := 0) (As := []) (z := fip (uW w.2 12 r.2) (r.2 0 0 0)) (st := []) (st1 := [.int (r.2 0 0 0)]) (M' := uW w.2 12 r.2) (mc_X12_thrown l D ta ad (uW w.2 12 r.2)) cv_LM_129 rfl rfl rfl vi_12_0 ⟨Nat.le_of_ble_eq_true rfl, Nat.le_of_ble_eq_true rfl⟩ ⟨by show cells + 2 ≤ 601024; omega, by show slots + 6 * 2 ≤ 7293034; omega⟩ (by simp) rfl rfl rfl dL_law_538 rfl ?_
  refine mw_iload cx (q := 543) 1 rfl dL_law_541 rfl ?_
  refine mw_icmp_eq_k cx (tgt := 548) (q := 546) dL_law_543 (by decide) rfl (fun _ => ?_) (fun h => absurd o1 h)
  refine mw_iload cx (q := 550) 1 rfl dL_law_548 rfl ?_
  refine mw_if_ne_k cx (tgt := 565) (q := 553) dL_law_550 (by decide) rfl (fun _ => ?_) (fun h => ?_)
  · refine mw_goto cx (tgt := 2334) dL_law_565 (by decide) ?_
    exact mw_sub [2, 3, 4, 5, 6] rfl (K _ _ _ o3 (by omega) (by omega))
  · refine mw_aload_n cx (q := 554) 5 rfl rfl dL_law_553 rfl ?_
    refine mw_iconst cx (q := 555) (v := 0) dL_law_554 rfl rfl ?_
    refine mw_lald cx (q := 556) dL_law_555 rfl ?_
    refine mw_iload cx (q := 558) 0 rfl dL_law_556 rfl ?_
    refine mw_i2l cx (q := 559) dL_law_558 rfl ?_
    refine mw_lcmp0 cx (q := 560) (by rw [uW_ne _ _ (by decide), o2 h]) dL_law_559 rfl ?_
    refine mw_if_eq_k cx (tgt := 565) (q := 563) dL_law_560 (by decide) rfl (fun _ => ?_) (fun h => absurd rfl h)
    refine mw_goto cx (tgt := 2334) dL_law_565 (by decide) ?_
    exact mw_sub [2, 3, 4, 5, 6] rfl (K _ _ _ o3 (by omega) (by omega))
theorem cs_L_149 : CSh RL 149 yL_supply cL_supply 5 (some .int) [(0, 10, 13, 13)] 4 := ⟨⟨BG_at 688 (by decide +kernel) (by decide +kernel), BG_at 689 (by decide +kernel) (by decide +kernel), BG_at 79 (by decide +kernel) (by decide +kernel), BG_at 690 (by decide +kernel) (by decide +kernel)⟩, by decide, by decide, by decide +kernel⟩
theorem cv_LM_151 : CV RL 151 yX12_supply RX12 cX12_supply 3 (some .int) 2 := ⟨⟨BG_at 1701 (by decide +kernel) (by decide +kernel), BG_at 1702 (by decide +kernel) (by decide +kernel), BG_at 1703 (by decide +kernel) (by decide +kernel), BG_at 90 (by decide +kernel) (by decide +kernel), BG_at 1704 (by decide +kernel) (by decide +kernel)⟩, rfl, by decide, by decide, by decide +kernel⟩
set_option maxHeartbeats 1000000 in
theorem law_c6 (X : LwC p l s m meth c D ta ad b Ln xs) (hR : RW Lb M) (hLb : Lb ≤ 1000000) (hi : LwI Ln i) (hc : cells + 4 ≤ 601024 ∧ slots + 24 ≤ 7293034) (K : ∀ (M2 : Wm) (c2 s2 : Nat), RW (Lb + 1000) M2 → c2 ≤ cells + 4 → s2 ≤ slots + 24 → mw p l e room_1 s m #[Value.ref b] below meth c c2 s2 Q D ta ad 7 M2 2334 (lv0 ad b i) [] ()) : mw p l e room_1 s m #[Value.ref b] below meth c cells slots Q D ta ad 7 M 568 (lv0 ad b i) [] () := by
  obtain ⟨cx, hzx, hcx, hX, hl⟩ := X
  unfold lv0 at K ⊢
  obtain ⟨a1, ea1⟩ : ∃ y : Int32, y = xs (i + 1).toNatClampNeg := ⟨_, rfl⟩
  have v1 : vp_in (i + 1) Ln := hi.ix (k := 1) (by decide) (by decide)
  obtain ⟨a2, ea2⟩ : ∃ y : Int32, y = xs (i + 2).toNatClampNeg := ⟨_, rfl⟩
  have v2 : vp_in (i + 2) Ln := hi.ix (k := 2) (by decide) (by decide)
  refine mw_aload_n cx (q := 569) 1 rfl rfl dL_law_568 rfl ?_
  refine mw_aload_n cx (q := 570) 0 rfl rfl dL_law_569 rfl ?_
  refine mw_iload cx (q := 572) 4 rfl dL_law_570 rfl ?_
  refine mw_iconst cx (q := 573) (v := 1) dL_law_572 rfl rfl ?_
  refine mw_iadd cx (q := 574) dL_law_573 rfl ?_
  refine mw_sldw cx hX (w := a1) (q := 575) ea1 v1 dL_law_574 rfl ?_
  refine mw_aload_n cx (q := 576) 0 rfl rfl dL_law_575 rfl ?_
  refine mw_iload cx (q := 578) 4 rfl dL_law_576 rfl ?_
  refine mw_iconst cx (q := 579) (v := 2) dL_law_578 rfl rfl ?_
  refine mw_iadd cx (q := 580) dL_law_579 rfl ?_
  refine mw_sldw cx hX (w := a2) (q := 581) ea2 v2 dL_law_580 rfl ?_
  refine mw_aload_n cx (q := 582) 3 rfl rfl dL_law_581 rfl ?_
  have hO := R_supply (p1 := a1) (p2 := a2) hR hLb
  have hM := mc_L_supply l hl D ta ad M a1 a2 k_supply
  have h0 := fw13_n (kfI 1 1) (f11_supply M a1 a2)
  unfold OpR at hO
  generalize hw : fw13 (kfI 1 1) (f11_supply M a1 a2) = w at hO hM h0
  obtain ⟨e12, o1, o2, o3⟩ := hO
  have hMC := mc_X12_supply l D ta ad w.2 a1 a2 (by rw [e12]; exact hR.k)
  dsimp only at o1 o2 o3
  generalize hr : f12_supply (w.2 12) a1 a2 = r at o1 o2 o3 hMC
  refine mh_callS cx hzx hcx (q := 585) (d := 9) (u0 := 2) (As := [.ref (ad 11 0 0), .int a1, .int a2, .ref (ad 13 0 0)]) (z := fxi w) (st := []) (st1 := [.int w.1.2]) (M' := w.2) hM cs_L_149 ⟨Nat.le_of_ble_eq_true rfl, Nat.le_of_ble_eq_true rfl⟩ ⟨by show cells + 2 ≤ 601024; omega, by show slots + 6 * 2 ≤ 7293034; omega⟩ (by simp) rfl h0 rfl rfl dL_law_582 rfl ?_
  refine mw_istore cx (q := 587) (lv' := [(5, .int w.1.2), (0, .ref b), (1, .ref (ad 11 0 0)), (2, .ref (ad 12 0 0)), (3, .ref (ad 13 0 0)), (4, .int i)]) rfl (by decide) dL_law_585 rfl ?_
  refine mw_aload_n cx (q := 588) 3 rfl rfl dL_law_587 rfl ?_
  refine mw_aload_n cx (q := 589) 1 rfl rfl dL_law_588 rfl ?_
  refine mw_iload cx (q := 591) 5 rfl dL_law_589 rfl ?_
  refine mw_iconst cx (q := 592) (v := 1) dL_law_591 rfl rfl ?_
  refine mw_iadd cx (q := 593) dL_law_592 rfl ?_
  refine mw_sldw cx hX (w := a1) (q := 594) ea1 v1 dL_law_593 rfl ?_
  refine mw_aload_n cx (q := 595) 1 rfl rfl dL_law_594 rfl ?_
  refine mw_iload cx (q := 597) 5 rfl dL_law_595 rfl ?_
  refine mw_iconst cx (q := 598) (v := 2) dL_law_597 rfl rfl ?_
  refine mw_iadd cx (q := 599) dL_law_598 rfl ?_
  refine mw_sldw cx hX (w := a2) (q := 600) ea2 v2 dL_law_599 rfl ?_
  refine mw_callV cx (q := 603) (d := 2) (As := [.int a1, .int a2]) (z := fic w.2 12 r) (st := []) (st1 := [.int r.1]) (M' := uW w.2 12 r.2) hMC cv_LM_151 rfl rfl rfl vi_12_0 ⟨Nat.le_of_ble_eq_true rfl, Nat.le_of_ble_eq_true rfl⟩ ⟨by show cells + 2 ≤ 601024; omega, by show slots + 6 * 2 ≤ 7293034; omega⟩ (by simp) rfl rfl rfl dL_law_600 rfl ?_
  refine mw_istore cx (q := 605) (lv' := [(6, .int r.1), (5, .int w.1.2), (0, .ref b), (1, .ref (ad 11 0 0)), (2, .ref (ad 12 0 0)), (3, .ref (ad 13 0 0)), (4, .int i)]) rfl (by decide) dL_law_603 rfl ?_
  refine mw_aload_n cx (q := 606) 4 rfl rfl dL_law_605 rfl ?_
  refine mw_callV cx (q := 609) (d := 0) (As := []) (z := fip (uW w.2 12 r.2) (r.2 0 0 0)) (st := []) (st1 := [.int (r.2 0 0 0)]) (M' := uW w.2 12 r.2) (mc_X12_thrown l D ta ad (uW w.2 12 r.2)) cv_LM_129 rfl rfl rfl vi_12_0 ⟨Nat.le_of_ble_eq_true rfl, Nat.le_of_ble_eq_true rfl⟩ ⟨by show cells + 2 ≤ 601024; omega, by show slots + 6 * 2 ≤ 7293034; omega⟩ (by simp) rfl rfl rfl dL_law_606 rfl ?_
  refine mw_iload cx (q := 611) 1 rfl dL_law_609 rfl ?_
  refine mw_icmp_eq_k cx (tgt := 616) (q := 614) dL_law_611 (by decide) rfl (fun _ => ?_) (fun h => absurd o1 h)
  refine mw_iload cx (q := 618) 1 rfl dL_law_616 rfl ?_
  refine mw_if_ne_k cx (tgt := 633) (q := 621) dL_law_618 (by decide) rfl (fun _ => ?_) (fun h => ?_)
  · refine mw_goto cx (tgt := 2334) dL_law_633 (by decide) ?_
    exact mw_sub [2, 3, 4, 5, 6] rfl (K _ _ _ o3 (by omega) (by omega))
  · refine mw_aload_n cx (q := 622) 5 rfl rfl dL_law_621 rfl ?_
    refine mw_iconst cx (q := 623) (v := 0) dL_law_622 rfl rfl ?_
    refine mw_lald cx (q := 624) dL_law_623 rfl ?_
    refine mw_iload cx (q := 626) 0 rfl dL_law_624 rfl ?_
    refine mw_i2l cx (q := 627) dL_law_626 rfl ?_
    refine mw_lcmp0 cx (q := 628) (by rw [uW_ne _ _ (by decide), o2 h]) dL_law_627 rfl ?_
    refine mw_if_eq_k cx (tgt := 633) (q := 631) dL_law_628 (by decide) rfl (fun _ => ?_) (fun h => absurd rfl h)
    refine mw_goto cx (tgt := 2334) dL_law_633 (by decide) ?_
    exact mw_sub [2, 3, 4, 5, 6] rfl (K _ _ _ o3 (by omega) (by omega))
theorem cs_L_152 : CSh RL 152 yL_giveRations cL_giveRations 5 (some .int) [(0, 10, 13, 13)] 4 := ⟨⟨BG_at 702 (by decide +kernel) (by decide +kernel), BG_at 703 (by decide +kernel) (by decide +kernel), BG_at 79 (by decide +kernel) (by decide +kernel), BG_at 704 (by decide +kernel) (by decide +kernel)⟩, by decide, by decide, by decide +kernel⟩
theorem cv_LM_154 : CV RL 154 yX12_giveRations RX12 cX12_giveRations 3 (some .int) 2 := ⟨⟨BG_at 1705 (by decide +kernel) (by decide +kernel), BG_at 1706 (by decide +kernel) (by decide +kernel), BG_at 1707 (by decide +kernel) (by decide +kernel), BG_at 90 (by decide +kernel) (by decide +kernel), BG_at 1708 (by decide +kernel) (by decide +kernel)⟩, rfl, by decide, by decide, by decide +kernel⟩
set_option maxHeartbeats 1000000 in
theorem law_c7 (X : LwC p l s m meth c D ta ad b Ln xs) (hR : RW Lb M) (hLb : Lb ≤ 1000000) (hi : LwI Ln i) (hc : cells + 4 ≤ 601024 ∧ slots + 24 ≤ 7293034) (K : ∀ (M2 : Wm) (c2 s2 : Nat), RW (Lb + 1000) M2 → c2 ≤ cells + 4 → s2 ≤ slots + 24 → mw p l e room_1 s m #[Value.ref b] below meth c c2 s2 Q D ta ad 7 M2 2334 (lv0 ad b i) [] ()) : mw p l e room_1 s m #[Value.ref b] below meth c cells slots Q D ta ad 7 M 636 (lv0 ad b i) [] () := by
  obtain ⟨cx, hzx, hcx, hX, hl⟩ := X
  unfold lv0 at K ⊢
  obtain ⟨a1, ea1⟩ : ∃ y : Int32, y = xs (i + 1).toNatClampNeg := ⟨_, rfl⟩
  have v1 : vp_in (i + 1) Ln := hi.ix (k := 1) (by decide) (by decide)
  obtain ⟨a2, ea2⟩ : ∃ y : Int32, y = xs (i + 2).toNatClampNeg := ⟨_, rfl⟩
  have v2 : vp_in (i + 2) Ln := hi.ix (k := 2) (by decide) (by decide)
  refine mw_aload_n cx (q := 637) 1 rfl rfl dL_law_636 rfl ?_
  refine mw_aload_n cx (q := 638) 0 rfl rfl dL_law_637 rfl ?_
  refine mw_iload cx (q := 640) 4 rfl dL_law_638 rfl ?_
  refine mw_iconst cx (q := 641) (v := 1) dL_law_640 rfl rfl ?_
  refine mw_iadd cx (q := 642) dL_law_641 rfl ?_
  refine mw_sldw cx hX (w := a1) (q := 643) ea1 v1 dL_law_642 rfl ?_
  refine mw_aload_n cx (q := 644) 0 rfl rfl dL_law_643 rfl ?_
  refine mw_iload cx (q := 646) 4 rfl dL_law_644 rfl ?_
  refine mw_iconst cx (q := 647) (v := 2) dL_law_646 rfl rfl ?_
  refine mw_iadd cx (q := 648) dL_law_647 rfl ?_
  refine mw_sldw cx hX (w := a2) (q := 649) ea2 v2 dL_law_648 rfl ?_
  refine mw_aload_n cx (q := 650) 3 rfl rfl dL_law_649 rfl ?_
  have hO := R_giveRations (p1 := a1) (p2 := a2) hR
  have hM := mc_L_giveRations l hl D ta ad M a1 a2 k_giveRations
  have h0 := fw13_n (kfI 1 1) (f11_giveRations M a1 a2)
  unfold OpR at hO
  generalize hw : fw13 (kfI 1 1) (f11_giveRations M a1 a2) = w at hO hM h0
  obtain ⟨e12, o1, o2, o3⟩ := hO
  have hMC := mc_X12_giveRations l D ta ad w.2 a1 a2 (by rw [e12]; exact hR.k)
  dsimp only at o1 o2 o3
  generalize hr : f12_giveRations (w.2 12) a1 a2 = r at o1 o2 o3 hMC
  refine mh_callS cx hzx hcx (q := 653) (d := 9) (u0 := 2) (As := [.ref (ad 11 0 0), .int a1, .int a2, .ref (ad 13 0 0)]) (z := fxi w) (st := []) (st1 := [.int w.1.2]) (M' := w.2) hM cs_L_152 ⟨Nat.le_of_ble_eq_true rfl, Nat.le_of_ble_eq_true rfl⟩ ⟨by show cells + 2 ≤ 601024; omega, by show slots + 6 * 2 ≤ 7293034; omega⟩ (by simp) rfl h0 rfl rfl dL_law_650 rfl ?_
  refine mw_istore cx (q := 655) (lv' := [(5, .int w.1.2), (0, .ref b), (1, .ref (ad 11 0 0)), (2, .ref (ad 12 0 0)), (3, .ref (ad 13 0 0)), (4, .int i)]) rfl (by decide) dL_law_653 rfl ?_
  refine mw_aload_n cx (q := 656) 3 rfl rfl dL_law_655 rfl ?_
  refine mw_aload_n cx (q := 657) 1 rfl rfl dL_law_656 rfl ?_
  refine mw_iload cx (q := 659) 5 rfl dL_law_657 rfl ?_
  refine mw_iconst cx (q := 660) (v := 1) dL_law_659 rfl rfl ?_
  refine mw_iadd cx (q := 661) dL_law_660 rfl ?_
  refine mw_sldw cx hX (w := a1) (q := 662) ea1 v1 dL_law_661 rfl ?_
  refine mw_aload_n cx (q := 663) 1 rfl rfl dL_law_662 rfl ?_
  refine mw_iload cx (q := 665) 5 rfl dL_law_663 rfl ?_
  refine mw_iconst cx (q := 666) (v := 2) dL_law_665 rfl rfl ?_
  refine mw_iadd cx (q := 667) dL_law_666 rfl ?_
  refine mw_sldw cx hX (w := a2) (q := 668) ea2 v2 dL_law_667 rfl ?_
  refine mw_callV cx (q := 671) (d := 2) (As := [.int a1, .int a2]) (z := fic w.2 12 r) (st := []) (st1 := [.int r.1]) (M' := uW w.2 12 r.2) hMC cv_LM_154 rfl rfl rfl vi_12_0 ⟨Nat.le_of_ble_eq_true rfl, Nat.le_of_ble_eq_true rfl⟩ ⟨by show cells + 2 ≤ 601024; omega, by show slots + 6 * 2 ≤ 7293034; omega⟩ (by simp) rfl rfl rfl dL_law_668 rfl ?_
  refine mw_istore cx (q := 673) (lv' := [(6, .int r.1), (5, .int w.1.2), (0, .ref b), (1, .ref (ad 11 0 0)), (2, .ref (ad 12 0 0)), (3, .ref (ad 13 0 0)), (4, .int i)]) rfl (by decide) dL_law_671 rfl ?_
  refine mw_aload_n cx (q := 674) 4 rfl rfl dL_law_673 rfl ?_
  refine mw_callV cx (q := 677) (d := 0) (As := []) (z := fip (uW w.2 12 r.2) (r.2 0 0 0)) (st := []) (st1 := [.int (r.2 0 0 0)]) (M' := uW w.2 12 r.2) (mc_X12_thrown l D ta ad (uW w.2 12 r.2)) cv_LM_129 rfl rfl rfl vi_12_0 ⟨Nat.le_of_ble_eq_true rfl, Nat.le_of_ble_eq_true rfl⟩ ⟨by show cells + 2 ≤ 601024; omega, by show slots + 6 * 2 ≤ 7293034; omega⟩ (by simp) rfl rfl rfl dL_law_674 rfl ?_
  refine mw_iload cx (q := 679) 1 rfl dL_law_677 rfl ?_
  refine mw_icmp_eq_k cx (tgt := 684) (q := 682) dL_law_679 (by decide) rfl (fun _ => ?_) (fun h => absurd o1 h)
  refine mw_iload cx (q := 686) 1 rfl dL_law_684 rfl ?_
  refine mw_if_ne_k cx (tgt := 701) (q := 689) dL_law_686 (by decide) rfl (fun _ => ?_) (fun h => ?_)
  · refine mw_goto cx (tgt := 2334) dL_law_701 (by decide) ?_
    exact mw_sub [2, 3, 4, 5, 6] rfl (K _ _ _ o3 (by omega) (by omega))
  · refine mw_aload_n cx (q := 690) 5 rfl rfl dL_law_689 rfl ?_
    refine mw_iconst cx (q := 691) (v := 0) dL_law_690 rfl rfl ?_
    refine mw_lald cx (q := 692) dL_law_691 rfl ?_
    refine mw_iload cx (q := 694) 0 rfl dL_law_692 rfl ?_
    refine mw_i2l cx (q := 695) dL_law_694 rfl ?_
    refine mw_lcmp0 cx (q := 696) (by rw [uW_ne _ _ (by decide), o2 h]) dL_law_695 rfl ?_
    refine mw_if_eq_k cx (tgt := 701) (q := 699) dL_law_696 (by decide) rfl (fun _ => ?_) (fun h => absurd rfl h)
    refine mw_goto cx (tgt := 2334) dL_law_701 (by decide) ?_
    exact mw_sub [2, 3, 4, 5, 6] rfl (K _ _ _ o3 (by omega) (by omega))
theorem cs_L_155 : CSh RL 155 yL_setTariff cL_setTariff 4 (some .int) [(0, 9, 12, 13)] 3 := ⟨⟨BG_at 716 (by decide +kernel) (by decide +kernel), BG_at 717 (by decide +kernel) (by decide +kernel), BG_at 79 (by decide +kernel) (by decide +kernel), BG_at 718 (by decide +kernel) (by decide +kernel)⟩, by decide, by decide, by decide +kernel⟩
theorem cv_LM_157 : CV RL 157 yX12_setTariff RX12 cX12_setTariff 3 (some .int) 1 := ⟨⟨BG_at 1709 (by decide +kernel) (by decide +kernel), BG_at 1710 (by decide +kernel) (by decide +kernel), BG_at 1711 (by decide +kernel) (by decide +kernel), BG_at 90 (by decide +kernel) (by decide +kernel), BG_at 1712 (by decide +kernel) (by decide +kernel)⟩, rfl, by decide, by decide, by decide +kernel⟩
set_option maxHeartbeats 1000000 in
theorem law_c8 (X : LwC p l s m meth c D ta ad b Ln xs) (hR : RW Lb M) (hLb : Lb ≤ 1000000) (hi : LwI Ln i) (hc : cells + 4 ≤ 601024 ∧ slots + 24 ≤ 7293034) (K : ∀ (M2 : Wm) (c2 s2 : Nat), RW (Lb + 1000) M2 → c2 ≤ cells + 4 → s2 ≤ slots + 24 → mw p l e room_1 s m #[Value.ref b] below meth c c2 s2 Q D ta ad 7 M2 2334 (lv0 ad b i) [] ()) : mw p l e room_1 s m #[Value.ref b] below meth c cells slots Q D ta ad 7 M 704 (lv0 ad b i) [] () := by
  obtain ⟨cx, hzx, hcx, hX, hl⟩ := X
  unfold lv0 at K ⊢
  obtain ⟨a1, ea1⟩ : ∃ y : Int32, y = xs (i + 1).toNatClampNeg := ⟨_, rfl⟩
  have v1 : vp_in (i + 1) Ln := hi.ix (k := 1) (by decide) (by decide)
  refine mw_aload_n cx (q := 705) 1 rfl rfl dL_law_704 rfl ?_
  refine mw_aload_n cx (q := 706) 0 rfl rfl dL_law_705 rfl ?_
  refine mw_iload cx (q := 708) 4 rfl dL_law_706 rfl ?_
  refine mw_iconst cx (q := 709) (v := 1) dL_law_708 rfl rfl ?_
  refine mw_iadd cx (q := 710) dL_law_709 rfl ?_
  refine mw_sldw cx hX (w := a1) (q := 711) ea1 v1 dL_law_710 rfl ?_
  refine mw_aload_n cx (q := 712) 3 rfl rfl dL_law_711 rfl ?_
  have hO := R_setTariff (p1 := a1) hR
  have hM := mc_L_setTariff l hl D ta ad M a1 k_setTariff
  have h0 := fw13_n (kfI 1 1) (f11_setTariff M a1)
  unfold OpR at hO
  generalize hw : fw13 (kfI 1 1) (f11_setTariff M a1) = w at hO hM h0
  obtain ⟨e12, o1, o2, o3⟩ := hO
  have hMC := mc_X12_setTariff l D ta ad w.2 a1
  dsimp only at o1 o2 o3
  generalize hr : f12_setTariff (w.2 12) a1 = r at o1 o2 o3 hMC
  refine mh_callS cx hzx hcx (q := 715) (d := 9) (u0 := 1) (As := [.ref (ad 11 0 0), .int a1, .ref (ad 13 0 0)]) (z := fxi w) (st := []) (st1 := [.int w.1.2]) (M' := w.2) hM cs_L_155 ⟨Nat.le_of_ble_eq_true rfl, Nat.le_of_ble_eq_true rfl⟩ ⟨by show cells + 1 ≤ 601024; omega, by show slots + 6 * 1 ≤ 7293034; omega⟩ (by simp) rfl h0 rfl rfl dL_law_712 rfl ?_
  refine mw_istore cx (q := 717) (lv' := [(5, .int w.1.2), (0, .ref b), (1, .ref (ad 11 0 0)), (2, .ref (ad 12 0 0)), (3, .ref (ad 13 0 0)), (4, .int i)]) rfl (by decide) dL_law_715 rfl ?_
  refine mw_aload_n cx (q := 718) 3 rfl rfl dL_law_717 rfl ?_
  refine mw_aload_n cx (q := 719) 1 rfl rfl dL_law_718 rfl ?_
  refine mw_iload cx (q := 721) 5 rfl dL_law_719 rfl ?_
  refine mw_iconst cx (q := 722) (v := 1) dL_law_721 rfl rfl ?_
  refine mw_iadd cx (q := 723) dL_law_722 rfl ?_
  refine mw_sldw cx hX (w := a1) (q := 724) ea1 v1 dL_law_723 rfl ?_
  refine mw_callV cx (q := 727) (d := 1) (As := [.int a1]) (z := fic w.2 12 r) (st := []) (st1 := [.int r.1]) (M' := uW w.2 12 r.2) hMC cv_LM_157 rfl rfl rfl vi_12_0 ⟨Nat.le_of_ble_eq_true rfl, Nat.le_of_ble_eq_true rfl⟩ ⟨by show cells + 1 ≤ 601024; omega, by show slots + 6 * 1 ≤ 7293034; omega⟩ (by simp) rfl rfl rfl dL_law_724 rfl ?_
  refine mw_istore cx (q := 729) (lv' := [(6, .int r.1), (5, .int w.1.2), (0, .ref b), (1, .ref (ad 11 0 0)), (2, .ref (ad 12 0 0)), (3, .ref (ad 13 0 0)), (4, .int i)]) rfl (by decide) dL_law_727 rfl ?_
  refine mw_aload_n cx (q := 730) 4 rfl rfl dL_law_729 rfl ?_
  refine mw_callV cx (q := 733) (d := 0) (As := []) (z := fip (uW w.2 12 r.2) (r.2 0 0 0)) (st := []) (st1 := [.int (r.2 0 0 0)]) (M' := uW w.2 12 r.2) (mc_X12_thrown l D ta ad (uW w.2 12 r.2)) cv_LM_129 rfl rfl rfl vi_12_0 ⟨Nat.le_of_ble_eq_true rfl, Nat.le_of_ble_eq_true rfl⟩ ⟨by show cells + 1 ≤ 601024; omega, by show slots + 6 * 1 ≤ 7293034; omega⟩ (by simp) rfl rfl rfl dL_law_730 rfl ?_
  refine mw_iload cx (q := 735) 1 rfl dL_law_733 rfl ?_
  refine mw_icmp_eq_k cx (tgt := 740) (q := 738) dL_law_735 (by decide) rfl (fun _ => ?_) (fun h => absurd o1 h)
  refine mw_iload cx (q := 742) 1 rfl dL_law_740 rfl ?_
  refine mw_if_ne_k cx (tgt := 757) (q := 745) dL_law_742 (by decide) rfl (fun _ => ?_) (fun h => ?_)
  · refine mw_goto cx (tgt := 2334) dL_law_757 (by decide) ?_
    exact mw_sub [2, 3, 4, 5, 6] rfl (K _ _ _ o3 (by omega) (by omega))
  · refine mw_aload_n cx (q := 746) 5 rfl rfl dL_law_745 rfl ?_
    refine mw_iconst cx (q := 747) (v := 0) dL_law_746 rfl rfl ?_
    refine mw_lald cx (q := 748) dL_law_747 rfl ?_
    refine mw_iload cx (q := 750) 0 rfl dL_law_748 rfl ?_
    refine mw_i2l cx (q := 751) dL_law_750 rfl ?_
    refine mw_lcmp0 cx (q := 752) (by rw [uW_ne _ _ (by decide), o2 h]) dL_law_751 rfl ?_
    refine mw_if_eq_k cx (tgt := 757) (q := 755) dL_law_752 (by decide) rfl (fun _ => ?_) (fun h => absurd rfl h)
    refine mw_goto cx (tgt := 2334) dL_law_757 (by decide) ?_
    exact mw_sub [2, 3, 4, 5, 6] rfl (K _ _ _ o3 (by omega) (by omega))
theorem cs_L_158 : CSh RL 158 yL_buy cL_buy 5 (some .int) [(0, 10, 13, 13), (0, 10, 17, 15)] 4 := ⟨⟨BG_at 727 (by decide +kernel) (by decide +kernel), BG_at 728 (by decide +kernel) (by decide +kernel), BG_at 79 (by decide +kernel) (by decide +kernel), BG_at 729 (by decide +kernel) (by decide +kernel)⟩, by decide, by decide, by decide +kernel⟩
theorem cv_LM_160 : CV RL 160 yX12_buy RX12 cX12_buy 4 (some .int) 2 := ⟨⟨BG_at 1713 (by decide +kernel) (by decide +kernel), BG_at 1714 (by decide +kernel) (by decide +kernel), BG_at 1715 (by decide +kernel) (by decide +kernel), BG_at 90 (by decide +kernel) (by decide +kernel), BG_at 1716 (by decide +kernel) (by decide +kernel)⟩, rfl, by decide, by decide, by decide +kernel⟩
set_option maxHeartbeats 1000000 in
theorem law_c9 (X : LwC p l s m meth c D ta ad b Ln xs) (hR : RW Lb M) (hLb : Lb ≤ 1000000) (hi : LwI Ln i) (hc : cells + 4 ≤ 601024 ∧ slots + 24 ≤ 7293034) (K : ∀ (M2 : Wm) (c2 s2 : Nat), RW (Lb + 1000) M2 → c2 ≤ cells + 4 → s2 ≤ slots + 24 → mw p l e room_1 s m #[Value.ref b] below meth c c2 s2 Q D ta ad 7 M2 2334 (lv0 ad b i) [] ()) : mw p l e room_1 s m #[Value.ref b] below meth c cells slots Q D ta ad 7 M 760 (lv0 ad b i) [] () := by
  obtain ⟨cx, hzx, hcx, hX, hl⟩ := X
  unfold lv0 at K ⊢
  obtain ⟨a1, ea1⟩ : ∃ y : Int32, y = xs (i + 1).toNatClampNeg := ⟨_, rfl⟩
  have v1 : vp_in (i + 1) Ln := hi.ix (k := 1) (by decide) (by decide)
  obtain ⟨a2, ea2⟩ : ∃ y : Int32, y = xs (i + 2).toNatClampNeg := ⟨_, rfl⟩
  have v2 : vp_in (i + 2) Ln := hi.ix (k := 2) (by decide) (by decide)
  refine mw_aload_n cx (q := 761) 1 rfl rfl dL_law_760 rfl ?_
  refine mw_aload_n cx (q := 762) 0 rfl rfl dL_law_761 rfl ?_
  refine mw_iload cx (q := 764) 4 rfl dL_law_762 rfl ?_
  refine mw_iconst cx (q := 765) (v := 1) dL_law_764 rfl rfl ?_
  refine mw_iadd cx (q := 766) dL_law_765 rfl ?_
  refine mw_sldw cx hX (w := a1) (q := 767) ea1 v1 dL_law_766 rfl ?_
  refine mw_aload_n cx (q := 768) 0 rfl rfl dL_law_767 rfl ?_
  refine mw_iload cx (q := 770) 4 rfl dL_law_768 rfl ?_
  refine mw_iconst cx (q := 771) (v := 2) dL_law_770 rfl rfl ?_
  refine mw_iadd cx (q := 772) dL_law_771 rfl ?_
  refine mw_sldw cx hX (w := a2) (q := 773) ea2 v2 dL_law_772 rfl ?_
  refine mw_aload_n cx (q := 774) 3 rfl rfl dL_law_773 rfl ?_
  have hO := R_buy (p1 := a1) (p2 := a2) hR
  have hM := mc_L_buy l hl D ta ad M a1 a2 k_buy
  have h0 := fw13_n (kfI 1 2) (f11_buy M a1 a2)
  unfold OpR at hO
  generalize hw : fw13 (kfI 1 2) (f11_buy M a1 a2) = w at hO hM h0
  obtain ⟨e12, o1, o2, o3⟩ := hO
  have hMC := mc_X12_buy l D ta ad w.2 a1 a2 (by rw [e12]; exact hR.k)
  dsimp only at o1 o2 o3
  generalize hr : f12_buy (w.2 12) a1 a2 = r at o1 o2 o3 hMC
  refine mh_callS cx hzx hcx (q := 777) (d := 9) (u0 := 3) (As := [.ref (ad 11 0 0), .int a1, .int a2, .ref (ad 13 0 0)]) (z := fxi w) (st := []) (st1 := [.int w.1.2]) (M' := w.2) hM cs_L_158 ⟨Nat.le_of_ble_eq_true rfl, Nat.le_of_ble_eq_true rfl⟩ ⟨by show cells + 3 ≤ 601024; omega, by show slots + 6 * 3 ≤ 7293034; omega⟩ (by simp) rfl h0 rfl rfl dL_law_774 rfl ?_
  refine mw_istore cx (q := 779) (lv' := [(5, .int w.1.2), (0, .ref b), (1, .ref (ad 11 0 0)), (2, .ref (ad 12 0 0)), (3, .ref (ad 13 0 0)), (4, .int i)]) rfl (by decide) dL_law_777 rfl ?_
  refine mw_aload_n cx (q := 780) 3 rfl rfl dL_law_779 rfl ?_
  refine mw_aload_n cx (q := 781) 1 rfl rfl dL_law_780 rfl ?_
  refine mw_iload cx (q := 783) 5 rfl dL_law_781 rfl ?_
  refine mw_iconst cx (q := 784) (v := 1) dL_law_783 rfl rfl ?_
  refine mw_iadd cx (q := 785) dL_law_784 rfl ?_
  refine mw_sldw cx hX (w := a1) (q := 786) ea1 v1 dL_law_785 rfl ?_
  refine mw_aload_n cx (q := 787) 1 rfl rfl dL_law_786 rfl ?_
  refine mw_iload cx (q := 789) 5 rfl dL_law_787 rfl ?_
  refine mw_iconst cx (q := 790) (v := 2) dL_law_789 rfl rfl ?_
  refine mw_iadd cx (q := 791) dL_law_790 rfl ?_
  refine mw_sldw cx hX (w := a2) (q := 792) ea2 v2 dL_law_791 rfl ?_
  refine mw_callV cx (q := 795) (d := 2) (As := [.int a1, .int a2]) (z := fic w.2 12 r) (st := []) (st1 := [.int r.1]) (M' := uW w.2 12 r.2) hMC cv_LM_160 rfl rfl rfl vi_12_0 ⟨Nat.le_of_ble_eq_true rfl, Nat.le_of_ble_eq_true rfl⟩ ⟨by show cells + 3 ≤ 601024; omega, by show slots + 6 * 3 ≤ 7293034; omega⟩ (by simp) rfl rfl rfl dL_law_792 rfl ?_
  refine mw_istore cx (q := 797) (lv' := [(6, .int r.1), (5, .int w.1.2), (0, .ref b), (1, .ref (ad 11 0 0)), (2, .ref (ad 12 0 0)), (3, .ref (ad 13 0 0)), (4, .int i)]) rfl (by decide) dL_law_795 rfl ?_
  refine mw_aload_n cx (q := 798) 4 rfl rfl dL_law_797 rfl ?_
  refine mw_callV cx (q := 801) (d := 0) (As := []) (z := fip (uW w.2 12 r.2) (r.2 0 0 0)) (st := []) (st1 := [.int (r.2 0 0 0)]) (M' := uW w.2 12 r.2) (mc_X12_thrown l D ta ad (uW w.2 12 r.2)) cv_LM_129 rfl rfl rfl vi_12_0 ⟨Nat.le_of_ble_eq_true rfl, Nat.le_of_ble_eq_true rfl⟩ ⟨by show cells + 3 ≤ 601024; omega, by show slots + 6 * 3 ≤ 7293034; omega⟩ (by simp) rfl rfl rfl dL_law_798 rfl ?_
  refine mw_iload cx (q := 803) 1 rfl dL_law_801 rfl ?_
  refine mw_icmp_eq_k cx (tgt := 808) (q := 806) dL_law_803 (by decide) rfl (fun _ => ?_) (fun h => absurd o1 h)
  refine mw_iload cx (q := 810) 1 rfl dL_law_808 rfl ?_
  refine mw_if_ne_k cx (tgt := 825) (q := 813) dL_law_810 (by decide) rfl (fun _ => ?_) (fun h => ?_)
  · refine mw_goto cx (tgt := 2334) dL_law_825 (by decide) ?_
    exact mw_sub [2, 3, 4, 5, 6] rfl (K _ _ _ o3 (by omega) (by omega))
  · refine mw_aload_n cx (q := 814) 5 rfl rfl dL_law_813 rfl ?_
    refine mw_iconst cx (q := 815) (v := 0) dL_law_814 rfl rfl ?_
    refine mw_lald cx (q := 816) dL_law_815 rfl ?_
    refine mw_iload cx (q := 818) 0 rfl dL_law_816 rfl ?_
    refine mw_i2l cx (q := 819) dL_law_818 rfl ?_
    refine mw_lcmp0 cx (q := 820) (by rw [uW_ne _ _ (by decide), o2 h]) dL_law_819 rfl ?_
    refine mw_if_eq_k cx (tgt := 825) (q := 823) dL_law_820 (by decide) rfl (fun _ => ?_) (fun h => absurd rfl h)
    refine mw_goto cx (tgt := 2334) dL_law_825 (by decide) ?_
    exact mw_sub [2, 3, 4, 5, 6] rfl (K _ _ _ o3 (by omega) (by omega))
theorem cs_L_161 : CSh RL 161 yL_setBuying cL_setBuying 5 (some .int) [(0, 17, 20, 13)] 4 := ⟨⟨BG_at 751 (by decide +kernel) (by decide +kernel), BG_at 752 (by decide +kernel) (by decide +kernel), BG_at 79 (by decide +kernel) (by decide +kernel), BG_at 753 (by decide +kernel) (by decide +kernel)⟩, by decide, by decide, by decide +kernel⟩
theorem cv_LM_164 : CV RL 164 yX12_setBuying RX12 cX12_setBuying 4 (some .boolean) 2 := ⟨⟨BG_at 1717 (by decide +kernel) (by decide +kernel), BG_at 1718 (by decide +kernel) (by decide +kernel), BG_at 1719 (by decide +kernel) (by decide +kernel), BG_at 90 (by decide +kernel) (by decide +kernel), BG_at 1720 (by decide +kernel) (by decide +kernel)⟩, rfl, by decide, by decide, by decide +kernel⟩
set_option maxHeartbeats 1000000 in
theorem law_c10 (X : LwC p l s m meth c D ta ad b Ln xs) (hR : RW Lb M) (hLb : Lb ≤ 1000000) (hi : LwI Ln i) (hc : cells + 4 ≤ 601024 ∧ slots + 24 ≤ 7293034) (K : ∀ (M2 : Wm) (c2 s2 : Nat), RW (Lb + 1000) M2 → c2 ≤ cells + 4 → s2 ≤ slots + 24 → mw p l e room_1 s m #[Value.ref b] below meth c c2 s2 Q D ta ad 7 M2 2334 (lv0 ad b i) [] ()) : mw p l e room_1 s m #[Value.ref b] below meth c cells slots Q D ta ad 7 M 828 (lv0 ad b i) [] () := by
  obtain ⟨cx, hzx, hcx, hX, hl⟩ := X
  unfold lv0 at K ⊢
  obtain ⟨a1, ea1⟩ : ∃ y : Int32, y = xs (i + 1).toNatClampNeg := ⟨_, rfl⟩
  have v1 : vp_in (i + 1) Ln := hi.ix (k := 1) (by decide) (by decide)
  obtain ⟨a2, ea2⟩ : ∃ y : Int32, y = xs (i + 2).toNatClampNeg := ⟨_, rfl⟩
  have v2 : vp_in (i + 2) Ln := hi.ix (k := 2) (by decide) (by decide)
  refine mw_aload_n cx (q := 829) 1 rfl rfl dL_law_828 rfl ?_
  refine mw_aload_n cx (q := 830) 0 rfl rfl dL_law_829 rfl ?_
  refine mw_iload cx (q := 832) 4 rfl dL_law_830 rfl ?_
  refine mw_iconst cx (q := 833) (v := 1) dL_law_832 rfl rfl ?_
  refine mw_iadd cx (q := 834) dL_law_833 rfl ?_
  refine mw_sldw cx hX (w := a1) (q := 835) ea1 v1 dL_law_834 rfl ?_
  refine mw_aload_n cx (q := 836) 0 rfl rfl dL_law_835 rfl ?_
  refine mw_iload cx (q := 838) 4 rfl dL_law_836 rfl ?_
  refine mw_iconst cx (q := 839) (v := 2) dL_law_838 rfl rfl ?_
  refine mw_iadd cx (q := 840) dL_law_839 rfl ?_
  refine mw_sldw cx hX (w := a2) (q := 841) ea2 v2 dL_law_840 rfl ?_
  refine mw_if_eq_k cx (tgt := 848) (q := 844) dL_law_841 (by decide) rfl (fun hne => ?_) (fun hne => ?_)
  · refine mw_iconst cx (q := 849) (v := 0) dL_law_848 rfl rfl ?_
    refine mw_aload_n cx (q := 850) 3 rfl rfl dL_law_849 rfl ?_
    have hO := R_setBuying (p1 := a1) (b := false) hR
    have hM := mc_L_setBuying l hl D ta ad M a1 false hR.hb k_setBuying (z1_setBuying hR.hb)
    have h0 := fw13_n (kfI 1 1) (f11_setBuying M a1 false)
    unfold OpR at hO
    generalize hw : fw13 (kfI 1 1) (f11_setBuying M a1 false) = w at hO hM h0
    obtain ⟨e12, o1, o2, o3⟩ := hO
    have hMC := mc_X12_setBuying l D ta ad w.2 a1 false (by rw [e12]; exact hR.k) (fun q => by rw [e12]; exact hR.q.2.2.2 a1 q)
    dsimp only at o1 o2 o3
    generalize hr : f12_setBuying (w.2 12) a1 false = r at o1 o2 o3 hMC
    refine mh_callS cx hzx hcx (q := 853) (d := 9) (u0 := 1) (As := [.ref (ad 11 0 0), .int a1, .int (b2i false), .ref (ad 13 0 0)]) (z := fxi w) (st := []) (st1 := [.int w.1.2]) (M' := w.2) hM cs_L_161 ⟨Nat.le_of_ble_eq_true rfl, Nat.le_of_ble_eq_true rfl⟩ ⟨by show cells + 1 ≤ 601024; omega, by show slots + 6 * 1 ≤ 7293034; omega⟩ (by simp) rfl h0 rfl rfl dL_law_850 rfl ?_
    refine mw_istore cx (q := 855) (lv' := [(5, .int w.1.2), (0, .ref b), (1, .ref (ad 11 0 0)), (2, .ref (ad 12 0 0)), (3, .ref (ad 13 0 0)), (4, .int i)]) rfl (by decide) dL_law_853 rfl ?_
    refine mw_aload_n cx (q := 856) 3 rfl rfl dL_law_855 rfl ?_
    refine mw_aload_n cx (q := 857) 1 rfl rfl dL_law_856 rfl ?_
    refine mw_iload cx (q := 859) 5 rfl dL_law_857 rfl ?_
    refine mw_iconst cx (q := 860) (v := 1) dL_law_859 rfl rfl ?_
    refine mw_iadd cx (q := 861) dL_law_860 rfl ?_
    refine mw_sldw cx hX (w := a1) (q := 862) ea1 v1 dL_law_861 rfl ?_
    refine mw_aload_n cx (q := 863) 1 rfl rfl dL_law_862 rfl ?_
    refine mw_iload cx (q := 865) 5 rfl dL_law_863 rfl ?_
    refine mw_iconst cx (q := 866) (v := 2) dL_law_865 rfl rfl ?_
    refine mw_iadd cx (q := 867) dL_law_866 rfl ?_
    refine mw_sldw cx hX (w := a2) (q := 868) ea2 v2 dL_law_867 rfl ?_
    refine mw_if_eq_k cx (tgt := 875) (q := 871) dL_law_868 (by decide) rfl (fun _ => ?_) (fun h => absurd hne h)
    refine mw_iconst cx (q := 876) (v := 0) dL_law_875 rfl rfl ?_
    refine mw_callV cx (q := 879) (d := 2) (As := [.int a1, .int (b2i false)]) (z := fzc w.2 12 r) (st := []) (st1 := [.int (b2i r.1)]) (M' := uW w.2 12 r.2) hMC cv_LM_164 rfl rfl rfl vi_12_0 ⟨Nat.le_of_ble_eq_true rfl, Nat.le_of_ble_eq_true rfl⟩ ⟨by show cells + 1 ≤ 601024; omega, by show slots + 6 * 1 ≤ 7293034; omega⟩ (by simp) rfl rfl rfl dL_law_876 rfl ?_
    refine mw_istore cx (q := 881) (lv' := [(6, .int (b2i r.1)), (5, .int w.1.2), (0, .ref b), (1, .ref (ad 11 0 0)), (2, .ref (ad 12 0 0)), (3, .ref (ad 13 0 0)), (4, .int i)]) rfl (by decide) dL_law_879 rfl ?_
    refine mw_aload_n cx (q := 882) 4 rfl rfl dL_law_881 rfl ?_
    refine mw_callV cx (q := 885) (d := 0) (As := []) (z := fip (uW w.2 12 r.2) (r.2 0 0 0)) (st := []) (st1 := [.int (r.2 0 0 0)]) (M' := uW w.2 12 r.2) (mc_X12_thrown l D ta ad (uW w.2 12 r.2)) cv_LM_129 rfl rfl rfl vi_12_0 ⟨Nat.le_of_ble_eq_true rfl, Nat.le_of_ble_eq_true rfl⟩ ⟨by show cells + 1 ≤ 601024; omega, by show slots + 6 * 1 ≤ 7293034; omega⟩ (by simp) rfl rfl rfl dL_law_882 rfl ?_
    refine mw_iload cx (q := 887) 1 rfl dL_law_885 rfl ?_
    refine mw_icmp_eq_k cx (tgt := 892) (q := 890) dL_law_887 (by decide) rfl (fun _ => ?_) (fun h => absurd o1 h)
    refine mw_iload cx (q := 894) 1 rfl dL_law_892 rfl ?_
    refine mw_if_ne_k cx (tgt := 916) (q := 897) dL_law_894 (by decide) rfl (fun _ => ?_) (fun h => ?_)
    · refine mw_goto cx (tgt := 2334) dL_law_916 (by decide) ?_
      exact mw_sub [2, 3, 4, 5, 6] rfl (K _ _ _ o3 (by omega) (by omega))
    · refine mw_aload_n cx (q := 898) 5 rfl rfl dL_law_897 rfl ?_
      refine mw_iconst cx (q := 899) (v := 0) dL_law_898 rfl rfl ?_
      refine mw_lald cx (q := 900) dL_law_899 rfl ?_
      refine mw_iload cx (q := 902) 0 rfl dL_law_900 rfl ?_
      have o2h : w.2 13 0 0 0 = b2i r.1 := o2 h
      refine mw_if_eq_k cx (tgt := 909) (q := 905) dL_law_902 (by decide) rfl (fun hb => ?_) (fun hb => ?_)
      · refine mw_lconst cx (q := 910) (v := 0) dL_law_909 rfl rfl ?_
        refine mw_lcmp0 cx (q := 911) (by rw [uW_ne _ _ (by decide), o2h, hb]; rfl) dL_law_910 rfl ?_
        refine mw_if_eq_k cx (tgt := 916) (q := 914) dL_law_911 (by decide) rfl (fun _ => ?_) (fun h => absurd rfl h)
        refine mw_goto cx (tgt := 2334) dL_law_916 (by decide) ?_
        exact mw_sub [2, 3, 4, 5, 6] rfl (K _ _ _ o3 (by omega) (by omega))
      · have hb1 : b2i r.1 = 1 := by cases hq : r.1 <;> first | rfl | (rw [hq] at hb; exact absurd rfl hb)
        refine mw_lconst cx (q := 906) (v := 1) dL_law_905 rfl rfl ?_
        refine mw_goto cx (tgt := 910) dL_law_906 (by decide) ?_
        refine mw_lcmp0 cx (q := 911) (by rw [uW_ne _ _ (by decide), o2h, hb1]; rfl) dL_law_910 rfl ?_
        refine mw_if_eq_k cx (tgt := 916) (q := 914) dL_law_911 (by decide) rfl (fun _ => ?_) (fun h => absurd rfl h)
        refine mw_goto cx (tgt := 2334) dL_law_916 (by decide) ?_
        exact mw_sub [2, 3, 4, 5, 6] rfl (K _ _ _ o3 (by omega) (by omega))
  · refine mw_iconst cx (q := 845) (v := 1) dL_law_844 rfl rfl ?_
    refine mw_goto cx (tgt := 849) dL_law_845 (by decide) ?_
    refine mw_aload_n cx (q := 850) 3 rfl rfl dL_law_849 rfl ?_
    have hO := R_setBuying (p1 := a1) (b := true) hR
    have hM := mc_L_setBuying l hl D ta ad M a1 true hR.hb k_setBuying (z1_setBuying hR.hb)
    have h0 := fw13_n (kfI 1 1) (f11_setBuying M a1 true)
    unfold OpR at hO
    generalize hw : fw13 (kfI 1 1) (f11_setBuying M a1 true) = w at hO hM h0
    obtain ⟨e12, o1, o2, o3⟩ := hO
    have hMC := mc_X12_setBuying l D ta ad w.2 a1 true (by rw [e12]; exact hR.k) (fun q => by rw [e12]; exact hR.q.2.2.2 a1 q)
    dsimp only at o1 o2 o3
    generalize hr : f12_setBuying (w.2 12) a1 true = r at o1 o2 o3 hMC
    refine mh_callS cx hzx hcx (q := 853) (d := 9) (u0 := 1) (As := [.ref (ad 11 0 0), .int a1, .int (b2i true), .ref (ad 13 0 0)]) (z := fxi w) (st := []) (st1 := [.int w.1.2]) (M' := w.2) hM cs_L_161 ⟨Nat.le_of_ble_eq_true rfl, Nat.le_of_ble_eq_true rfl⟩ ⟨by show cells + 1 ≤ 601024; omega, by show slots + 6 * 1 ≤ 7293034; omega⟩ (by simp) rfl h0 rfl rfl dL_law_850 rfl ?_
    refine mw_istore cx (q := 855) (lv' := [(5, .int w.1.2), (0, .ref b), (1, .ref (ad 11 0 0)), (2, .ref (ad 12 0 0)), (3, .ref (ad 13 0 0)), (4, .int i)]) rfl (by decide) dL_law_853 rfl ?_
    refine mw_aload_n cx (q := 856) 3 rfl rfl dL_law_855 rfl ?_
    refine mw_aload_n cx (q := 857) 1 rfl rfl dL_law_856 rfl ?_
    refine mw_iload cx (q := 859) 5 rfl dL_law_857 rfl ?_
    refine mw_iconst cx (q := 860) (v := 1) dL_law_859 rfl rfl ?_
    refine mw_iadd cx (q := 861) dL_law_860 rfl ?_
    refine mw_sldw cx hX (w := a1) (q := 862) ea1 v1 dL_law_861 rfl ?_
    refine mw_aload_n cx (q := 863) 1 rfl rfl dL_law_862 rfl ?_
    refine mw_iload cx (q := 865) 5 rfl dL_law_863 rfl ?_
    refine mw_iconst cx (q := 866) (v := 2) dL_law_865 rfl rfl ?_
    refine mw_iadd cx (q := 867) dL_law_866 rfl ?_
    refine mw_sldw cx hX (w := a2) (q := 868) ea2 v2 dL_law_867 rfl ?_
    refine mw_if_eq_k cx (tgt := 875) (q := 871) dL_law_868 (by decide) rfl (fun h => absurd h hne) (fun _ => ?_)
    refine mw_iconst cx (q := 872) (v := 1) dL_law_871 rfl rfl ?_
    refine mw_goto cx (tgt := 876) dL_law_872 (by decide) ?_
    refine mw_callV cx (q := 879) (d := 2) (As := [.int a1, .int (b2i true)]) (z := fzc w.2 12 r) (st := []) (st1 := [.int (b2i r.1)]) (M' := uW w.2 12 r.2) hMC cv_LM_164 rfl rfl rfl vi_12_0 ⟨Nat.le_of_ble_eq_true rfl, Nat.le_of_ble_eq_true rfl⟩ ⟨by show cells + 1 ≤ 601024; omega, by show slots + 6 * 1 ≤ 7293034; omega⟩ (by simp) rfl rfl rfl dL_law_876 rfl ?_
    refine mw_istore cx (q := 881) (lv' := [(6, .int (b2i r.1)), (5, .int w.1.2), (0, .ref b), (1, .ref (ad 11 0 0)), (2, .ref (ad 12 0 0)), (3, .ref (ad 13 0 0)), (4, .int i)]) rfl (by decide) dL_law_879 rfl ?_
    refine mw_aload_n cx (q := 882) 4 rfl rfl dL_law_881 rfl ?_
    refine mw_callV cx (q := 885) (d := 0) (As := []) (z := fip (uW w.2 12 r.2) (r.2 0 0 0)) (st := []) (st1 := [.int (r.2 0 0 0)]) (M' := uW w.2 12 r.2) (mc_X12_thrown l D ta ad (uW w.2 12 r.2)) cv_LM_129 rfl rfl rfl vi_12_0 ⟨Nat.le_of_ble_eq_true rfl, Nat.le_of_ble_eq_true rfl⟩ ⟨by show cells + 1 ≤ 601024; omega, by show slots + 6 * 1 ≤ 7293034; omega⟩ (by simp) rfl rfl rfl dL_law_882 rfl ?_
    refine mw_iload cx (q := 887) 1 rfl dL_law_885 rfl ?_
    refine mw_icmp_eq_k cx (tgt := 892) (q := 890) dL_law_887 (by decide) rfl (fun _ => ?_) (fun h => absurd o1 h)
    refine mw_iload cx (q := 894) 1 rfl dL_law_892 rfl ?_
    refine mw_if_ne_k cx (tgt := 916) (q := 897) dL_law_894 (by decide) rfl (fun _ => ?_) (fun h => ?_)
    · refine mw_goto cx (tgt := 2334) dL_law_916 (by decide) ?_
      exact mw_sub [2, 3, 4, 5, 6] rfl (K _ _ _ o3 (by omega) (by omega))
    · refine mw_aload_n cx (q := 898) 5 rfl rfl dL_law_897 rfl ?_
      refine mw_iconst cx (q := 899) (v := 0) dL_law_898 rfl rfl ?_
      refine mw_lald cx (q := 900) dL_law_899 rfl ?_
      refine mw_iload cx (q := 902) 0 rfl dL_law_900 rfl ?_
      have o2h : w.2 13 0 0 0 = b2i r.1 := o2 h
      refine mw_if_eq_k cx (tgt := 909) (q := 905) dL_law_902 (by decide) rfl (fun hb => ?_) (fun hb => ?_)
      · refine mw_lconst cx (q := 910) (v := 0) dL_law_909 rfl rfl ?_
        refine mw_lcmp0 cx (q := 911) (by rw [uW_ne _ _ (by decide), o2h, hb]; rfl) dL_law_910 rfl ?_
        refine mw_if_eq_k cx (tgt := 916) (q := 914) dL_law_911 (by decide) rfl (fun _ => ?_) (fun h => absurd rfl h)
        refine mw_goto cx (tgt := 2334) dL_law_916 (by decide) ?_
        exact mw_sub [2, 3, 4, 5, 6] rfl (K _ _ _ o3 (by omega) (by omega))
      · have hb1 : b2i r.1 = 1 := by cases hq : r.1 <;> first | rfl | (rw [hq] at hb; exact absurd rfl hb)
        refine mw_lconst cx (q := 906) (v := 1) dL_law_905 rfl rfl ?_
        refine mw_goto cx (tgt := 910) dL_law_906 (by decide) ?_
        refine mw_lcmp0 cx (q := 911) (by rw [uW_ne _ _ (by decide), o2h, hb1]; rfl) dL_law_910 rfl ?_
        refine mw_if_eq_k cx (tgt := 916) (q := 914) dL_law_911 (by decide) rfl (fun _ => ?_) (fun h => absurd rfl h)
        refine mw_goto cx (tgt := 2334) dL_law_916 (by decide) ?_
        exact mw_sub [2, 3, 4, 5, 6] rfl (K _ _ _ o3 (by omega) (by omega))
theorem cs_L_165 : CSh RL 165 yL_setCredit cL_setCredit 6 (some .int) [(0, 12, 15, 13)] 5 := ⟨⟨BG_at 762 (by decide +kernel) (by decide +kernel), BG_at 763 (by decide +kernel) (by decide +kernel), BG_at 79 (by decide +kernel) (by decide +kernel), BG_at 764 (by decide +kernel) (by decide +kernel)⟩, by decide, by decide, by decide +kernel⟩
theorem cv_LM_168 : CV RL 168 yX12_setCredit RX12 cX12_setCredit 6 (some .int) 3 := ⟨⟨BG_at 1721 (by decide +kernel) (by decide +kernel), BG_at 1722 (by decide +kernel) (by decide +kernel), BG_at 1723 (by decide +kernel) (by decide +kernel), BG_at 90 (by decide +kernel) (by decide +kernel), BG_at 1724 (by decide +kernel) (by decide +kernel)⟩, rfl, by decide, by decide, by decide +kernel⟩
set_option maxHeartbeats 1000000 in
theorem law_c11 (X : LwC p l s m meth c D ta ad b Ln xs) (hR : RW Lb M) (hLb : Lb ≤ 1000000) (hi : LwI Ln i) (hc : cells + 4 ≤ 601024 ∧ slots + 24 ≤ 7293034) (K : ∀ (M2 : Wm) (c2 s2 : Nat), RW (Lb + 1000) M2 → c2 ≤ cells + 4 → s2 ≤ slots + 24 → mw p l e room_1 s m #[Value.ref b] below meth c c2 s2 Q D ta ad 7 M2 2334 (lv0 ad b i) [] ()) : mw p l e room_1 s m #[Value.ref b] below meth c cells slots Q D ta ad 7 M 919 (lv0 ad b i) [] () := by
  obtain ⟨cx, hzx, hcx, hX, hl⟩ := X
  unfold lv0 at K ⊢
  obtain ⟨a1, ea1⟩ : ∃ y : Int32, y = xs (i + 1).toNatClampNeg := ⟨_, rfl⟩
  have v1 : vp_in (i + 1) Ln := hi.ix (k := 1) (by decide) (by decide)
  obtain ⟨a2, ea2⟩ : ∃ y : Int32, y = xs (i + 2).toNatClampNeg := ⟨_, rfl⟩
  have v2 : vp_in (i + 2) Ln := hi.ix (k := 2) (by decide) (by decide)
  obtain ⟨a3, ea3⟩ : ∃ y : Int32, y = xs (i + 3).toNatClampNeg := ⟨_, rfl⟩
  have v3 : vp_in (i + 3) Ln := hi.ix (k := 3) (by decide) (by decide)
  refine mw_aload_n cx (q := 920) 1 rfl rfl dL_law_919 rfl ?_
  refine mw_aload_n cx (q := 921) 0 rfl rfl dL_law_920 rfl ?_
  refine mw_iload cx (q := 923) 4 rfl dL_law_921 rfl ?_
  refine mw_iconst cx (q := 924) (v := 1) dL_law_923 rfl rfl ?_
  refine mw_iadd cx (q := 925) dL_law_924 rfl ?_
  refine mw_sldw cx hX (w := a1) (q := 926) ea1 v1 dL_law_925 rfl ?_
  refine mw_aload_n cx (q := 927) 0 rfl rfl dL_law_926 rfl ?_
  refine mw_iload cx (q := 929) 4 rfl dL_law_927 rfl ?_
  refine mw_iconst cx (q := 930) (v := 2) dL_law_929 rfl rfl ?_
  refine mw_iadd cx (q := 931) dL_law_930 rfl ?_
  refine mw_sldw cx hX (w := a2) (q := 932) ea2 v2 dL_law_931 rfl ?_
  refine mw_aload_n cx (q := 933) 0 rfl rfl dL_law_932 rfl ?_
  refine mw_iload cx (q := 935) 4 rfl dL_law_933 rfl ?_
  refine mw_iconst cx (q := 936) (v := 3) dL_law_935 rfl rfl ?_
  refine mw_iadd cx (q := 937) dL_law_936 rfl ?_
  refine mw_sldw cx hX (w := a3) (q := 938) ea3 v3 dL_law_937 rfl ?_
  refine mw_aload_n cx (q := 939) 3 rfl rfl dL_law_938 rfl ?_
  have hO := R_setCredit (p1 := a1) (p2 := a2) (p3 := a3) hR
  have hM := mc_L_setCredit l hl D ta ad M a1 a2 a3 k_setCredit
  have h0 := fw13_n (kfI 1 1) (f11_setCredit M a1 a2 a3)
  unfold OpR at hO
  generalize hw : fw13 (kfI 1 1) (f11_setCredit M a1 a2 a3) = w at hO hM h0
  obtain ⟨e12, o1, o2, o3⟩ := hO
  have hMC := mc_X12_setCredit l D ta ad w.2 a1 a2 a3 (by rw [e12]; exact hR.k)
  dsimp only at o1 o2 o3
  generalize hr : f12_setCredit (w.2 12) a1 a2 a3 = r at o1 o2 o3 hMC
  refine mh_callS cx hzx hcx (q := 942) (d := 9) (u0 := 3) (As := [.ref (ad 11 0 0), .int a1, .int a2, .int a3, .ref (ad 13 0 0)]) (z := fxi w) (st := []) (st1 := [.int w.1.2]) (M' := w.2) hM cs_L_165 ⟨Nat.le_of_ble_eq_true rfl, Nat.le_of_ble_eq_true rfl⟩ ⟨by show cells + 3 ≤ 601024; omega, by show slots + 6 * 3 ≤ 7293034; omega⟩ (by simp) rfl h0 rfl rfl dL_law_939 rfl ?_
  refine mw_istore cx (q := 944) (lv' := [(5, .int w.1.2), (0, .ref b), (1, .ref (ad 11 0 0)), (2, .ref (ad 12 0 0)), (3, .ref (ad 13 0 0)), (4, .int i)]) rfl (by decide) dL_law_942 rfl ?_
  refine mw_aload_n cx (q := 945) 3 rfl rfl dL_law_944 rfl ?_
  refine mw_aload_n cx (q := 946) 1 rfl rfl dL_law_945 rfl ?_
  refine mw_iload cx (q := 948) 5 rfl dL_law_946 rfl ?_
  refine mw_iconst cx (q := 949) (v := 1) dL_law_948 rfl rfl ?_
  refine mw_iadd cx (q := 950) dL_law_949 rfl ?_
  refine mw_sldw cx hX (w := a1) (q := 951) ea1 v1 dL_law_950 rfl ?_
  refine mw_aload_n cx (q := 952) 1 rfl rfl dL_law_951 rfl ?_
  refine mw_iload cx (q := 954) 5 rfl dL_law_952 rfl ?_
  refine mw_iconst cx (q := 955) (v := 2) dL_law_954 rfl rfl ?_
  refine mw_iadd cx (q := 956) dL_law_955 rfl ?_
  refine mw_sldw cx hX (w := a2) (q := 957) ea2 v2 dL_law_956 rfl ?_
  refine mw_aload_n cx (q := 958) 1 rfl rfl dL_law_957 rfl ?_
  refine mw_iload cx (q := 960) 5 rfl dL_law_958 rfl ?_
  refine mw_iconst cx (q := 961) (v := 3) dL_law_960 rfl rfl ?_
  refine mw_iadd cx (q := 962) dL_law_961 rfl ?_
  refine mw_sldw cx hX (w := a3) (q := 963) ea3 v3 dL_law_962 rfl ?_
  refine mw_callV cx (q := 966) (d := 2) (As := [.int a1, .int a2, .int a3]) (z := fic w.2 12 r) (st := []) (st1 := [.int r.1]) (M' := uW w.2 12 r.2) hMC cv_LM_168 rfl rfl rfl vi_12_0 ⟨Nat.le_of_ble_eq_true rfl, Nat.le_of_ble_eq_true rfl⟩ ⟨by show cells + 3 ≤ 601024; omega, by show slots + 6 * 3 ≤ 7293034; omega⟩ (by simp) rfl rfl rfl dL_law_963 rfl ?_
  refine mw_istore cx (q := 968) (lv' := [(6, .int r.1), (5, .int w.1.2), (0, .ref b), (1, .ref (ad 11 0 0)), (2, .ref (ad 12 0 0)), (3, .ref (ad 13 0 0)), (4, .int i)]) rfl (by decide) dL_law_966 rfl ?_
  refine mw_aload_n cx (q := 969) 4 rfl rfl dL_law_968 rfl ?_
  refine mw_callV cx (q := 972) (d := 0) (As := []) (z := fip (uW w.2 12 r.2) (r.2 0 0 0)) (st := []) (st1 := [.int (r.2 0 0 0)]) (M' := uW w.2 12 r.2) (mc_X12_thrown l D ta ad (uW w.2 12 r.2)) cv_LM_129 rfl rfl rfl vi_12_0 ⟨Nat.le_of_ble_eq_true rfl, Nat.le_of_ble_eq_true rfl⟩ ⟨by show cells + 3 ≤ 601024; omega, by show slots + 6 * 3 ≤ 7293034; omega⟩ (by simp) rfl rfl rfl dL_law_969 rfl ?_
  refine mw_iload cx (q := 974) 1 rfl dL_law_972 rfl ?_
  refine mw_icmp_eq_k cx (tgt := 979) (q := 977) dL_law_974 (by decide) rfl (fun _ => ?_) (fun h => absurd o1 h)
  refine mw_iload cx (q := 981) 1 rfl dL_law_979 rfl ?_
  refine mw_if_ne_k cx (tgt := 996) (q := 984) dL_law_981 (by decide) rfl (fun _ => ?_) (fun h => ?_)
  · refine mw_goto cx (tgt := 2334) dL_law_996 (by decide) ?_
    exact mw_sub [2, 3, 4, 5, 6] rfl (K _ _ _ o3 (by omega) (by omega))
  · refine mw_aload_n cx (q := 985) 5 rfl rfl dL_law_984 rfl ?_
    refine mw_iconst cx (q := 986) (v := 0) dL_law_985 rfl rfl ?_
    refine mw_lald cx (q := 987) dL_law_986 rfl ?_
    refine mw_iload cx (q := 989) 0 rfl dL_law_987 rfl ?_
    refine mw_i2l cx (q := 990) dL_law_989 rfl ?_
    refine mw_lcmp0 cx (q := 991) (by rw [uW_ne _ _ (by decide), o2 h]) dL_law_990 rfl ?_
    refine mw_if_eq_k cx (tgt := 996) (q := 994) dL_law_991 (by decide) rfl (fun _ => ?_) (fun h => absurd rfl h)
    refine mw_goto cx (tgt := 2334) dL_law_996 (by decide) ?_
    exact mw_sub [2, 3, 4, 5, 6] rfl (K _ _ _ o3 (by omega) (by omega))
theorem cs_L_169 : CSh RL 169 yL_payBack cL_payBack 6 (some .int) [(0, 12, 15, 13), (0, 12, 19, 15)] 5 := ⟨⟨BG_at 773 (by decide +kernel) (by decide +kernel), BG_at 774 (by decide +kernel) (by decide +kernel), BG_at 79 (by decide +kernel) (by decide +kernel), BG_at 775 (by decide +kernel) (by decide +kernel)⟩, by decide, by decide, by decide +kernel⟩
theorem cv_LM_171 : CV RL 171 yX12_payBack RX12 cX12_payBack 6 (some .int) 3 := ⟨⟨BG_at 1725 (by decide +kernel) (by decide +kernel), BG_at 1726 (by decide +kernel) (by decide +kernel), BG_at 1727 (by decide +kernel) (by decide +kernel), BG_at 90 (by decide +kernel) (by decide +kernel), BG_at 1728 (by decide +kernel) (by decide +kernel)⟩, rfl, by decide, by decide, by decide +kernel⟩
set_option maxHeartbeats 1000000 in
theorem law_c12 (X : LwC p l s m meth c D ta ad b Ln xs) (hR : RW Lb M) (hLb : Lb ≤ 1000000) (hi : LwI Ln i) (hc : cells + 4 ≤ 601024 ∧ slots + 24 ≤ 7293034) (K : ∀ (M2 : Wm) (c2 s2 : Nat), RW (Lb + 1000) M2 → c2 ≤ cells + 4 → s2 ≤ slots + 24 → mw p l e room_1 s m #[Value.ref b] below meth c c2 s2 Q D ta ad 7 M2 2334 (lv0 ad b i) [] ()) : mw p l e room_1 s m #[Value.ref b] below meth c cells slots Q D ta ad 7 M 999 (lv0 ad b i) [] () := by
  obtain ⟨cx, hzx, hcx, hX, hl⟩ := X
  unfold lv0 at K ⊢
  obtain ⟨a1, ea1⟩ : ∃ y : Int32, y = xs (i + 1).toNatClampNeg := ⟨_, rfl⟩
  have v1 : vp_in (i + 1) Ln := hi.ix (k := 1) (by decide) (by decide)
  obtain ⟨a2, ea2⟩ : ∃ y : Int32, y = xs (i + 2).toNatClampNeg := ⟨_, rfl⟩
  have v2 : vp_in (i + 2) Ln := hi.ix (k := 2) (by decide) (by decide)
  obtain ⟨a3, ea3⟩ : ∃ y : Int32, y = xs (i + 3).toNatClampNeg := ⟨_, rfl⟩
  have v3 : vp_in (i + 3) Ln := hi.ix (k := 3) (by decide) (by decide)
  refine mw_aload_n cx (q := 1000) 1 rfl rfl dL_law_999 rfl ?_
  refine mw_aload_n cx (q := 1001) 0 rfl rfl dL_law_1000 rfl ?_
  refine mw_iload cx (q := 1003) 4 rfl dL_law_1001 rfl ?_
  refine mw_iconst cx (q := 1004) (v := 1) dL_law_1003 rfl rfl ?_
  refine mw_iadd cx (q := 1005) dL_law_1004 rfl ?_
  refine mw_sldw cx hX (w := a1) (q := 1006) ea1 v1 dL_law_1005 rfl ?_
  refine mw_aload_n cx (q := 1007) 0 rfl rfl dL_law_1006 rfl ?_
  refine mw_iload cx (q := 1009) 4 rfl dL_law_1007 rfl ?_
  refine mw_iconst cx (q := 1010) (v := 2) dL_law_1009 rfl rfl ?_
  refine mw_iadd cx (q := 1011) dL_law_1010 rfl ?_
  refine mw_sldw cx hX (w := a2) (q := 1012) ea2 v2 dL_law_1011 rfl ?_
  refine mw_aload_n cx (q := 1013) 0 rfl rfl dL_law_1012 rfl ?_
  refine mw_iload cx (q := 1015) 4 rfl dL_law_1013 rfl ?_
  refine mw_iconst cx (q := 1016) (v := 3) dL_law_1015 rfl rfl ?_
  refine mw_iadd cx (q := 1017) dL_law_1016 rfl ?_
  refine mw_sldw cx hX (w := a3) (q := 1018) ea3 v3 dL_law_1017 rfl ?_
  refine mw_aload_n cx (q := 1019) 3 rfl rfl dL_law_1018 rfl ?_
  have hO := R_payBack (p1 := a1) (p2 := a2) (p3 := a3) hR
  have hM := mc_L_payBack l hl D ta ad M a1 a2 a3 k_payBack
  have h0 := fw13_n (kfI 1 2) (f11_payBack M a1 a2 a3)
  unfold OpR at hO
  generalize hw : fw13 (kfI 1 2) (f11_payBack M a1 a2 a3) = w at hO hM h0
  obtain ⟨e12, o1, o2, o3⟩ := hO
  have hMC := mc_X12_payBack l D ta ad w.2 a1 a2 a3 (by rw [e12]; exact hR.k)
  dsimp only at o1 o2 o3
  generalize hr : f12_payBack (w.2 12) a1 a2 a3 = r at o1 o2 o3 hMC
  refine mh_callS cx hzx hcx (q := 1022) (d := 9) (u0 := 4) (As := [.ref (ad 11 0 0), .int a1, .int a2, .int a3, .ref (ad 13 0 0)]) (z := fxi w) (st := []) (st1 := [.int w.1.2]) (M' := w.2) hM cs_L_169 ⟨Nat.le_of_ble_eq_true rfl, Nat.le_of_ble_eq_true rfl⟩ ⟨by show cells + 4 ≤ 601024; omega, by show slots + 6 * 4 ≤ 7293034; omega⟩ (by simp) rfl h0 rfl rfl dL_law_1019 rfl ?_
  refine mw_istore cx (q := 1024) (lv' := [(5, .int w.1.2), (0, .ref b), (1, .ref (ad 11 0 0)), (2, .ref (ad 12 0 0)), (3, .ref (ad 13 0 0)), (4, .int i)]) rfl (by decide) dL_law_1022 rfl ?_
  refine mw_aload_n cx (q := 1025) 3 rfl rfl dL_law_1024 rfl ?_
  refine mw_aload_n cx (q := 1026) 1 rfl rfl dL_law_1025 rfl ?_
  refine mw_iload cx (q := 1028) 5 rfl dL_law_1026 rfl ?_
  refine mw_iconst cx (q := 1029) (v := 1) dL_law_1028 rfl rfl ?_
  refine mw_iadd cx (q := 1030) dL_law_1029 rfl ?_
  refine mw_sldw cx hX (w := a1) (q := 1031) ea1 v1 dL_law_1030 rfl ?_
  refine mw_aload_n cx (q := 1032) 1 rfl rfl dL_law_1031 rfl ?_
  refine mw_iload cx (q := 1034) 5 rfl dL_law_1032 rfl ?_
  refine mw_iconst cx (q := 1035) (v := 2) dL_law_1034 rfl rfl ?_
  refine mw_iadd cx (q := 1036) dL_law_1035 rfl ?_
  refine mw_sldw cx hX (w := a2) (q := 1037) ea2 v2 dL_law_1036 rfl ?_
  refine mw_aload_n cx (q := 1038) 1 rfl rfl dL_law_1037 rfl ?_
  refine mw_iload cx (q := 1040) 5 rfl dL_law_1038 rfl ?_
  refine mw_iconst cx (q := 1041) (v := 3) dL_law_1040 rfl rfl ?_
  refine mw_iadd cx (q := 1042) dL_law_1041 rfl ?_
  refine mw_sldw cx hX (w := a3) (q := 1043) ea3 v3 dL_law_1042 rfl ?_
  refine mw_callV cx (q := 1046) (d := 2) (As := [.int a1, .int a2, .int a3]) (z := fic w.2 12 r) (st := []) (st1 := [.int r.1]) (M' := uW w.2 12 r.2) hMC cv_LM_171 rfl rfl rfl vi_12_0 ⟨Nat.le_of_ble_eq_true rfl, Nat.le_of_ble_eq_true rfl⟩ ⟨by show cells + 4 ≤ 601024; omega, by show slots + 6 * 4 ≤ 7293034; omega⟩ (by simp) rfl rfl rfl dL_law_1043 rfl ?_
  refine mw_istore cx (q := 1048) (lv' := [(6, .int r.1), (5, .int w.1.2), (0, .ref b), (1, .ref (ad 11 0 0)), (2, .ref (ad 12 0 0)), (3, .ref (ad 13 0 0)), (4, .int i)]) rfl (by decide) dL_law_1046 rfl ?_
  refine mw_aload_n cx (q := 1049) 4 rfl rfl dL_law_1048 rfl ?_
  refine mw_callV cx (q := 1052) (d := 0) (As := []) (z := fip (uW w.2 12 r.2) (r.2 0 0 0)) (st := []) (st1 := [.int (r.2 0 0 0)]) (M' := uW w.2 12 r.2) (mc_X12_thrown l D ta ad (uW w.2 12 r.2)) cv_LM_129 rfl rfl rfl vi_12_0 ⟨Nat.le_of_ble_eq_true rfl, Nat.le_of_ble_eq_true rfl⟩ ⟨by show cells + 4 ≤ 601024; omega, by show slots + 6 * 4 ≤ 7293034; omega⟩ (by simp) rfl rfl rfl dL_law_1049 rfl ?_
  refine mw_iload cx (q := 1054) 1 rfl dL_law_1052 rfl ?_
  refine mw_icmp_eq_k cx (tgt := 1059) (q := 1057) dL_law_1054 (by decide) rfl (fun _ => ?_) (fun h => absurd o1 h)
  refine mw_iload cx (q := 1061) 1 rfl dL_law_1059 rfl ?_
  refine mw_if_ne_k cx (tgt := 1076) (q := 1064) dL_law_1061 (by decide) rfl (fun _ => ?_) (fun h => ?_)
  · refine mw_goto cx (tgt := 2334) dL_law_1076 (by decide) ?_
    exact mw_sub [2, 3, 4, 5, 6] rfl (K _ _ _ o3 (by omega) (by omega))
  · refine mw_aload_n cx (q := 1065) 5 rfl rfl dL_law_1064 rfl ?_
    refine mw_iconst cx (q := 1066) (v := 0) dL_law_1065 rfl rfl ?_
    refine mw_lald cx (q := 1067) dL_law_1066 rfl ?_
    refine mw_iload cx (q := 1069) 0 rfl dL_law_1067 rfl ?_
    refine mw_i2l cx (q := 1070) dL_law_1069 rfl ?_
    refine mw_lcmp0 cx (q := 1071) (by rw [uW_ne _ _ (by decide), o2 h]) dL_law_1070 rfl ?_
    refine mw_if_eq_k cx (tgt := 1076) (q := 1074) dL_law_1071 (by decide) rfl (fun _ => ?_) (fun h => absurd rfl h)
    refine mw_goto cx (tgt := 2334) dL_law_1076 (by decide) ?_
    exact mw_sub [2, 3, 4, 5, 6] rfl (K _ _ _ o3 (by omega) (by omega))
theorem cs_L_172 : CSh RL 172 yL_stock cL_stock 5 (some .int) [(0, 10, 13, 13)] 4 := ⟨⟨BG_at 786 (by decide +kernel) (by decide +kernel), BG_at 787 (by decide +kernel) (by decide +kernel), BG_at 79 (by decide +kernel) (by decide +kernel), BG_at 788 (by decide +kernel) (by decide +kernel)⟩, by decide, by decide, by decide +kernel⟩
theorem cv_LM_174 : CV RL 174 yX12_stock RX12 cX12_stock 3 (some .int) 2 := ⟨⟨BG_at 1729 (by decide +kernel) (by decide +kernel), BG_at 1730 (by decide +kernel) (by decide +kernel), BG_at 1731 (by decide +kernel) (by decide +kernel), BG_at 90 (by decide +kernel) (by decide +kernel), BG_at 1732 (by decide +kernel) (by decide +kernel)⟩, rfl, by decide, by decide, by decide +kernel⟩
set_option maxHeartbeats 1000000 in
theorem law_c13 (X : LwC p l s m meth c D ta ad b Ln xs) (hR : RW Lb M) (hLb : Lb ≤ 1000000) (hi : LwI Ln i) (hc : cells + 4 ≤ 601024 ∧ slots + 24 ≤ 7293034) (K : ∀ (M2 : Wm) (c2 s2 : Nat), RW (Lb + 1000) M2 → c2 ≤ cells + 4 → s2 ≤ slots + 24 → mw p l e room_1 s m #[Value.ref b] below meth c c2 s2 Q D ta ad 7 M2 2334 (lv0 ad b i) [] ()) : mw p l e room_1 s m #[Value.ref b] below meth c cells slots Q D ta ad 7 M 1079 (lv0 ad b i) [] () := by
  obtain ⟨cx, hzx, hcx, hX, hl⟩ := X
  unfold lv0 at K ⊢
  obtain ⟨a1, ea1⟩ : ∃ y : Int32, y = xs (i + 1).toNatClampNeg := ⟨_, rfl⟩
  have v1 : vp_in (i + 1) Ln := hi.ix (k := 1) (by decide) (by decide)
  obtain ⟨a2, ea2⟩ : ∃ y : Int32, y = xs (i + 2).toNatClampNeg := ⟨_, rfl⟩
  have v2 : vp_in (i + 2) Ln := hi.ix (k := 2) (by decide) (by decide)
  refine mw_aload_n cx (q := 1080) 1 rfl rfl dL_law_1079 rfl ?_
  refine mw_aload_n cx (q := 1081) 0 rfl rfl dL_law_1080 rfl ?_
  refine mw_iload cx (q := 1083) 4 rfl dL_law_1081 rfl ?_
  refine mw_iconst cx (q := 1084) (v := 1) dL_law_1083 rfl rfl ?_
  refine mw_iadd cx (q := 1085) dL_law_1084 rfl ?_
  refine mw_sldw cx hX (w := a1) (q := 1086) ea1 v1 dL_law_1085 rfl ?_
  refine mw_aload_n cx (q := 1087) 0 rfl rfl dL_law_1086 rfl ?_
  refine mw_iload cx (q := 1089) 4 rfl dL_law_1087 rfl ?_
  refine mw_iconst cx (q := 1090) (v := 2) dL_law_1089 rfl rfl ?_
  refine mw_iadd cx (q := 1091) dL_law_1090 rfl ?_
  refine mw_sldw cx hX (w := a2) (q := 1092) ea2 v2 dL_law_1091 rfl ?_
  refine mw_aload_n cx (q := 1093) 3 rfl rfl dL_law_1092 rfl ?_
  have hO := R_stock (p1 := a1) (p2 := a2) hR
  have hM := mc_L_stock l hl D ta ad M a1 a2 k_stock
  have h0 := fw13_n (kfI 1 1) (f11_stock M a1 a2)
  unfold OpR at hO
  generalize hw : fw13 (kfI 1 1) (f11_stock M a1 a2) = w at hO hM h0
  obtain ⟨e12, o1, o2, o3⟩ := hO
  have hMC := mc_X12_stock l D ta ad w.2 a1 a2 (by rw [e12]; exact hR.k)
  dsimp only at o1 o2 o3
  generalize hr : f12_stock (w.2 12) a1 a2 = r at o1 o2 o3 hMC
  refine mh_callS cx hzx hcx (q := 1096) (d := 9) (u0 := 2) (As := [.ref (ad 11 0 0), .int a1, .int a2, .ref (ad 13 0 0)]) (z := fxi w) (st := []) (st1 := [.int w.1.2]) (M' := w.2) hM cs_L_172 ⟨Nat.le_of_ble_eq_true rfl, Nat.le_of_ble_eq_true rfl⟩ ⟨by show cells + 2 ≤ 601024; omega, by show slots + 6 * 2 ≤ 7293034; omega⟩ (by simp) rfl h0 rfl rfl dL_law_1093 rfl ?_
  refine mw_istore cx (q := 1098) (lv' := [(5, .int w.1.2), (0, .ref b), (1, .ref (ad 11 0 0)), (2, .ref (ad 12 0 0)), (3, .ref (ad 13 0 0)), (4, .int i)]) rfl (by decide) dL_law_1096 rfl ?_
  refine mw_aload_n cx (q := 1099) 3 rfl rfl dL_law_1098 rfl ?_
  refine mw_aload_n cx (q := 1100) 1 rfl rfl dL_law_1099 rfl ?_
  refine mw_iload cx (q := 1102) 5 rfl dL_law_1100 rfl ?_
  refine mw_iconst cx (q := 1103) (v := 1) dL_law_1102 rfl rfl ?_
  refine mw_iadd cx (q := 1104) dL_law_1103 rfl ?_
  refine mw_sldw cx hX (w := a1) (q := 1105) ea1 v1 dL_law_1104 rfl ?_
  refine mw_aload_n cx (q := 1106) 1 rfl rfl dL_law_1105 rfl ?_
  refine mw_iload cx (q := 1108) 5 rfl dL_law_1106 rfl ?_
  refine mw_iconst cx (q := 1109) (v := 2) dL_law_1108 rfl rfl ?_
  refine mw_iadd cx (q := 1110) dL_law_1109 rfl ?_
  refine mw_sldw cx hX (w := a2) (q := 1111) ea2 v2 dL_law_1110 rfl ?_
  refine mw_callV cx (q := 1114) (d := 3) (As := [.int a1, .int a2]) (z := fic w.2 12 r) (st := []) (st1 := [.int r.1]) (M' := uW w.2 12 r.2) hMC cv_LM_174 rfl rfl rfl vi_12_0 ⟨Nat.le_of_ble_eq_true rfl, Nat.le_of_ble_eq_true rfl⟩ ⟨by show cells + 2 ≤ 601024; omega, by show slots + 6 * 2 ≤ 7293034; omega⟩ (by simp) rfl rfl rfl dL_law_1111 rfl ?_
  refine mw_istore cx (q := 1116) (lv' := [(6, .int r.1), (5, .int w.1.2), (0, .ref b), (1, .ref (ad 11 0 0)), (2, .ref (ad 12 0 0)), (3, .ref (ad 13 0 0)), (4, .int i)]) rfl (by decide) dL_law_1114 rfl ?_
  refine mw_aload_n cx (q := 1117) 4 rfl rfl dL_law_1116 rfl ?_
  refine mw_callV cx (q := 1120) (d := 0) (As := []) (z := fip (uW w.2 12 r.2) (r.2 0 0 0)) (st := []) (st1 := [.int (r.2 0 0 0)]) (M' := uW w.2 12 r.2) (mc_X12_thrown l D ta ad (uW w.2 12 r.2)) cv_LM_129 rfl rfl rfl vi_12_0 ⟨Nat.le_of_ble_eq_true rfl, Nat.le_of_ble_eq_true rfl⟩ ⟨by show cells + 2 ≤ 601024; omega, by show slots + 6 * 2 ≤ 7293034; omega⟩ (by simp) rfl rfl rfl dL_law_1117 rfl ?_
  refine mw_iload cx (q := 1122) 1 rfl dL_law_1120 rfl ?_
  refine mw_icmp_eq_k cx (tgt := 1127) (q := 1125) dL_law_1122 (by decide) rfl (fun _ => ?_) (fun h => absurd o1 h)
  refine mw_iload cx (q := 1129) 1 rfl dL_law_1127 rfl ?_
  refine mw_if_ne_k cx (tgt := 1144) (q := 1132) dL_law_1129 (by decide) rfl (fun _ => ?_) (fun h => ?_)
  · refine mw_goto cx (tgt := 2334) dL_law_1144 (by decide) ?_
    exact mw_sub [2, 3, 4, 5, 6] rfl (K _ _ _ o3 (by omega) (by omega))
  · refine mw_aload_n cx (q := 1133) 5 rfl rfl dL_law_1132 rfl ?_
    refine mw_iconst cx (q := 1134) (v := 0) dL_law_1133 rfl rfl ?_
    refine mw_lald cx (q := 1135) dL_law_1134 rfl ?_
    refine mw_iload cx (q := 1137) 0 rfl dL_law_1135 rfl ?_
    refine mw_i2l cx (q := 1138) dL_law_1137 rfl ?_
    refine mw_lcmp0 cx (q := 1139) (by rw [uW_ne _ _ (by decide), o2 h]) dL_law_1138 rfl ?_
    refine mw_if_eq_k cx (tgt := 1144) (q := 1142) dL_law_1139 (by decide) rfl (fun _ => ?_) (fun h => absurd rfl h)
    refine mw_goto cx (tgt := 2334) dL_law_1144 (by decide) ?_
    exact mw_sub [2, 3, 4, 5, 6] rfl (K _ _ _ o3 (by omega) (by omega))
theorem cs_L_175 : CSh RL 175 yL_stockByMoves cL_stockByMoves 5 (some .int) [(0, 10, 13, 13)] 4 := ⟨⟨BG_at 800 (by decide +kernel) (by decide +kernel), BG_at 801 (by decide +kernel) (by decide +kernel), BG_at 79 (by decide +kernel) (by decide +kernel), BG_at 802 (by decide +kernel) (by decide +kernel)⟩, by decide, by decide, by decide +kernel⟩
theorem cv_LM_177 : CV RL 177 yX12_stockByMoves RX12 cX12_stockByMoves 4 (some .int) 2 := ⟨⟨BG_at 1737 (by decide +kernel) (by decide +kernel), BG_at 1734 (by decide +kernel) (by decide +kernel), BG_at 1735 (by decide +kernel) (by decide +kernel), BG_at 90 (by decide +kernel) (by decide +kernel), BG_at 1736 (by decide +kernel) (by decide +kernel)⟩, rfl, by decide, by decide, by decide +kernel⟩
set_option maxHeartbeats 1000000 in
theorem law_c14 (X : LwC p l s m meth c D ta ad b Ln xs) (hR : RW Lb M) (hLb : Lb ≤ 1000000) (hi : LwI Ln i) (hc : cells + 4 ≤ 601024 ∧ slots + 24 ≤ 7293034) (K : ∀ (M2 : Wm) (c2 s2 : Nat), RW (Lb + 1000) M2 → c2 ≤ cells + 4 → s2 ≤ slots + 24 → mw p l e room_1 s m #[Value.ref b] below meth c c2 s2 Q D ta ad 7 M2 2334 (lv0 ad b i) [] ()) : mw p l e room_1 s m #[Value.ref b] below meth c cells slots Q D ta ad 7 M 1147 (lv0 ad b i) [] () := by
  obtain ⟨cx, hzx, hcx, hX, hl⟩ := X
  unfold lv0 at K ⊢
  obtain ⟨a1, ea1⟩ : ∃ y : Int32, y = xs (i + 1).toNatClampNeg := ⟨_, rfl⟩
  have v1 : vp_in (i + 1) Ln := hi.ix (k := 1) (by decide) (by decide)
  obtain ⟨a2, ea2⟩ : ∃ y : Int32, y = xs (i + 2).toNatClampNeg := ⟨_, rfl⟩
  have v2 : vp_in (i + 2) Ln := hi.ix (k := 2) (by decide) (by decide)
  refine mw_aload_n cx (q := 1148) 1 rfl rfl dL_law_1147 rfl ?_
  refine mw_aload_n cx (q := 1149) 0 rfl rfl dL_law_1148 rfl ?_
  refine mw_iload cx (q := 1151) 4 rfl dL_law_1149 rfl ?_
  refine mw_iconst cx (q := 1152) (v := 1) dL_law_1151 rfl rfl ?_
  refine mw_iadd cx (q := 1153) dL_law_1152 rfl ?_
  refine mw_sldw cx hX (w := a1) (q := 1154) ea1 v1 dL_law_1153 rfl ?_
  refine mw_aload_n cx (q := 1155) 0 rfl rfl dL_law_1154 rfl ?_
  refine mw_iload cx (q := 1157) 4 rfl dL_law_1155 rfl ?_
  refine mw_iconst cx (q := 1158) (v := 2) dL_law_1157 rfl rfl ?_
  refine mw_iadd cx (q := 1159) dL_law_1158 rfl ?_
  refine mw_sldw cx hX (w := a2) (q := 1160) ea2 v2 dL_law_1159 rfl ?_
  refine mw_aload_n cx (q := 1161) 3 rfl rfl dL_law_1160 rfl ?_
  have hO := R_stockByMoves (p1 := a1) (p2 := a2) hR
  have hM := mc_L_stockByMoves l hl D ta ad M a1 a2 hR.b.2.1.1 hR.b.2.1.2 k_stockByMoves
  have h0 := fw13_n (kfI 1 1) (f11_stockByMoves M a1 a2)
  unfold OpR at hO
  generalize hw : fw13 (kfI 1 1) (f11_stockByMoves M a1 a2) = w at hO hM h0
  obtain ⟨e12, o1, o2, o3⟩ := hO
  have hMC := mc_X12_stockByMoves l D ta ad w.2 a1 a2 (by rw [e12]; exact hR.k)
  dsimp only at o1 o2 o3
  generalize hr : f12_stockByMoves (w.2 12) a1 a2 = r at o1 o2 o3 hMC
  refine mh_callS cx hzx hcx (q := 1164) (d := 9) (u0 := 2) (As := [.ref (ad 11 0 0), .int a1, .int a2, .ref (ad 13 0 0)]) (z := fxi w) (st := []) (st1 := [.int w.1.2]) (M' := w.2) hM cs_L_175 ⟨Nat.le_of_ble_eq_true rfl, Nat.le_of_ble_eq_true rfl⟩ ⟨by show cells + 2 ≤ 601024; omega, by show slots + 6 * 2 ≤ 7293034; omega⟩ (by simp) rfl h0 rfl rfl dL_law_1161 rfl ?_
  refine mw_istore cx (q := 1166) (lv' := [(5, .int w.1.2), (0, .ref b), (1, .ref (ad 11 0 0)), (2, .ref (ad 12 0 0)), (3, .ref (ad 13 0 0)), (4, .int i)]) rfl (by decide) dL_law_1164 rfl ?_
  refine mw_aload_n cx (q := 1167) 3 rfl rfl dL_law_1166 rfl ?_
  refine mw_aload_n cx (q := 1168) 1 rfl rfl dL_law_1167 rfl ?_
  refine mw_iload cx (q := 1170) 5 rfl dL_law_1168 rfl ?_
  refine mw_iconst cx (q := 1171) (v := 1) dL_law_1170 rfl rfl ?_
  refine mw_iadd cx (q := 1172) dL_law_1171 rfl ?_
  refine mw_sldw cx hX (w := a1) (q := 1173) ea1 v1 dL_law_1172 rfl ?_
  refine mw_aload_n cx (q := 1174) 1 rfl rfl dL_law_1173 rfl ?_
  refine mw_iload cx (q := 1176) 5 rfl dL_law_1174 rfl ?_
  refine mw_iconst cx (q := 1177) (v := 2) dL_law_1176 rfl rfl ?_
  refine mw_iadd cx (q := 1178) dL_law_1177 rfl ?_
  refine mw_sldw cx hX (w := a2) (q := 1179) ea2 v2 dL_law_1178 rfl ?_
  refine mw_callV cx (q := 1182) (d := 2) (As := [.int a1, .int a2]) (z := fic w.2 12 r) (st := []) (st1 := [.int r.1]) (M' := uW w.2 12 r.2) hMC cv_LM_177 rfl rfl rfl vi_12_0 ⟨Nat.le_of_ble_eq_true rfl, Nat.le_of_ble_eq_true rfl⟩ ⟨by show cells + 2 ≤ 601024; omega, by show slots + 6 * 2 ≤ 7293034; omega⟩ (by simp) rfl rfl rfl dL_law_1179 rfl ?_
  refine mw_istore cx (q := 1184) (lv' := [(6, .int r.1), (5, .int w.1.2), (0, .ref b), (1, .ref (ad 11 0 0)), (2, .ref (ad 12 0 0)), (3, .ref (ad 13 0 0)), (4, .int i)]) rfl (by decide) dL_law_1182 rfl ?_
  refine mw_aload_n cx (q := 1185) 4 rfl rfl dL_law_1184 rfl ?_
  refine mw_callV cx (q := 1188) (d := 0) (As := []) (z := fip (uW w.2 12 r.2) (r.2 0 0 0)) (st := []) (st1 := [.int (r.2 0 0 0)]) (M' := uW w.2 12 r.2) (mc_X12_thrown l D ta ad (uW w.2 12 r.2)) cv_LM_129 rfl rfl rfl vi_12_0 ⟨Nat.le_of_ble_eq_true rfl, Nat.le_of_ble_eq_true rfl⟩ ⟨by show cells + 2 ≤ 601024; omega, by show slots + 6 * 2 ≤ 7293034; omega⟩ (by simp) rfl rfl rfl dL_law_1185 rfl ?_
  refine mw_iload cx (q := 1190) 1 rfl dL_law_1188 rfl ?_
  refine mw_icmp_eq_k cx (tgt := 1195) (q := 1193) dL_law_1190 (by decide) rfl (fun _ => ?_) (fun h => absurd o1 h)
  refine mw_iload cx (q := 1197) 1 rfl dL_law_1195 rfl ?_
  refine mw_if_ne_k cx (tgt := 1212) (q := 1200) dL_law_1197 (by decide) rfl (fun _ => ?_) (fun h => ?_)
  · refine mw_goto cx (tgt := 2334) dL_law_1212 (by decide) ?_
    exact mw_sub [2, 3, 4, 5, 6] rfl (K _ _ _ o3 (by omega) (by omega))
  · refine mw_aload_n cx (q := 1201) 5 rfl rfl dL_law_1200 rfl ?_
    refine mw_iconst cx (q := 1202) (v := 0) dL_law_1201 rfl rfl ?_
    refine mw_lald cx (q := 1203) dL_law_1202 rfl ?_
    refine mw_iload cx (q := 1205) 0 rfl dL_law_1203 rfl ?_
    refine mw_i2l cx (q := 1206) dL_law_1205 rfl ?_
    refine mw_lcmp0 cx (q := 1207) (by rw [uW_ne _ _ (by decide), o2 h]) dL_law_1206 rfl ?_
    refine mw_if_eq_k cx (tgt := 1212) (q := 1210) dL_law_1207 (by decide) rfl (fun _ => ?_) (fun h => absurd rfl h)
    refine mw_goto cx (tgt := 2334) dL_law_1212 (by decide) ?_
    exact mw_sub [2, 3, 4, 5, 6] rfl (K _ _ _ o3 (by omega) (by omega))
theorem cs_L_178 : CSh RL 178 yL_fuel cL_fuel 4 (some .int) [(0, 9, 12, 13)] 3 := ⟨⟨BG_at 811 (by decide +kernel) (by decide +kernel), BG_at 812 (by decide +kernel) (by decide +kernel), BG_at 79 (by decide +kernel) (by decide +kernel), BG_at 813 (by decide +kernel) (by decide +kernel)⟩, by decide, by decide, by decide +kernel⟩
theorem cv_LM_180 : CV RL 180 yX12_fuel RX12 cX12_fuel 2 (some .int) 1 := ⟨⟨BG_at 1738 (by decide +kernel) (by decide +kernel), BG_at 1739 (by decide +kernel) (by decide +kernel), BG_at 1740 (by decide +kernel) (by decide +kernel), BG_at 90 (by decide +kernel) (by decide +kernel), BG_at 1741 (by decide +kernel) (by decide +kernel)⟩, rfl, by decide, by decide, by decide +kernel⟩
set_option maxHeartbeats 1000000 in
theorem law_c15 (X : LwC p l s m meth c D ta ad b Ln xs) (hR : RW Lb M) (hLb : Lb ≤ 1000000) (hi : LwI Ln i) (hc : cells + 4 ≤ 601024 ∧ slots + 24 ≤ 7293034) (K : ∀ (M2 : Wm) (c2 s2 : Nat), RW (Lb + 1000) M2 → c2 ≤ cells + 4 → s2 ≤ slots + 24 → mw p l e room_1 s m #[Value.ref b] below meth c c2 s2 Q D ta ad 7 M2 2334 (lv0 ad b i) [] ()) : mw p l e room_1 s m #[Value.ref b] below meth c cells slots Q D ta ad 7 M 1215 (lv0 ad b i) [] () := by
  obtain ⟨cx, hzx, hcx, hX, hl⟩ := X
  unfold lv0 at K ⊢
  obtain ⟨a1, ea1⟩ : ∃ y : Int32, y = xs (i + 1).toNatClampNeg := ⟨_, rfl⟩
  have v1 : vp_in (i + 1) Ln := hi.ix (k := 1) (by decide) (by decide)
  refine mw_aload_n cx (q := 1216) 1 rfl rfl dL_law_1215 rfl ?_
  refine mw_aload_n cx (q := 1217) 0 rfl rfl dL_law_1216 rfl ?_
  refine mw_iload cx (q := 1219) 4 rfl dL_law_1217 rfl ?_
  refine mw_iconst cx (q := 1220) (v := 1) dL_law_1219 rfl rfl ?_
  refine mw_iadd cx (q := 1221) dL_law_1220 rfl ?_
  refine mw_sldw cx hX (w := a1) (q := 1222) ea1 v1 dL_law_1221 rfl ?_
  refine mw_aload_n cx (q := 1223) 3 rfl rfl dL_law_1222 rfl ?_
  have hO := R_fuel (p1 := a1) hR
  have hM := mc_L_fuel l hl D ta ad M a1 k_fuel
  have h0 := fw13_n (kfI 1 1) (f11_fuel M a1)
  unfold OpR at hO
  generalize hw : fw13 (kfI 1 1) (f11_fuel M a1) = w at hO hM h0
  obtain ⟨e12, o1, o2, o3⟩ := hO
  have hMC := mc_X12_fuel l D ta ad w.2 a1 (by rw [e12]; exact hR.k)
  dsimp only at o1 o2 o3
  generalize hr : f12_fuel (w.2 12) a1 = r at o1 o2 o3 hMC
  refine mh_callS cx hzx hcx (q := 1226) (d := 9) (u0 := 1) (As := [.ref (ad 11 0 0), .int a1, .ref (ad 13 0 0)]) (z := fxi w) (st := []) (st1 := [.int w.1.2]) (M' := w.2) hM cs_L_178 ⟨Nat.le_of_ble_eq_true rfl, Nat.le_of_ble_eq_true rfl⟩ ⟨by show cells + 1 ≤ 601024; omega, by show slots + 6 * 1 ≤ 7293034; omega⟩ (by simp) rfl h0 rfl rfl dL_law_1223 rfl ?_
  refine mw_istore cx (q := 1228) (lv' := [(5, .int w.1.2), (0, .ref b), (1, .ref (ad 11 0 0)), (2, .ref (ad 12 0 0)), (3, .ref (ad 13 0 0)), (4, .int i)]) rfl (by decide) dL_law_1226 rfl ?_
  refine mw_aload_n cx (q := 1229) 3 rfl rfl dL_law_1228 rfl ?_
  refine mw_aload_n cx (q := 1230) 1 rfl rfl dL_law_1229 rfl ?_
  refine mw_iload cx (q := 1232) 5 rfl dL_law_1230 rfl ?_
  refine mw_iconst cx (q := 1233) (v := 1) dL_law_1232 rfl rfl ?_
  refine mw_iadd cx (q := 1234) dL_law_1233 rfl ?_
  refine mw_sldw cx hX (w := a1) (q := 1235) ea1 v1 dL_law_1234 rfl ?_
  refine mw_callV cx (q := 1238) (d := 2) (As := [.int a1]) (z := fic w.2 12 r) (st := []) (st1 := [.int r.1]) (M' := uW w.2 12 r.2) hMC cv_LM_180 rfl rfl rfl vi_12_0 ⟨Nat.le_of_ble_eq_true rfl, Nat.le_of_ble_eq_true rfl⟩ ⟨by show cells + 1 ≤ 601024; omega, by show slots + 6 * 1 ≤ 7293034; omega⟩ (by simp) rfl rfl rfl dL_law_1235 rfl ?_
  refine mw_istore cx (q := 1240) (lv' := [(6, .int r.1), (5, .int w.1.2), (0, .ref b), (1, .ref (ad 11 0 0)), (2, .ref (ad 12 0 0)), (3, .ref (ad 13 0 0)), (4, .int i)]) rfl (by decide) dL_law_1238 rfl ?_
  refine mw_aload_n cx (q := 1241) 4 rfl rfl dL_law_1240 rfl ?_
  refine mw_callV cx (q := 1244) (d := 0) (As := []) (z := fip (uW w.2 12 r.2) (r.2 0 0 0)) (st := []) (st1 := [.int (r.2 0 0 0)]) (M' := uW w.2 12 r.2) (mc_X12_thrown l D ta ad (uW w.2 12 r.2)) cv_LM_129 rfl rfl rfl vi_12_0 ⟨Nat.le_of_ble_eq_true rfl, Nat.le_of_ble_eq_true rfl⟩ ⟨by show cells + 1 ≤ 601024; omega, by show slots + 6 * 1 ≤ 7293034; omega⟩ (by simp) rfl rfl rfl dL_law_1241 rfl ?_
  refine mw_iload cx (q := 1246) 1 rfl dL_law_1244 rfl ?_
  refine mw_icmp_eq_k cx (tgt := 1251) (q := 1249) dL_law_1246 (by decide) rfl (fun _ => ?_) (fun h => absurd o1 h)
  refine mw_iload cx (q := 1253) 1 rfl dL_law_1251 rfl ?_
  refine mw_if_ne_k cx (tgt := 1268) (q := 1256) dL_law_1253 (by decide) rfl (fun _ => ?_) (fun h => ?_)
  · refine mw_goto cx (tgt := 2334) dL_law_1268 (by decide) ?_
    exact mw_sub [2, 3, 4, 5, 6] rfl (K _ _ _ o3 (by omega) (by omega))
  · refine mw_aload_n cx (q := 1257) 5 rfl rfl dL_law_1256 rfl ?_
    refine mw_iconst cx (q := 1258) (v := 0) dL_law_1257 rfl rfl ?_
    refine mw_lald cx (q := 1259) dL_law_1258 rfl ?_
    refine mw_iload cx (q := 1261) 0 rfl dL_law_1259 rfl ?_
    refine mw_i2l cx (q := 1262) dL_law_1261 rfl ?_
    refine mw_lcmp0 cx (q := 1263) (by rw [uW_ne _ _ (by decide), o2 h]) dL_law_1262 rfl ?_
    refine mw_if_eq_k cx (tgt := 1268) (q := 1266) dL_law_1263 (by decide) rfl (fun _ => ?_) (fun h => absurd rfl h)
    refine mw_goto cx (tgt := 2334) dL_law_1268 (by decide) ?_
    exact mw_sub [2, 3, 4, 5, 6] rfl (K _ _ _ o3 (by omega) (by omega))
theorem cs_L_181 : CSh RL 181 yL_rations cL_rations 4 (some .int) [(0, 9, 12, 13)] 3 := ⟨⟨BG_at 818 (by decide +kernel) (by decide +kernel), BG_at 819 (by decide +kernel) (by decide +kernel), BG_at 79 (by decide +kernel) (by decide +kernel), BG_at 820 (by decide +kernel) (by decide +kernel)⟩, by decide, by decide, by decide +kernel⟩
theorem cv_LM_183 : CV RL 183 yX12_rations RX12 cX12_rations 2 (some .int) 1 := ⟨⟨BG_at 1742 (by decide +kernel) (by decide +kernel), BG_at 1743 (by decide +kernel) (by decide +kernel), BG_at 1744 (by decide +kernel) (by decide +kernel), BG_at 90 (by decide +kernel) (by decide +kernel), BG_at 1745 (by decide +kernel) (by decide +kernel)⟩, rfl, by decide, by decide, by decide +kernel⟩
set_option maxHeartbeats 1000000 in
theorem law_c16 (X : LwC p l s m meth c D ta ad b Ln xs) (hR : RW Lb M) (hLb : Lb ≤ 1000000) (hi : LwI Ln i) (hc : cells + 4 ≤ 601024 ∧ slots + 24 ≤ 7293034) (K : ∀ (M2 : Wm) (c2 s2 : Nat), RW (Lb + 1000) M2 → c2 ≤ cells + 4 → s2 ≤ slots + 24 → mw p l e room_1 s m #[Value.ref b] below meth c c2 s2 Q D ta ad 7 M2 2334 (lv0 ad b i) [] ()) : mw p l e room_1 s m #[Value.ref b] below meth c cells slots Q D ta ad 7 M 1271 (lv0 ad b i) [] () := by
  obtain ⟨cx, hzx, hcx, hX, hl⟩ := X
  unfold lv0 at K ⊢
  obtain ⟨a1, ea1⟩ : ∃ y : Int32, y = xs (i + 1).toNatClampNeg := ⟨_, rfl⟩
  have v1 : vp_in (i + 1) Ln := hi.ix (k := 1) (by decide) (by decide)
  refine mw_aload_n cx (q := 1272) 1 rfl rfl dL_law_1271 rfl ?_
  refine mw_aload_n cx (q := 1273) 0 rfl rfl dL_law_1272 rfl ?_
  refine mw_iload cx (q := 1275) 4 rfl dL_law_1273 rfl ?_
  refine mw_iconst cx (q := 1276) (v := 1) dL_law_1275 rfl rfl ?_
  refine mw_iadd cx (q := 1277) dL_law_1276 rfl ?_
  refine mw_sldw cx hX (w := a1) (q := 1278) ea1 v1 dL_law_1277 rfl ?_
  refine mw_aload_n cx (q := 1279) 3 rfl rfl dL_law_1278 rfl ?_
  have hO := R_rations (p1 := a1) hR
  have hM := mc_L_rations l hl D ta ad M a1 k_rations
  have h0 := fw13_n (kfI 1 1) (f11_rations M a1)
  unfold OpR at hO
  generalize hw : fw13 (kfI 1 1) (f11_rations M a1) = w at hO hM h0
  obtain ⟨e12, o1, o2, o3⟩ := hO
  have hMC := mc_X12_rations l D ta ad w.2 a1 (by rw [e12]; exact hR.k)
  dsimp only at o1 o2 o3
  generalize hr : f12_rations (w.2 12) a1 = r at o1 o2 o3 hMC
  refine mh_callS cx hzx hcx (q := 1282) (d := 9) (u0 := 1) (As := [.ref (ad 11 0 0), .int a1, .ref (ad 13 0 0)]) (z := fxi w) (st := []) (st1 := [.int w.1.2]) (M' := w.2) hM cs_L_181 ⟨Nat.le_of_ble_eq_true rfl, Nat.le_of_ble_eq_true rfl⟩ ⟨by show cells + 1 ≤ 601024; omega, by show slots + 6 * 1 ≤ 7293034; omega⟩ (by simp) rfl h0 rfl rfl dL_law_1279 rfl ?_
  refine mw_istore cx (q := 1284) (lv' := [(5, .int w.1.2), (0, .ref b), (1, .ref (ad 11 0 0)), (2, .ref (ad 12 0 0)), (3, .ref (ad 13 0 0)), (4, .int i)]) rfl (by decide) dL_law_1282 rfl ?_
  refine mw_aload_n cx (q := 1285) 3 rfl rfl dL_law_1284 rfl ?_
  refine mw_aload_n cx (q := 1286) 1 rfl rfl dL_law_1285 rfl ?_
  refine mw_iload cx (q := 1288) 5 rfl dL_law_1286 rfl ?_
  refine mw_iconst cx (q := 1289) (v := 1) dL_law_1288 rfl rfl ?_
  refine mw_iadd cx (q := 1290) dL_law_1289 rfl ?_
  refine mw_sldw cx hX (w := a1) (q := 1291) ea1 v1 dL_law_1290 rfl ?_
  refine mw_callV cx (q := 1294) (d := 2) (As := [.int a1]) (z := fic w.2 12 r) (st := []) (st1 := [.int r.1]) (M' := uW w.2 12 r.2) hMC cv_LM_183 rfl rfl rfl vi_12_0 ⟨Nat.le_of_ble_eq_true rfl, Nat.le_of_ble_eq_true rfl⟩ ⟨by show cells + 1 ≤ 601024; omega, by show slots + 6 * 1 ≤ 7293034; omega⟩ (by simp) rfl rfl rfl dL_law_1291 rfl ?_
  refine mw_istore cx (q := 1296) (lv' := [(6, .int r.1), (5, .int w.1.2), (0, .ref b), (1, .ref (ad 11 0 0)), (2, .ref (ad 12 0 0)), (3, .ref (ad 13 0 0)), (4, .int i)]) rfl (by decide) dL_law_1294 rfl ?_
  refine mw_aload_n cx (q := 1297) 4 rfl rfl dL_law_1296 rfl ?_
  refine mw_callV cx (q := 1300) (d := 0) (As := []) (z := fip (uW w.2 12 r.2) (r.2 0 0 0)) (st := []) (st1 := [.int (r.2 0 0 0)]) (M' := uW w.2 12 r.2) (mc_X12_thrown l D ta ad (uW w.2 12 r.2)) cv_LM_129 rfl rfl rfl vi_12_0 ⟨Nat.le_of_ble_eq_true rfl, Nat.le_of_ble_eq_true rfl⟩ ⟨by show cells + 1 ≤ 601024; omega, by show slots + 6 * 1 ≤ 7293034; omega⟩ (by simp) rfl rfl rfl dL_law_1297 rfl ?_
  refine mw_iload cx (q := 1302) 1 rfl dL_law_1300 rfl ?_
  refine mw_icmp_eq_k cx (tgt := 1307) (q := 1305) dL_law_1302 (by decide) rfl (fun _ => ?_) (fun h => absurd o1 h)
  refine mw_iload cx (q := 1309) 1 rfl dL_law_1307 rfl ?_
  refine mw_if_ne_k cx (tgt := 1324) (q := 1312) dL_law_1309 (by decide) rfl (fun _ => ?_) (fun h => ?_)
  · refine mw_goto cx (tgt := 2334) dL_law_1324 (by decide) ?_
    exact mw_sub [2, 3, 4, 5, 6] rfl (K _ _ _ o3 (by omega) (by omega))
  · refine mw_aload_n cx (q := 1313) 5 rfl rfl dL_law_1312 rfl ?_
    refine mw_iconst cx (q := 1314) (v := 0) dL_law_1313 rfl rfl ?_
    refine mw_lald cx (q := 1315) dL_law_1314 rfl ?_
    refine mw_iload cx (q := 1317) 0 rfl dL_law_1315 rfl ?_
    refine mw_i2l cx (q := 1318) dL_law_1317 rfl ?_
    refine mw_lcmp0 cx (q := 1319) (by rw [uW_ne _ _ (by decide), o2 h]) dL_law_1318 rfl ?_
    refine mw_if_eq_k cx (tgt := 1324) (q := 1322) dL_law_1319 (by decide) rfl (fun _ => ?_) (fun h => absurd rfl h)
    refine mw_goto cx (tgt := 2334) dL_law_1324 (by decide) ?_
    exact mw_sub [2, 3, 4, 5, 6] rfl (K _ _ _ o3 (by omega) (by omega))
theorem cs_L_184 : CSh RL 184 yL_debt cL_debt 5 (some .int) [(0, 10, 13, 13)] 4 := ⟨⟨BG_at 825 (by decide +kernel) (by decide +kernel), BG_at 826 (by decide +kernel) (by decide +kernel), BG_at 79 (by decide +kernel) (by decide +kernel), BG_at 827 (by decide +kernel) (by decide +kernel)⟩, by decide, by decide, by decide +kernel⟩
theorem cv_LM_186 : CV RL 186 yX12_debt RX12 cX12_debt 3 (some .int) 2 := ⟨⟨BG_at 1746 (by decide +kernel) (by decide +kernel), BG_at 1747 (by decide +kernel) (by decide +kernel), BG_at 1748 (by decide +kernel) (by decide +kernel), BG_at 90 (by decide +kernel) (by decide +kernel), BG_at 1749 (by decide +kernel) (by decide +kernel)⟩, rfl, by decide, by decide, by decide +kernel⟩
set_option maxHeartbeats 1000000 in
theorem law_c17 (X : LwC p l s m meth c D ta ad b Ln xs) (hR : RW Lb M) (hLb : Lb ≤ 1000000) (hi : LwI Ln i) (hc : cells + 4 ≤ 601024 ∧ slots + 24 ≤ 7293034) (K : ∀ (M2 : Wm) (c2 s2 : Nat), RW (Lb + 1000) M2 → c2 ≤ cells + 4 → s2 ≤ slots + 24 → mw p l e room_1 s m #[Value.ref b] below meth c c2 s2 Q D ta ad 7 M2 2334 (lv0 ad b i) [] ()) : mw p l e room_1 s m #[Value.ref b] below meth c cells slots Q D ta ad 7 M 1327 (lv0 ad b i) [] () := by
  obtain ⟨cx, hzx, hcx, hX, hl⟩ := X
  unfold lv0 at K ⊢
  obtain ⟨a1, ea1⟩ : ∃ y : Int32, y = xs (i + 1).toNatClampNeg := ⟨_, rfl⟩
  have v1 : vp_in (i + 1) Ln := hi.ix (k := 1) (by decide) (by decide)
  obtain ⟨a2, ea2⟩ : ∃ y : Int32, y = xs (i + 2).toNatClampNeg := ⟨_, rfl⟩
  have v2 : vp_in (i + 2) Ln := hi.ix (k := 2) (by decide) (by decide)
  refine mw_aload_n cx (q := 1328) 1 rfl rfl dL_law_1327 rfl ?_
  refine mw_aload_n cx (q := 1329) 0 rfl rfl dL_law_1328 rfl ?_
  refine mw_iload cx (q := 1331) 4 rfl dL_law_1329 rfl ?_
  refine mw_iconst cx (q := 1332) (v := 1) dL_law_1331 rfl rfl ?_
  refine mw_iadd cx (q := 1333) dL_law_1332 rfl ?_
  refine mw_sldw cx hX (w := a1) (q := 1334) ea1 v1 dL_law_1333 rfl ?_
  refine mw_aload_n cx (q := 1335) 0 rfl rfl dL_law_1334 rfl ?_
  refine mw_iload cx (q := 1337) 4 rfl dL_law_1335 rfl ?_
  refine mw_iconst cx (q := 1338) (v := 2) dL_law_1337 rfl rfl ?_
  refine mw_iadd cx (q := 1339) dL_law_1338 rfl ?_
  refine mw_sldw cx hX (w := a2) (q := 1340) ea2 v2 dL_law_1339 rfl ?_
  refine mw_aload_n cx (q := 1341) 3 rfl rfl dL_law_1340 rfl ?_
  have hO := R_debt (p1 := a1) (p2 := a2) hR
  have hM := mc_L_debt l hl D ta ad M a1 a2 k_debt
  have h0 := fw13_n (kfI 1 1) (f11_debt M a1 a2)
  unfold OpR at hO
  generalize hw : fw13 (kfI 1 1) (f11_debt M a1 a2) = w at hO hM h0
  obtain ⟨e12, o1, o2, o3⟩ := hO
  have hMC := mc_X12_debt l D ta ad w.2 a1 a2 (by rw [e12]; exact hR.k)
  dsimp only at o1 o2 o3
  generalize hr : f12_debt (w.2 12) a1 a2 = r at o1 o2 o3 hMC
  refine mh_callS cx hzx hcx (q := 1344) (d := 9) (u0 := 2) (As := [.ref (ad 11 0 0), .int a1, .int a2, .ref (ad 13 0 0)]) (z := fxi w) (st := []) (st1 := [.int w.1.2]) (M' := w.2) hM cs_L_184 ⟨Nat.le_of_ble_eq_true rfl, Nat.le_of_ble_eq_true rfl⟩ ⟨by show cells + 2 ≤ 601024; omega, by show slots + 6 * 2 ≤ 7293034; omega⟩ (by simp) rfl h0 rfl rfl dL_law_1341 rfl ?_
  refine mw_istore cx (q := 1346) (lv' := [(5, .int w.1.2), (0, .ref b), (1, .ref (ad 11 0 0)), (2, .ref (ad 12 0 0)), (3, .ref (ad 13 0 0)), (4, .int i)]) rfl (by decide) dL_law_1344 rfl ?_
  refine mw_aload_n cx (q := 1347) 3 rfl rfl dL_law_1346 rfl ?_
  refine mw_aload_n cx (q := 1348) 1 rfl rfl dL_law_1347 rfl ?_
  refine mw_iload cx (q := 1350) 5 rfl dL_law_1348 rfl ?_
  refine mw_iconst cx (q := 1351) (v := 1) dL_law_1350 rfl rfl ?_
  refine mw_iadd cx (q := 1352) dL_law_1351 rfl ?_
  refine mw_sldw cx hX (w := a1) (q := 1353) ea1 v1 dL_law_1352 rfl ?_
  refine mw_aload_n cx (q := 1354) 1 rfl rfl dL_law_1353 rfl ?_
  refine mw_iload cx (q := 1356) 5 rfl dL_law_1354 rfl ?_
  refine mw_iconst cx (q := 1357) (v := 2) dL_law_1356 rfl rfl ?_
  refine mw_iadd cx (q := 1358) dL_law_1357 rfl ?_
  refine mw_sldw cx hX (w := a2) (q := 1359) ea2 v2 dL_law_1358 rfl ?_
  refine mw_callV cx (q := 1362) (d := 2) (As := [.int a1, .int a2]) (z := fic w.2 12 r) (st := []) (st1 := [.int r.1]) (M' := uW w.2 12 r.2) hMC cv_LM_186 rfl rfl rfl vi_12_0 ⟨Nat.le_of_ble_eq_true rfl, Nat.le_of_ble_eq_true rfl⟩ ⟨by show cells + 2 ≤ 601024; omega, by show slots + 6 * 2 ≤ 7293034; omega⟩ (by simp) rfl rfl rfl dL_law_1359 rfl ?_
  refine mw_istore cx (q := 1364) (lv' := [(6, .int r.1), (5, .int w.1.2), (0, .ref b), (1, .ref (ad 11 0 0)), (2, .ref (ad 12 0 0)), (3, .ref (ad 13 0 0)), (4, .int i)]) rfl (by decide) dL_law_1362 rfl ?_
  refine mw_aload_n cx (q := 1365) 4 rfl rfl dL_law_1364 rfl ?_
  refine mw_callV cx (q := 1368) (d := 0) (As := []) (z := fip (uW w.2 12 r.2) (r.2 0 0 0)) (st := []) (st1 := [.int (r.2 0 0 0)]) (M' := uW w.2 12 r.2) (mc_X12_thrown l D ta ad (uW w.2 12 r.2)) cv_LM_129 rfl rfl rfl vi_12_0 ⟨Nat.le_of_ble_eq_true rfl, Nat.le_of_ble_eq_true rfl⟩ ⟨by show cells + 2 ≤ 601024; omega, by show slots + 6 * 2 ≤ 7293034; omega⟩ (by simp) rfl rfl rfl dL_law_1365 rfl ?_
  refine mw_iload cx (q := 1370) 1 rfl dL_law_1368 rfl ?_
  refine mw_icmp_eq_k cx (tgt := 1375) (q := 1373) dL_law_1370 (by decide) rfl (fun _ => ?_) (fun h => absurd o1 h)
  refine mw_iload cx (q := 1377) 1 rfl dL_law_1375 rfl ?_
  refine mw_if_ne_k cx (tgt := 1392) (q := 1380) dL_law_1377 (by decide) rfl (fun _ => ?_) (fun h => ?_)
  · refine mw_goto cx (tgt := 2334) dL_law_1392 (by decide) ?_
    exact mw_sub [2, 3, 4, 5, 6] rfl (K _ _ _ o3 (by omega) (by omega))
  · refine mw_aload_n cx (q := 1381) 5 rfl rfl dL_law_1380 rfl ?_
    refine mw_iconst cx (q := 1382) (v := 0) dL_law_1381 rfl rfl ?_
    refine mw_lald cx (q := 1383) dL_law_1382 rfl ?_
    refine mw_iload cx (q := 1385) 0 rfl dL_law_1383 rfl ?_
    refine mw_i2l cx (q := 1386) dL_law_1385 rfl ?_
    refine mw_lcmp0 cx (q := 1387) (by rw [uW_ne _ _ (by decide), o2 h]) dL_law_1386 rfl ?_
    refine mw_if_eq_k cx (tgt := 1392) (q := 1390) dL_law_1387 (by decide) rfl (fun _ => ?_) (fun h => absurd rfl h)
    refine mw_goto cx (tgt := 2334) dL_law_1392 (by decide) ?_
    exact mw_sub [2, 3, 4, 5, 6] rfl (K _ _ _ o3 (by omega) (by omega))
theorem cs_L_187 : CSh RL 187 yL_order cL_order 7 (some .int) [(0, 14, 17, 13), (0, 14, 21, 15)] 6 := ⟨⟨BG_at 832 (by decide +kernel) (by decide +kernel), BG_at 833 (by decide +kernel) (by decide +kernel), BG_at 79 (by decide +kernel) (by decide +kernel), BG_at 834 (by decide +kernel) (by decide +kernel)⟩, by decide, by decide, by decide +kernel⟩
theorem cv_LM_190 : CV RL 190 yX12_order RX12 cX12_order 6 (some .int) 4 := ⟨⟨BG_at 1500 (by decide +kernel) (by decide +kernel), BG_at 1501 (by decide +kernel) (by decide +kernel), BG_at 1502 (by decide +kernel) (by decide +kernel), BG_at 90 (by decide +kernel) (by decide +kernel), BG_at 1503 (by decide +kernel) (by decide +kernel)⟩, rfl, by decide, by decide, by decide +kernel⟩
set_option maxHeartbeats 1000000 in
theorem law_c18 (X : LwC p l s m meth c D ta ad b Ln xs) (hR : RW Lb M) (hLb : Lb ≤ 1000000) (hi : LwI Ln i) (hc : cells + 4 ≤ 601024 ∧ slots + 24 ≤ 7293034) (K : ∀ (M2 : Wm) (c2 s2 : Nat), RW (Lb + 1000) M2 → c2 ≤ cells + 4 → s2 ≤ slots + 24 → mw p l e room_1 s m #[Value.ref b] below meth c c2 s2 Q D ta ad 7 M2 2334 (lv0 ad b i) [] ()) : mw p l e room_1 s m #[Value.ref b] below meth c cells slots Q D ta ad 7 M 1395 (lv0 ad b i) [] () := by
  obtain ⟨cx, hzx, hcx, hX, hl⟩ := X
  unfold lv0 at K ⊢
  obtain ⟨a1, ea1⟩ : ∃ y : Int32, y = xs (i + 1).toNatClampNeg := ⟨_, rfl⟩
  have v1 : vp_in (i + 1) Ln := hi.ix (k := 1) (by decide) (by decide)
  obtain ⟨a2, ea2⟩ : ∃ y : Int32, y = xs (i + 2).toNatClampNeg := ⟨_, rfl⟩
  have v2 : vp_in (i + 2) Ln := hi.ix (k := 2) (by decide) (by decide)
  obtain ⟨a3, ea3⟩ : ∃ y : Int32, y = xs (i + 3).toNatClampNeg := ⟨_, rfl⟩
  have v3 : vp_in (i + 3) Ln := hi.ix (k := 3) (by decide) (by decide)
  obtain ⟨a4, ea4⟩ : ∃ y : Int32, y = xs (i + 4).toNatClampNeg := ⟨_, rfl⟩
  have v4 : vp_in (i + 4) Ln := hi.ix (k := 4) (by decide) (by decide)
  refine mw_aload_n cx (q := 1396) 1 rfl rfl dL_law_1395 rfl ?_
  refine mw_aload_n cx (q := 1397) 0 rfl rfl dL_law_1396 rfl ?_
  refine mw_iload cx (q := 1399) 4 rfl dL_law_1397 rfl ?_
  refine mw_iconst cx (q := 1400) (v := 1) dL_law_1399 rfl rfl ?_
  refine mw_iadd cx (q := 1401) dL_law_1400 rfl ?_
  refine mw_sldw cx hX (w := a1) (q := 1402) ea1 v1 dL_law_1401 rfl ?_
  refine mw_aload_n cx (q := 1403) 0 rfl rfl dL_law_1402 rfl ?_
  refine mw_iload cx (q := 1405) 4 rfl dL_law_1403 rfl ?_
  refine mw_iconst cx (q := 1406) (v := 2) dL_law_1405 rfl rfl ?_
  refine mw_iadd cx (q := 1407) dL_law_1406 rfl ?_
  refine mw_sldw cx hX (w := a2) (q := 1408) ea2 v2 dL_law_1407 rfl ?_
  refine mw_aload_n cx (q := 1409) 0 rfl rfl dL_law_1408 rfl ?_
  refine mw_iload cx (q := 1411) 4 rfl dL_law_1409 rfl ?_
  refine mw_iconst cx (q := 1412) (v := 3) dL_law_1411 rfl rfl ?_
  refine mw_iadd cx (q := 1413) dL_law_1412 rfl ?_
  refine mw_sldw cx hX (w := a3) (q := 1414) ea3 v3 dL_law_1413 rfl ?_
  refine mw_aload_n cx (q := 1415) 0 rfl rfl dL_law_1414 rfl ?_
  refine mw_iload cx (q := 1417) 4 rfl dL_law_1415 rfl ?_
  refine mw_iconst cx (q := 1418) (v := 4) dL_law_1417 rfl rfl ?_
  refine mw_iadd cx (q := 1419) dL_law_1418 rfl ?_
  refine mw_sldw cx hX (w := a4) (q := 1420) ea4 v4 dL_law_1419 rfl ?_
  refine mw_aload_n cx (q := 1421) 3 rfl rfl dL_law_1420 rfl ?_
  have hO := R_order (p1 := a1) (p2 := a2) (p3 := a3) (p4 := a4) hR
  have hM := mc_L_order l hl D ta ad M a1 a2 a3 a4 hR.o.2.2.1.1 k_order
  have h0 := fw13_n (kfI 1 2) (f11_order M a1 a2 a3 a4)
  unfold OpR at hO
  generalize hw : fw13 (kfI 1 2) (f11_order M a1 a2 a3 a4) = w at hO hM h0
  obtain ⟨e12, o1, o2, o3⟩ := hO
  have hMC := mc_X12_order l D ta ad w.2 a1 a2 a3 a4 (by rw [e12]; exact hR.k)
  dsimp only at o1 o2 o3
  generalize hr : f12_order (w.2 12) a1 a2 a3 a4 = r at o1 o2 o3 hMC
  refine mh_callS cx hzx hcx (q := 1424) (d := 9) (u0 := 4) (As := [.ref (ad 11 0 0), .int a1, .int a2, .int a3, .int a4, .ref (ad 13 0 0)]) (z := fxi w) (st := []) (st1 := [.int w.1.2]) (M' := w.2) hM cs_L_187 ⟨Nat.le_of_ble_eq_true rfl, Nat.le_of_ble_eq_true rfl⟩ ⟨by show cells + 4 ≤ 601024; omega, by show slots + 6 * 4 ≤ 7293034; omega⟩ (by simp) rfl h0 rfl rfl dL_law_1421 rfl ?_
  refine mw_istore cx (q := 1426) (lv' := [(5, .int w.1.2), (0, .ref b), (1, .ref (ad 11 0 0)), (2, .ref (ad 12 0 0)), (3, .ref (ad 13 0 0)), (4, .int i)]) rfl (by decide) dL_law_1424 rfl ?_
  refine mw_aload_n cx (q := 1427) 3 rfl rfl dL_law_1426 rfl ?_
  refine mw_aload_n cx (q := 1428) 1 rfl rfl dL_law_1427 rfl ?_
  refine mw_iload cx (q := 1430) 5 rfl dL_law_1428 rfl ?_
  refine mw_iconst cx (q := 1431) (v := 1) dL_law_1430 rfl rfl ?_
  refine mw_iadd cx (q := 1432) dL_law_1431 rfl ?_
  refine mw_sldw cx hX (w := a1) (q := 1433) ea1 v1 dL_law_1432 rfl ?_
  refine mw_aload_n cx (q := 1434) 1 rfl rfl dL_law_1433 rfl ?_
  refine mw_iload cx (q := 1436) 5 rfl dL_law_1434 rfl ?_
  refine mw_iconst cx (q := 1437) (v := 2) dL_law_1436 rfl rfl ?_
  refine mw_iadd cx (q := 1438) dL_law_1437 rfl ?_
  refine mw_sldw cx hX (w := a2) (q := 1439) ea2 v2 dL_law_1438 rfl ?_
  refine mw_aload_n cx (q := 1440) 1 rfl rfl dL_law_1439 rfl ?_
  refine mw_iload cx (q := 1442) 5 rfl dL_law_1440 rfl ?_
  refine mw_iconst cx (q := 1443) (v := 3) dL_law_1442 rfl rfl ?_
  refine mw_iadd cx (q := 1444) dL_law_1443 rfl ?_
  refine mw_sldw cx hX (w := a3) (q := 1445) ea3 v3 dL_law_1444 rfl ?_
  refine mw_aload_n cx (q := 1446) 1 rfl rfl dL_law_1445 rfl ?_
  refine mw_iload cx (q := 1448) 5 rfl dL_law_1446 rfl ?_
  refine mw_iconst cx (q := 1449) (v := 4) dL_law_1448 rfl rfl ?_
  refine mw_iadd cx (q := 1450) dL_law_1449 rfl ?_
  refine mw_sldw cx hX (w := a4) (q := 1451) ea4 v4 dL_law_1450 rfl ?_
  refine mw_callV cx (q := 1454) (d := 2) (As := [.int a1, .int a2, .int a3, .int a4]) (z := fic w.2 12 r) (st := []) (st1 := [.int r.1]) (M' := uW w.2 12 r.2) hMC cv_LM_190 rfl rfl rfl vi_12_0 ⟨Nat.le_of_ble_eq_true rfl, Nat.le_of_ble_eq_true rfl⟩ ⟨by show cells + 4 ≤ 601024; omega, by show slots + 6 * 4 ≤ 7293034; omega⟩ (by simp) rfl rfl rfl dL_law_1451 rfl ?_
  refine mw_istore cx (q := 1456) (lv' := [(6, .int r.1), (5, .int w.1.2), (0, .ref b), (1, .ref (ad 11 0 0)), (2, .ref (ad 12 0 0)), (3, .ref (ad 13 0 0)), (4, .int i)]) rfl (by decide) dL_law_1454 rfl ?_
  refine mw_aload_n cx (q := 1457) 4 rfl rfl dL_law_1456 rfl ?_
  refine mw_callV cx (q := 1460) (d := 0) (As := []) (z := fip (uW w.2 12 r.2) (r.2 0 0 0)) (st := []) (st1 := [.int (r.2 0 0 0)]) (M' := uW w.2 12 r.2) (mc_X12_thrown l D ta ad (uW w.2 12 r.2)) cv_LM_129 rfl rfl rfl vi_12_0 ⟨Nat.le_of_ble_eq_true rfl, Nat.le_of_ble_eq_true rfl⟩ ⟨by show cells + 4 ≤ 601024; omega, by show slots + 6 * 4 ≤ 7293034; omega⟩ (by simp) rfl rfl rfl dL_law_1457 rfl ?_
  refine mw_iload cx (q := 1462) 1 rfl dL_law_1460 rfl ?_
  refine mw_icmp_eq_k cx (tgt := 1467) (q := 1465) dL_law_1462 (by decide) rfl (fun _ => ?_) (fun h => absurd o1 h)
  refine mw_iload cx (q := 1469) 1 rfl dL_law_1467 rfl ?_
  refine mw_if_ne_k cx (tgt := 1484) (q := 1472) dL_law_1469 (by decide) rfl (fun _ => ?_) (fun h => ?_)
  · refine mw_goto cx (tgt := 2334) dL_law_1484 (by decide) ?_
    exact mw_sub [2, 3, 4, 5, 6] rfl (K _ _ _ o3 (by omega) (by omega))
  · refine mw_aload_n cx (q := 1473) 5 rfl rfl dL_law_1472 rfl ?_
    refine mw_iconst cx (q := 1474) (v := 0) dL_law_1473 rfl rfl ?_
    refine mw_lald cx (q := 1475) dL_law_1474 rfl ?_
    refine mw_iload cx (q := 1477) 0 rfl dL_law_1475 rfl ?_
    refine mw_i2l cx (q := 1478) dL_law_1477 rfl ?_
    refine mw_lcmp0 cx (q := 1479) (by rw [uW_ne _ _ (by decide), o2 h]) dL_law_1478 rfl ?_
    refine mw_if_eq_k cx (tgt := 1484) (q := 1482) dL_law_1479 (by decide) rfl (fun _ => ?_) (fun h => absurd rfl h)
    refine mw_goto cx (tgt := 2334) dL_law_1484 (by decide) ?_
    exact mw_sub [2, 3, 4, 5, 6] rfl (K _ _ _ o3 (by omega) (by omega))
theorem cs_L_191 : CSh RL 191 yL_pass cL_pass 4 (some .int) [(0, 9, 12, 13), (0, 9, 15, 15)] 3 := ⟨⟨BG_at 848 (by decide +kernel) (by decide +kernel), BG_at 849 (by decide +kernel) (by decide +kernel), BG_at 79 (by decide +kernel) (by decide +kernel), BG_at 850 (by decide +kernel) (by decide +kernel)⟩, by decide, by decide, by decide +kernel⟩
theorem cv_LM_193 : CV RL 193 yX12_pass RX12 cX12_pass 6 (some .int) 1 := ⟨⟨BG_at 1511 (by decide +kernel) (by decide +kernel), BG_at 1512 (by decide +kernel) (by decide +kernel), BG_at 1513 (by decide +kernel) (by decide +kernel), BG_at 90 (by decide +kernel) (by decide +kernel), BG_at 1514 (by decide +kernel) (by decide +kernel)⟩, rfl, by decide, by decide, by decide +kernel⟩
set_option maxHeartbeats 1000000 in
theorem law_c19 (X : LwC p l s m meth c D ta ad b Ln xs) (hR : RW Lb M) (hLb : Lb ≤ 1000000) (hi : LwI Ln i) (hc : cells + 4 ≤ 601024 ∧ slots + 24 ≤ 7293034) (K : ∀ (M2 : Wm) (c2 s2 : Nat), RW (Lb + 1000) M2 → c2 ≤ cells + 4 → s2 ≤ slots + 24 → mw p l e room_1 s m #[Value.ref b] below meth c c2 s2 Q D ta ad 7 M2 2334 (lv0 ad b i) [] ()) : mw p l e room_1 s m #[Value.ref b] below meth c cells slots Q D ta ad 7 M 1487 (lv0 ad b i) [] () := by
  obtain ⟨cx, hzx, hcx, hX, hl⟩ := X
  unfold lv0 at K ⊢
  obtain ⟨a1, ea1⟩ : ∃ y : Int32, y = xs (i + 1).toNatClampNeg := ⟨_, rfl⟩
  have v1 : vp_in (i + 1) Ln := hi.ix (k := 1) (by decide) (by decide)
  refine mw_aload_n cx (q := 1488) 1 rfl rfl dL_law_1487 rfl ?_
  refine mw_aload_n cx (q := 1489) 0 rfl rfl dL_law_1488 rfl ?_
  refine mw_iload cx (q := 1491) 4 rfl dL_law_1489 rfl ?_
  refine mw_iconst cx (q := 1492) (v := 1) dL_law_1491 rfl rfl ?_
  refine mw_iadd cx (q := 1493) dL_law_1492 rfl ?_
  refine mw_sldw cx hX (w := a1) (q := 1494) ea1 v1 dL_law_1493 rfl ?_
  refine mw_aload_n cx (q := 1495) 3 rfl rfl dL_law_1494 rfl ?_
  have hO := R_pass (p1 := a1) hR hLb
  have hM := mc_L_pass l hl D ta ad M a1 (PaJ Lb (M 12 0 0 10).toInt a1) (psJ_of hR hLb) (k_pass lp37_k)
  have h0 := fw13_n (kfI 1 2) (f11_pass M a1)
  unfold OpR at hO
  generalize hw : fw13 (kfI 1 2) (f11_pass M a1) = w at hO hM h0
  obtain ⟨e12, o1, o2, o3⟩ := hO
  have hMC := mc_X12_pass l D ta ad w.2 a1 (by rw [e12]; exact hR.k) (fun q1 q2 => by rw [e12] at q2 ⊢; exact psO_ok hR hLb q1 q2)
  dsimp only at o1 o2 o3
  generalize hr : f12_pass (w.2 12) a1 = r at o1 o2 o3 hMC
  refine mh_callS cx hzx hcx (q := 1498) (d := 221) (u0 := 2) (As := [.ref (ad 11 0 0), .int a1, .ref (ad 13 0 0)]) (z := fxi w) (st := []) (st1 := [.int w.1.2]) (M' := w.2) hM cs_L_191 ⟨Nat.le_of_ble_eq_true rfl, Nat.le_of_ble_eq_true rfl⟩ ⟨by show cells + 2 ≤ 601024; omega, by show slots + 6 * 2 ≤ 7293034; omega⟩ (by simp) rfl h0 rfl rfl dL_law_1495 rfl ?_
  refine mw_istore cx (q := 1500) (lv' := [(5, .int w.1.2), (0, .ref b), (1, .ref (ad 11 0 0)), (2, .ref (ad 12 0 0)), (3, .ref (ad 13 0 0)), (4, .int i)]) rfl (by decide) dL_law_1498 rfl ?_
  refine mw_aload_n cx (q := 1501) 3 rfl rfl dL_law_1500 rfl ?_
  refine mw_aload_n cx (q := 1502) 1 rfl rfl dL_law_1501 rfl ?_
  refine mw_iload cx (q := 1504) 5 rfl dL_law_1502 rfl ?_
  refine mw_iconst cx (q := 1505) (v := 1) dL_law_1504 rfl rfl ?_
  refine mw_iadd cx (q := 1506) dL_law_1505 rfl ?_
  refine mw_sldw cx hX (w := a1) (q := 1507) ea1 v1 dL_law_1506 rfl ?_
  refine mw_callV cx (q := 1510) (d := 11) (As := [.int a1]) (z := fic w.2 12 r) (st := []) (st1 := [.int r.1]) (M' := uW w.2 12 r.2) hMC cv_LM_193 rfl rfl rfl vi_12_0 ⟨Nat.le_of_ble_eq_true rfl, Nat.le_of_ble_eq_true rfl⟩ ⟨by show cells + 2 ≤ 601024; omega, by show slots + 6 * 2 ≤ 7293034; omega⟩ (by simp) rfl rfl rfl dL_law_1507 rfl ?_
  refine mw_istore cx (q := 1512) (lv' := [(6, .int r.1), (5, .int w.1.2), (0, .ref b), (1, .ref (ad 11 0 0)), (2, .ref (ad 12 0 0)), (3, .ref (ad 13 0 0)), (4, .int i)]) rfl (by decide) dL_law_1510 rfl ?_
  refine mw_aload_n cx (q := 1513) 4 rfl rfl dL_law_1512 rfl ?_
  refine mw_callV cx (q := 1516) (d := 0) (As := []) (z := fip (uW w.2 12 r.2) (r.2 0 0 0)) (st := []) (st1 := [.int (r.2 0 0 0)]) (M' := uW w.2 12 r.2) (mc_X12_thrown l D ta ad (uW w.2 12 r.2)) cv_LM_129 rfl rfl rfl vi_12_0 ⟨Nat.le_of_ble_eq_true rfl, Nat.le_of_ble_eq_true rfl⟩ ⟨by show cells + 2 ≤ 601024; omega, by show slots + 6 * 2 ≤ 7293034; omega⟩ (by simp) rfl rfl rfl dL_law_1513 rfl ?_
  refine mw_iload cx (q := 1518) 1 rfl dL_law_1516 rfl ?_
  refine mw_icmp_eq_k cx (tgt := 1523) (q := 1521) dL_law_1518 (by decide) rfl (fun _ => ?_) (fun h => absurd o1 h)
  refine mw_iload cx (q := 1525) 1 rfl dL_law_1523 rfl ?_
  refine mw_if_ne_k cx (tgt := 1540) (q := 1528) dL_law_1525 (by decide) rfl (fun _ => ?_) (fun h => ?_)
  · refine mw_goto cx (tgt := 2334) dL_law_1540 (by decide) ?_
    exact mw_sub [2, 3, 4, 5, 6] rfl (K _ _ _ o3 (by omega) (by omega))
  · refine mw_aload_n cx (q := 1529) 5 rfl rfl dL_law_1528 rfl ?_
    refine mw_iconst cx (q := 1530) (v := 0) dL_law_1529 rfl rfl ?_
    refine mw_lald cx (q := 1531) dL_law_1530 rfl ?_
    refine mw_iload cx (q := 1533) 0 rfl dL_law_1531 rfl ?_
    refine mw_i2l cx (q := 1534) dL_law_1533 rfl ?_
    refine mw_lcmp0 cx (q := 1535) (by rw [uW_ne _ _ (by decide), o2 h]) dL_law_1534 rfl ?_
    refine mw_if_eq_k cx (tgt := 1540) (q := 1538) dL_law_1535 (by decide) rfl (fun _ => ?_) (fun h => absurd rfl h)
    refine mw_goto cx (tgt := 2334) dL_law_1540 (by decide) ?_
    exact mw_sub [2, 3, 4, 5, 6] rfl (K _ _ _ o3 (by omega) (by omega))
theorem cv_LM_194 : CV RL 194 yX11_hour RX11 cX11_hour 1 (some .int) 0 := ⟨⟨BG_at 410 (by decide +kernel) (by decide +kernel), BG_at 411 (by decide +kernel) (by decide +kernel), BG_at 412 (by decide +kernel) (by decide +kernel), BG_at 80 (by decide +kernel) (by decide +kernel), BG_at 413 (by decide +kernel) (by decide +kernel)⟩, rfl, by decide, by decide, by decide +kernel⟩
theorem cv_LM_197 : CV RL 197 yX12_hour RX12 cX12_hour 1 (some .int) 0 := ⟨⟨BG_at 1654 (by decide +kernel) (by decide +kernel), BG_at 1655 (by decide +kernel) (by decide +kernel), BG_at 1656 (by decide +kernel) (by decide +kernel), BG_at 90 (by decide +kernel) (by decide +kernel), BG_at 1657 (by decide +kernel) (by decide +kernel)⟩, rfl, by decide, by decide, by decide +kernel⟩
set_option maxHeartbeats 1000000 in
theorem law_c20 (X : LwC p l s m meth c D ta ad b Ln xs) (hR : RW Lb M) (hLb : Lb ≤ 1000000) (hi : LwI Ln i) (hc : cells + 4 ≤ 601024 ∧ slots + 24 ≤ 7293034) (K : ∀ (M2 : Wm) (c2 s2 : Nat), RW (Lb + 1000) M2 → c2 ≤ cells + 4 → s2 ≤ slots + 24 → mw p l e room_1 s m #[Value.ref b] below meth c c2 s2 Q D ta ad 7 M2 2334 (lv0 ad b i) [] ()) : mw p l e room_1 s m #[Value.ref b] below meth c cells slots Q D ta ad 7 M 1543 (lv0 ad b i) [] () := by
  obtain ⟨cx, hzx, hcx, hX, hl⟩ := X
  unfold lv0 at K ⊢
  refine mw_aload_n cx (q := 1544) 1 rfl rfl dL_law_1543 rfl ?_
  obtain ⟨o1, o3⟩ := R_hour hR
  refine mx_callV cx hzx (q := 1547) (d := 8) (u0 := 0) (As := []) (z := fxi (f11_hour M)) (st := []) (st1 := [.int (f11_hour M).1.2]) (M' := M) (mc_X11_hour l hl D ta ad M) cv_LM_194 rfl rfl rfl vi_11_0 ⟨Nat.le_of_ble_eq_true rfl, Nat.le_of_ble_eq_true rfl⟩ ⟨by show cells + 0 ≤ 601024; omega, by show slots + 6 * 0 ≤ 7293034; omega⟩ (by simp) rfl rfl rfl dL_law_1544 rfl (fun h0 => absurd rfl h0) (fun _ => ?_)
  refine mw_aload_n cx (q := 1548) 2 rfl rfl dL_law_1547 rfl ?_
  refine mw_callV cx (q := 1551) (d := 0) (As := []) (z := fic M 12 (f12_hour (M 12))) (st := [.int (f11_hour M).1.2]) (st1 := [.int (f12_hour (M 12)).1, .int (f11_hour M).1.2]) (M' := uW M 12 (f12_hour (M 12)).2) (mc_X12_hour l D ta ad M) cv_LM_197 rfl rfl rfl vi_12_0 ⟨Nat.le_of_ble_eq_true rfl, Nat.le_of_ble_eq_true rfl⟩ ⟨by show cells + 0 ≤ 601024; omega, by show slots + 6 * 0 ≤ 7293034; omega⟩ (by simp [Value.category]) rfl rfl rfl dL_law_1548 rfl ?_
  refine mw_icmp_eq_k cx (tgt := 2334) (q := 1554) dL_law_1551 (by decide) rfl (fun _ => ?_) (fun h => absurd o1.symm h)
  exact mw_sub [0, 1, 2, 3, 4] rfl (K _ _ _ o3 (by omega) (by omega))
theorem cs_L_198 : CSh RL 198 yL_takeUp cL_takeUp 5 (some .int) [(0, 10, 13, 27), (0, 10, 17, 13), (0, 10, 21, 15)] 4 := ⟨⟨BG_at 1123 (by decide +kernel) (by decide +kernel), BG_at 1124 (by decide +kernel) (by decide +kernel), BG_at 79 (by decide +kernel) (by decide +kernel), BG_at 1125 (by decide +kernel) (by decide +kernel)⟩, by decide, by decide, by decide +kernel⟩
theorem cv_LM_200 : CV RL 200 yX12_takeUp RX12 cX12_takeUp 5 (some .int) 2 := ⟨⟨BG_at 1658 (by decide +kernel) (by decide +kernel), BG_at 1659 (by decide +kernel) (by decide +kernel), BG_at 1660 (by decide +kernel) (by decide +kernel), BG_at 90 (by decide +kernel) (by decide +kernel), BG_at 1661 (by decide +kernel) (by decide +kernel)⟩, rfl, by decide, by decide, by decide +kernel⟩
set_option maxHeartbeats 1000000 in
theorem law_c21 (X : LwC p l s m meth c D ta ad b Ln xs) (hR : RW Lb M) (hLb : Lb ≤ 1000000) (hi : LwI Ln i) (hc : cells + 4 ≤ 601024 ∧ slots + 24 ≤ 7293034) (K : ∀ (M2 : Wm) (c2 s2 : Nat), RW (Lb + 1000) M2 → c2 ≤ cells + 4 → s2 ≤ slots + 24 → mw p l e room_1 s m #[Value.ref b] below meth c c2 s2 Q D ta ad 7 M2 2334 (lv0 ad b i) [] ()) : mw p l e room_1 s m #[Value.ref b] below meth c cells slots Q D ta ad 7 M 1556 (lv0 ad b i) [] () := by
  obtain ⟨cx, hzx, hcx, hX, hl⟩ := X
  unfold lv0 at K ⊢
  obtain ⟨a1, ea1⟩ : ∃ y : Int32, y = xs (i + 1).toNatClampNeg := ⟨_, rfl⟩
  have v1 : vp_in (i + 1) Ln := hi.ix (k := 1) (by decide) (by decide)
  obtain ⟨a2, ea2⟩ : ∃ y : Int32, y = xs (i + 2).toNatClampNeg := ⟨_, rfl⟩
  have v2 : vp_in (i + 2) Ln := hi.ix (k := 2) (by decide) (by decide)
  refine mw_aload_n cx (q := 1557) 1 rfl rfl dL_law_1556 rfl ?_
  refine mw_aload_n cx (q := 1558) 0 rfl rfl dL_law_1557 rfl ?_
  refine mw_iload cx (q := 1560) 4 rfl dL_law_1558 rfl ?_
  refine mw_iconst cx (q := 1561) (v := 1) dL_law_1560 rfl rfl ?_
  refine mw_iadd cx (q := 1562) dL_law_1561 rfl ?_
  refine mw_sldw cx hX (w := a1) (q := 1563) ea1 v1 dL_law_1562 rfl ?_
  refine mw_aload_n cx (q := 1564) 0 rfl rfl dL_law_1563 rfl ?_
  refine mw_iload cx (q := 1566) 4 rfl dL_law_1564 rfl ?_
  refine mw_iconst cx (q := 1567) (v := 2) dL_law_1566 rfl rfl ?_
  refine mw_iadd cx (q := 1568) dL_law_1567 rfl ?_
  refine mw_sldw cx hX (w := a2) (q := 1569) ea2 v2 dL_law_1568 rfl ?_
  refine mw_aload_n cx (q := 1570) 3 rfl rfl dL_law_1569 rfl ?_
  have hO := R_takeUp (p1 := a1) (p2 := a2) hR hLb
  have hM := mc_L_takeUp l hl D ta ad M a1 a2 hR.o.2.2.1.2 (fun a b => (show RWm Lb M (M 12) from hR).exp a b) (k_takeUp hR.o.2.2.1.1)
  have h0 := fw13_n (kfI 3 1) (f11_takeUp M a1 a2)
  unfold OpR at hO
  generalize hw : fw13 (kfI 3 1) (f11_takeUp M a1 a2) = w at hO hM h0
  obtain ⟨e12, o1, o2, o3⟩ := hO
  have hMC := mc_X12_takeUpW l D ta ad w.2 a1 a2 (by rw [e12]; exact hR.k) (fun q => by rw [e12] at q ⊢; exact (take_pre (show RWm Lb M (M 12) from hR) hLb (by rw [← isOrder_e (show RWm Lb M (M 12) from hR)]; exact q.1) q.2.1 q.2.2).2.1.1)
  dsimp only at o1 o2 o3
  generalize hr : f12_takeUp (w.2 12) a1 a2 = r at o1 o2 o3 hMC
  refine mh_callS cx hzx hcx (q := 1573) (d := 221) (u0 := 3) (As := [.ref (ad 11 0 0), .int a1, .int a2, .ref (ad 13 0 0)]) (z := fxi w) (st := []) (st1 := [.int w.1.2]) (M' := w.2) hM cs_L_198 ⟨Nat.le_of_ble_eq_true rfl, Nat.le_of_ble_eq_true rfl⟩ ⟨by show cells + 3 ≤ 601024; omega, by show slots + 6 * 3 ≤ 7293034; omega⟩ (by simp) rfl h0 rfl rfl dL_law_1570 rfl ?_
  refine mw_istore cx (q := 1575) (lv' := [(5, .int w.1.2), (0, .ref b), (1, .ref (ad 11 0 0)), (2, .ref (ad 12 0 0)), (3, .ref (ad 13 0 0)), (4, .int i)]) rfl (by decide) dL_law_1573 rfl ?_
  refine mw_aload_n cx (q := 1576) 3 rfl rfl dL_law_1575 rfl ?_
  refine mw_aload_n cx (q := 1577) 1 rfl rfl dL_law_1576 rfl ?_
  refine mw_iload cx (q := 1579) 5 rfl dL_law_1577 rfl ?_
  refine mw_iconst cx (q := 1580) (v := 1) dL_law_1579 rfl rfl ?_
  refine mw_iadd cx (q := 1581) dL_law_1580 rfl ?_
  refine mw_sldw cx hX (w := a1) (q := 1582) ea1 v1 dL_law_1581 rfl ?_
  refine mw_aload_n cx (q := 1583) 1 rfl rfl dL_law_1582 rfl ?_
  refine mw_iload cx (q := 1585) 5 rfl dL_law_1583 rfl ?_
  refine mw_iconst cx (q := 1586) (v := 2) dL_law_1585 rfl rfl ?_
  refine mw_iadd cx (q := 1587) dL_law_1586 rfl ?_
  refine mw_sldw cx hX (w := a2) (q := 1588) ea2 v2 dL_law_1587 rfl ?_
  refine mw_callV cx (q := 1591) (d := 11) (As := [.int a1, .int a2]) (z := fic w.2 12 r) (st := []) (st1 := [.int r.1]) (M' := uW w.2 12 r.2) hMC cv_LM_200 rfl rfl rfl vi_12_0 ⟨Nat.le_of_ble_eq_true rfl, Nat.le_of_ble_eq_true rfl⟩ ⟨by show cells + 3 ≤ 601024; omega, by show slots + 6 * 3 ≤ 7293034; omega⟩ (by simp) rfl rfl rfl dL_law_1588 rfl ?_
  refine mw_istore cx (q := 1593) (lv' := [(6, .int r.1), (5, .int w.1.2), (0, .ref b), (1, .ref (ad 11 0 0)), (2, .ref (ad 12 0 0)), (3, .ref (ad 13 0 0)), (4, .int i)]) rfl (by decide) dL_law_1591 rfl ?_
  refine mw_aload_n cx (q := 1594) 4 rfl rfl dL_law_1593 rfl ?_
  refine mw_callV cx (q := 1597) (d := 0) (As := []) (z := fip (uW w.2 12 r.2) (r.2 0 0 0)) (st := []) (st1 := [.int (r.2 0 0 0)]) (M' := uW w.2 12 r.2) (mc_X12_thrown l D ta ad (uW w.2 12 r.2)) cv_LM_129 rfl rfl rfl vi_12_0 ⟨Nat.le_of_ble_eq_true rfl, Nat.le_of_ble_eq_true rfl⟩ ⟨by show cells + 3 ≤ 601024; omega, by show slots + 6 * 3 ≤ 7293034; omega⟩ (by simp) rfl rfl rfl dL_law_1594 rfl ?_
  refine mw_iload cx (q := 1599) 1 rfl dL_law_1597 rfl ?_
  refine mw_icmp_eq_k cx (tgt := 1604) (q := 1602) dL_law_1599 (by decide) rfl (fun _ => ?_) (fun h => absurd o1 h)
  refine mw_iload cx (q := 1606) 1 rfl dL_law_1604 rfl ?_
  refine mw_if_ne_k cx (tgt := 1621) (q := 1609) dL_law_1606 (by decide) rfl (fun _ => ?_) (fun h => ?_)
  · refine mw_goto cx (tgt := 2334) dL_law_1621 (by decide) ?_
    exact mw_sub [2, 3, 4, 5, 6] rfl (K _ _ _ o3 (by omega) (by omega))
  · refine mw_aload_n cx (q := 1610) 5 rfl rfl dL_law_1609 rfl ?_
    refine mw_iconst cx (q := 1611) (v := 0) dL_law_1610 rfl rfl ?_
    refine mw_lald cx (q := 1612) dL_law_1611 rfl ?_
    refine mw_iload cx (q := 1614) 0 rfl dL_law_1612 rfl ?_
    refine mw_i2l cx (q := 1615) dL_law_1614 rfl ?_
    refine mw_lcmp0 cx (q := 1616) (by rw [uW_ne _ _ (by decide), o2 h]) dL_law_1615 rfl ?_
    refine mw_if_eq_k cx (tgt := 1621) (q := 1619) dL_law_1616 (by decide) rfl (fun _ => ?_) (fun h => absurd rfl h)
    refine mw_goto cx (tgt := 2334) dL_law_1621 (by decide) ?_
    exact mw_sub [2, 3, 4, 5, 6] rfl (K _ _ _ o3 (by omega) (by omega))
theorem cv_LM_201 : CV RL 201 yX11_orders RX11 cX11_orders 1 (some .int) 0 := ⟨⟨BG_at 414 (by decide +kernel) (by decide +kernel), BG_at 415 (by decide +kernel) (by decide +kernel), BG_at 416 (by decide +kernel) (by decide +kernel), BG_at 80 (by decide +kernel) (by decide +kernel), BG_at 417 (by decide +kernel) (by decide +kernel)⟩, rfl, by decide, by decide, by decide +kernel⟩
theorem cv_LM_204 : CV RL 204 yX12_orders RX12 cX12_orders 1 (some .int) 0 := ⟨⟨BG_at 1666 (by decide +kernel) (by decide +kernel), BG_at 1667 (by decide +kernel) (by decide +kernel), BG_at 1668 (by decide +kernel) (by decide +kernel), BG_at 90 (by decide +kernel) (by decide +kernel), BG_at 1669 (by decide +kernel) (by decide +kernel)⟩, rfl, by decide, by decide, by decide +kernel⟩
set_option maxHeartbeats 1000000 in
theorem law_c22 (X : LwC p l s m meth c D ta ad b Ln xs) (hR : RW Lb M) (hLb : Lb ≤ 1000000) (hi : LwI Ln i) (hc : cells + 4 ≤ 601024 ∧ slots + 24 ≤ 7293034) (K : ∀ (M2 : Wm) (c2 s2 : Nat), RW (Lb + 1000) M2 → c2 ≤ cells + 4 → s2 ≤ slots + 24 → mw p l e room_1 s m #[Value.ref b] below meth c c2 s2 Q D ta ad 7 M2 2334 (lv0 ad b i) [] ()) : mw p l e room_1 s m #[Value.ref b] below meth c cells slots Q D ta ad 7 M 1624 (lv0 ad b i) [] () := by
  obtain ⟨cx, hzx, hcx, hX, hl⟩ := X
  unfold lv0 at K ⊢
  refine mw_aload_n cx (q := 1625) 1 rfl rfl dL_law_1624 rfl ?_
  obtain ⟨o1, o3⟩ := R_orders hR
  refine mx_callV cx hzx (q := 1628) (d := 8) (u0 := 0) (As := []) (z := fxi (f11_orders M)) (st := []) (st1 := [.int (f11_orders M).1.2]) (M' := M) (mc_X11_orders l hl D ta ad M) cv_LM_201 rfl rfl rfl vi_11_0 ⟨Nat.le_of_ble_eq_true rfl, Nat.le_of_ble_eq_true rfl⟩ ⟨by show cells + 0 ≤ 601024; omega, by show slots + 6 * 0 ≤ 7293034; omega⟩ (by simp) rfl rfl rfl dL_law_1625 rfl (fun h0 => absurd rfl h0) (fun _ => ?_)
  refine mw_aload_n cx (q := 1629) 2 rfl rfl dL_law_1628 rfl ?_
  refine mw_callV cx (q := 1632) (d := 0) (As := []) (z := fic M 12 (f12_orders (M 12))) (st := [.int (f11_orders M).1.2]) (st1 := [.int (f12_orders (M 12)).1, .int (f11_orders M).1.2]) (M' := uW M 12 (f12_orders (M 12)).2) (mc_X12_orders l D ta ad M) cv_LM_204 rfl rfl rfl vi_12_0 ⟨Nat.le_of_ble_eq_true rfl, Nat.le_of_ble_eq_true rfl⟩ ⟨by show cells + 0 ≤ 601024; omega, by show slots + 6 * 0 ≤ 7293034; omega⟩ (by simp [Value.category]) rfl rfl rfl dL_law_1629 rfl ?_
  refine mw_icmp_eq_k cx (tgt := 2334) (q := 1635) dL_law_1632 (by decide) rfl (fun _ => ?_) (fun h => absurd o1.symm h)
  exact mw_sub [0, 1, 2, 3, 4] rfl (K _ _ _ o3 (by omega) (by omega))
theorem cs_L_205 : CSh RL 205 yL_state cL_state 4 (some .int) [(0, 9, 12, 27)] 3 := ⟨⟨BG_at 1134 (by decide +kernel) (by decide +kernel), BG_at 1135 (by decide +kernel) (by decide +kernel), BG_at 79 (by decide +kernel) (by decide +kernel), BG_at 1136 (by decide +kernel) (by decide +kernel)⟩, by decide, by decide, by decide +kernel⟩
theorem cv_LM_207 : CV RL 207 yX12_state RX12 cX12_state 2 (some .int) 1 := ⟨⟨BG_at 1670 (by decide +kernel) (by decide +kernel), BG_at 1671 (by decide +kernel) (by decide +kernel), BG_at 1672 (by decide +kernel) (by decide +kernel), BG_at 90 (by decide +kernel) (by decide +kernel), BG_at 1673 (by decide +kernel) (by decide +kernel)⟩, rfl, by decide, by decide, by decide +kernel⟩
set_option maxHeartbeats 1000000 in
theorem law_c23 (X : LwC p l s m meth c D ta ad b Ln xs) (hR : RW Lb M) (hLb : Lb ≤ 1000000) (hi : LwI Ln i) (hc : cells + 4 ≤ 601024 ∧ slots + 24 ≤ 7293034) (K : ∀ (M2 : Wm) (c2 s2 : Nat), RW (Lb + 1000) M2 → c2 ≤ cells + 4 → s2 ≤ slots + 24 → mw p l e room_1 s m #[Value.ref b] below meth c c2 s2 Q D ta ad 7 M2 2334 (lv0 ad b i) [] ()) : mw p l e room_1 s m #[Value.ref b] below meth c cells slots Q D ta ad 7 M 1637 (lv0 ad b i) [] () := by
  obtain ⟨cx, hzx, hcx, hX, hl⟩ := X
  unfold lv0 at K ⊢
  obtain ⟨a1, ea1⟩ : ∃ y : Int32, y = xs (i + 1).toNatClampNeg := ⟨_, rfl⟩
  have v1 : vp_in (i + 1) Ln := hi.ix (k := 1) (by decide) (by decide)
  refine mw_aload_n cx (q := 1638) 1 rfl rfl dL_law_1637 rfl ?_
  refine mw_aload_n cx (q := 1639) 0 rfl rfl dL_law_1638 rfl ?_
  refine mw_iload cx (q := 1641) 4 rfl dL_law_1639 rfl ?_
  refine mw_iconst cx (q := 1642) (v := 1) dL_law_1641 rfl rfl ?_
  refine mw_iadd cx (q := 1643) dL_law_1642 rfl ?_
  refine mw_sldw cx hX (w := a1) (q := 1644) ea1 v1 dL_law_1643 rfl ?_
  refine mw_aload_n cx (q := 1645) 3 rfl rfl dL_law_1644 rfl ?_
  have hO := R_state (p1 := a1) hR
  have hM := mc_L_state l hl D ta ad M a1 hR.o.2.2.1.2 k_state
  have h0 := fw13_n (kfI 3 3) (f11_state M a1)
  unfold OpR at hO
  generalize hw : fw13 (kfI 3 3) (f11_state M a1) = w at hO hM h0
  obtain ⟨e12, o1, o2, o3⟩ := hO
  have hMC := mc_X12_state l D ta ad w.2 a1 (by rw [e12]; exact hR.k)
  dsimp only at o1 o2 o3
  generalize hr : f12_state (w.2 12) a1 = r at o1 o2 o3 hMC
  refine mh_callS cx hzx hcx (q := 1648) (d := 9) (u0 := 1) (As := [.ref (ad 11 0 0), .int a1, .ref (ad 13 0 0)]) (z := fxi w) (st := []) (st1 := [.int w.1.2]) (M' := w.2) hM cs_L_205 ⟨Nat.le_of_ble_eq_true rfl, Nat.le_of_ble_eq_true rfl⟩ ⟨by show cells + 1 ≤ 601024; omega, by show slots + 6 * 1 ≤ 7293034; omega⟩ (by simp) rfl h0 rfl rfl dL_law_1645 rfl ?_
  refine mw_istore cx (q := 1650) (lv' := [(5, .int w.1.2), (0, .ref b), (1, .ref (ad 11 0 0)), (2, .ref (ad 12 0 0)), (3, .ref (ad 13 0 0)), (4, .int i)]) rfl (by decide) dL_law_1648 rfl ?_
  refine mw_aload_n cx (q := 1651) 3 rfl rfl dL_law_1650 rfl ?_
  refine mw_aload_n cx (q := 1652) 1 rfl rfl dL_law_1651 rfl ?_
  refine mw_iload cx (q := 1654) 5 rfl dL_law_1652 rfl ?_
  refine mw_iconst cx (q := 1655) (v := 1) dL_law_1654 rfl rfl ?_
  refine mw_iadd cx (q := 1656) dL_law_1655 rfl ?_
  refine mw_sldw cx hX (w := a1) (q := 1657) ea1 v1 dL_law_1656 rfl ?_
  refine mw_callV cx (q := 1660) (d := 2) (As := [.int a1]) (z := fic w.2 12 r) (st := []) (st1 := [.int r.1]) (M' := uW w.2 12 r.2) hMC cv_LM_207 rfl rfl rfl vi_12_0 ⟨Nat.le_of_ble_eq_true rfl, Nat.le_of_ble_eq_true rfl⟩ ⟨by show cells + 1 ≤ 601024; omega, by show slots + 6 * 1 ≤ 7293034; omega⟩ (by simp) rfl rfl rfl dL_law_1657 rfl ?_
  refine mw_istore cx (q := 1662) (lv' := [(6, .int r.1), (5, .int w.1.2), (0, .ref b), (1, .ref (ad 11 0 0)), (2, .ref (ad 12 0 0)), (3, .ref (ad 13 0 0)), (4, .int i)]) rfl (by decide) dL_law_1660 rfl ?_
  refine mw_aload_n cx (q := 1663) 4 rfl rfl dL_law_1662 rfl ?_
  refine mw_callV cx (q := 1666) (d := 0) (As := []) (z := fip (uW w.2 12 r.2) (r.2 0 0 0)) (st := []) (st1 := [.int (r.2 0 0 0)]) (M' := uW w.2 12 r.2) (mc_X12_thrown l D ta ad (uW w.2 12 r.2)) cv_LM_129 rfl rfl rfl vi_12_0 ⟨Nat.le_of_ble_eq_true rfl, Nat.le_of_ble_eq_true rfl⟩ ⟨by show cells + 1 ≤ 601024; omega, by show slots + 6 * 1 ≤ 7293034; omega⟩ (by simp) rfl rfl rfl dL_law_1663 rfl ?_
  refine mw_iload cx (q := 1668) 1 rfl dL_law_1666 rfl ?_
  refine mw_icmp_eq_k cx (tgt := 1673) (q := 1671) dL_law_1668 (by decide) rfl (fun _ => ?_) (fun h => absurd o1 h)
  refine mw_iload cx (q := 1675) 1 rfl dL_law_1673 rfl ?_
  refine mw_if_ne_k cx (tgt := 1690) (q := 1678) dL_law_1675 (by decide) rfl (fun _ => ?_) (fun h => ?_)
  · refine mw_goto cx (tgt := 2334) dL_law_1690 (by decide) ?_
    exact mw_sub [2, 3, 4, 5, 6] rfl (K _ _ _ o3 (by omega) (by omega))
  · refine mw_aload_n cx (q := 1679) 5 rfl rfl dL_law_1678 rfl ?_
    refine mw_iconst cx (q := 1680) (v := 0) dL_law_1679 rfl rfl ?_
    refine mw_lald cx (q := 1681) dL_law_1680 rfl ?_
    refine mw_iload cx (q := 1683) 0 rfl dL_law_1681 rfl ?_
    refine mw_i2l cx (q := 1684) dL_law_1683 rfl ?_
    refine mw_lcmp0 cx (q := 1685) (by rw [uW_ne _ _ (by decide), o2 h]) dL_law_1684 rfl ?_
    refine mw_if_eq_k cx (tgt := 1690) (q := 1688) dL_law_1685 (by decide) rfl (fun _ => ?_) (fun h => absurd rfl h)
    refine mw_goto cx (tgt := 2334) dL_law_1690 (by decide) ?_
    exact mw_sub [2, 3, 4, 5, 6] rfl (K _ _ _ o3 (by omega) (by omega))
theorem cs_L_208 : CSh RL 208 yL_why cL_why 4 (some .int) [(0, 9, 12, 27)] 3 := ⟨⟨BG_at 1141 (by decide +kernel) (by decide +kernel), BG_at 1142 (by decide +kernel) (by decide +kernel), BG_at 79 (by decide +kernel) (by decide +kernel), BG_at 1143 (by decide +kernel) (by decide +kernel)⟩, by decide, by decide, by decide +kernel⟩
theorem cv_LM_210 : CV RL 210 yX12_why RX12 cX12_why 2 (some .int) 1 := ⟨⟨BG_at 1674 (by decide +kernel) (by decide +kernel), BG_at 1675 (by decide +kernel) (by decide +kernel), BG_at 1676 (by decide +kernel) (by decide +kernel), BG_at 90 (by decide +kernel) (by decide +kernel), BG_at 1677 (by decide +kernel) (by decide +kernel)⟩, rfl, by decide, by decide, by decide +kernel⟩
set_option maxHeartbeats 1000000 in
theorem law_c24 (X : LwC p l s m meth c D ta ad b Ln xs) (hR : RW Lb M) (hLb : Lb ≤ 1000000) (hi : LwI Ln i) (hc : cells + 4 ≤ 601024 ∧ slots + 24 ≤ 7293034) (K : ∀ (M2 : Wm) (c2 s2 : Nat), RW (Lb + 1000) M2 → c2 ≤ cells + 4 → s2 ≤ slots + 24 → mw p l e room_1 s m #[Value.ref b] below meth c c2 s2 Q D ta ad 7 M2 2334 (lv0 ad b i) [] ()) : mw p l e room_1 s m #[Value.ref b] below meth c cells slots Q D ta ad 7 M 1693 (lv0 ad b i) [] () := by
  obtain ⟨cx, hzx, hcx, hX, hl⟩ := X
  unfold lv0 at K ⊢
  obtain ⟨a1, ea1⟩ : ∃ y : Int32, y = xs (i + 1).toNatClampNeg := ⟨_, rfl⟩
  have v1 : vp_in (i + 1) Ln := hi.ix (k := 1) (by decide) (by decide)
  refine mw_aload_n cx (q := 1694) 1 rfl rfl dL_law_1693 rfl ?_
  refine mw_aload_n cx (q := 1695) 0 rfl rfl dL_law_1694 rfl ?_
  refine mw_iload cx (q := 1697) 4 rfl dL_law_1695 rfl ?_
  refine mw_iconst cx (q := 1698) (v := 1) dL_law_1697 rfl rfl ?_
  refine mw_iadd cx (q := 1699) dL_law_1698 rfl ?_
  refine mw_sldw cx hX (w := a1) (q := 1700) ea1 v1 dL_law_1699 rfl ?_
  refine mw_aload_n cx (q := 1701) 3 rfl rfl dL_law_1700 rfl ?_
  have hO := R_why (p1 := a1) hR
  have hM := mc_L_why l hl D ta ad M a1 hR.o.2.2.1.2 k_why
  have h0 := fw13_n (kfI 3 3) (f11_why M a1)
  unfold OpR at hO
  generalize hw : fw13 (kfI 3 3) (f11_why M a1) = w at hO hM h0
  obtain ⟨e12, o1, o2, o3⟩ := hO
  have hMC := mc_X12_why l D ta ad w.2 a1 (by rw [e12]; exact hR.k)
  dsimp only at o1 o2 o3
  generalize hr : f12_why (w.2 12) a1 = r at o1 o2 o3 hMC
  refine mh_callS cx hzx hcx (q := 1704) (d := 9) (u0 := 1) (As := [.ref (ad 11 0 0), .int a1, .ref (ad 13 0 0)]) (z := fxi w) (st := []) (st1 := [.int w.1.2]) (M' := w.2) hM cs_L_208 ⟨Nat.le_of_ble_eq_true rfl, Nat.le_of_ble_eq_true rfl⟩ ⟨by show cells + 1 ≤ 601024; omega, by show slots + 6 * 1 ≤ 7293034; omega⟩ (by simp) rfl h0 rfl rfl dL_law_1701 rfl ?_
  refine mw_istore cx (q := 1706) (lv' := [(5, .int w.1.2), (0, .ref b), (1, .ref (ad 11 0 0)), (2, .ref (ad 12 0 0)), (3, .ref (ad 13 0 0)), (4, .int i)]) rfl (by decide) dL_law_1704 rfl ?_
  refine mw_aload_n cx (q := 1707) 3 rfl rfl dL_law_1706 rfl ?_
  refine mw_aload_n cx (q := 1708) 1 rfl rfl dL_law_1707 rfl ?_
  refine mw_iload cx (q := 1710) 5 rfl dL_law_1708 rfl ?_
  refine mw_iconst cx (q := 1711) (v := 1) dL_law_1710 rfl rfl ?_
  refine mw_iadd cx (q := 1712) dL_law_1711 rfl ?_
  refine mw_sldw cx hX (w := a1) (q := 1713) ea1 v1 dL_law_1712 rfl ?_
  refine mw_callV cx (q := 1716) (d := 2) (As := [.int a1]) (z := fic w.2 12 r) (st := []) (st1 := [.int r.1]) (M' := uW w.2 12 r.2) hMC cv_LM_210 rfl rfl rfl vi_12_0 ⟨Nat.le_of_ble_eq_true rfl, Nat.le_of_ble_eq_true rfl⟩ ⟨by show cells + 1 ≤ 601024; omega, by show slots + 6 * 1 ≤ 7293034; omega⟩ (by simp) rfl rfl rfl dL_law_1713 rfl ?_
  refine mw_istore cx (q := 1718) (lv' := [(6, .int r.1), (5, .int w.1.2), (0, .ref b), (1, .ref (ad 11 0 0)), (2, .ref (ad 12 0 0)), (3, .ref (ad 13 0 0)), (4, .int i)]) rfl (by decide) dL_law_1716 rfl ?_
  refine mw_aload_n cx (q := 1719) 4 rfl rfl dL_law_1718 rfl ?_
  refine mw_callV cx (q := 1722) (d := 0) (As := []) (z := fip (uW w.2 12 r.2) (r.2 0 0 0)) (st := []) (st1 := [.int (r.2 0 0 0)]) (M' := uW w.2 12 r.2) (mc_X12_thrown l D ta ad (uW w.2 12 r.2)) cv_LM_129 rfl rfl rfl vi_12_0 ⟨Nat.le_of_ble_eq_true rfl, Nat.le_of_ble_eq_true rfl⟩ ⟨by show cells + 1 ≤ 601024; omega, by show slots + 6 * 1 ≤ 7293034; omega⟩ (by simp) rfl rfl rfl dL_law_1719 rfl ?_
  refine mw_iload cx (q := 1724) 1 rfl dL_law_1722 rfl ?_
  refine mw_icmp_eq_k cx (tgt := 1729) (q := 1727) dL_law_1724 (by decide) rfl (fun _ => ?_) (fun h => absurd o1 h)
  refine mw_iload cx (q := 1731) 1 rfl dL_law_1729 rfl ?_
  refine mw_if_ne_k cx (tgt := 1746) (q := 1734) dL_law_1731 (by decide) rfl (fun _ => ?_) (fun h => ?_)
  · refine mw_goto cx (tgt := 2334) dL_law_1746 (by decide) ?_
    exact mw_sub [2, 3, 4, 5, 6] rfl (K _ _ _ o3 (by omega) (by omega))
  · refine mw_aload_n cx (q := 1735) 5 rfl rfl dL_law_1734 rfl ?_
    refine mw_iconst cx (q := 1736) (v := 0) dL_law_1735 rfl rfl ?_
    refine mw_lald cx (q := 1737) dL_law_1736 rfl ?_
    refine mw_iload cx (q := 1739) 0 rfl dL_law_1737 rfl ?_
    refine mw_i2l cx (q := 1740) dL_law_1739 rfl ?_
    refine mw_lcmp0 cx (q := 1741) (by rw [uW_ne _ _ (by decide), o2 h]) dL_law_1740 rfl ?_
    refine mw_if_eq_k cx (tgt := 1746) (q := 1744) dL_law_1741 (by decide) rfl (fun _ => ?_) (fun h => absurd rfl h)
    refine mw_goto cx (tgt := 2334) dL_law_1746 (by decide) ?_
    exact mw_sub [2, 3, 4, 5, 6] rfl (K _ _ _ o3 (by omega) (by omega))
theorem cs_L_211 : CSh RL 211 yL_done cL_done 4 (some .int) [(0, 9, 12, 27)] 3 := ⟨⟨BG_at 1148 (by decide +kernel) (by decide +kernel), BG_at 1149 (by decide +kernel) (by decide +kernel), BG_at 79 (by decide +kernel) (by decide +kernel), BG_at 1150 (by decide +kernel) (by decide +kernel)⟩, by decide, by decide, by decide +kernel⟩
theorem cv_LM_213 : CV RL 213 yX12_done RX12 cX12_done 2 (some .int) 1 := ⟨⟨BG_at 1678 (by decide +kernel) (by decide +kernel), BG_at 1679 (by decide +kernel) (by decide +kernel), BG_at 1680 (by decide +kernel) (by decide +kernel), BG_at 90 (by decide +kernel) (by decide +kernel), BG_at 1681 (by decide +kernel) (by decide +kernel)⟩, rfl, by decide, by decide, by decide +kernel⟩
set_option maxHeartbeats 1000000 in
theorem law_c25 (X : LwC p l s m meth c D ta ad b Ln xs) (hR : RW Lb M) (hLb : Lb ≤ 1000000) (hi : LwI Ln i) (hc : cells + 4 ≤ 601024 ∧ slots + 24 ≤ 7293034) (K : ∀ (M2 : Wm) (c2 s2 : Nat), RW (Lb + 1000) M2 → c2 ≤ cells + 4 → s2 ≤ slots + 24 → mw p l e room_1 s m #[Value.ref b] below meth c c2 s2 Q D ta ad 7 M2 2334 (lv0 ad b i) [] ()) : mw p l e room_1 s m #[Value.ref b] below meth c cells slots Q D ta ad 7 M 1749 (lv0 ad b i) [] () := by
  obtain ⟨cx, hzx, hcx, hX, hl⟩ := X
  unfold lv0 at K ⊢
  obtain ⟨a1, ea1⟩ : ∃ y : Int32, y = xs (i + 1).toNatClampNeg := ⟨_, rfl⟩
  have v1 : vp_in (i + 1) Ln := hi.ix (k := 1) (by decide) (by decide)
  refine mw_aload_n cx (q := 1750) 1 rfl rfl dL_law_1749 rfl ?_
  refine mw_aload_n cx (q := 1751) 0 rfl rfl dL_law_1750 rfl ?_
  refine mw_iload cx (q := 1753) 4 rfl dL_law_1751 rfl ?_
  refine mw_iconst cx (q := 1754) (v := 1) dL_law_1753 rfl rfl ?_
  refine mw_iadd cx (q := 1755) dL_law_1754 rfl ?_
  refine mw_sldw cx hX (w := a1) (q := 1756) ea1 v1 dL_law_1755 rfl ?_
  refine mw_aload_n cx (q := 1757) 3 rfl rfl dL_law_1756 rfl ?_
  have hO := R_done (p1 := a1) hR
  have hM := mc_L_done l hl D ta ad M a1 hR.o.2.2.1.2 k_done
  have h0 := fw13_n (kfI 3 3) (f11_done M a1)
  unfold OpR at hO
  generalize hw : fw13 (kfI 3 3) (f11_done M a1) = w at hO hM h0
  obtain ⟨e12, o1, o2, o3⟩ := hO
  have hMC := mc_X12_done l D ta ad w.2 a1 (by rw [e12]; exact hR.k)
  dsimp only at o1 o2 o3
  generalize hr : f12_done (w.2 12) a1 = r at o1 o2 o3 hMC
  refine mh_callS cx hzx hcx (q := 1760) (d := 9) (u0 := 1) (As := [.ref (ad 11 0 0), .int a1, .ref (ad 13 0 0)]) (z := fxi w) (st := []) (st1 := [.int w.1.2]) (M' := w.2) hM cs_L_211 ⟨Nat.le_of_ble_eq_true rfl, Nat.le_of_ble_eq_true rfl⟩ ⟨by show cells + 1 ≤ 601024; omega, by show slots + 6 * 1 ≤ 7293034; omega⟩ (by simp) rfl h0 rfl rfl dL_law_1757 rfl ?_
  refine mw_istore cx (q := 1762) (lv' := [(5, .int w.1.2), (0, .ref b), (1, .ref (ad 11 0 0)), (2, .ref (ad 12 0 0)), (3, .ref (ad 13 0 0)), (4, .int i)]) rfl (by decide) dL_law_1760 rfl ?_
  refine mw_aload_n cx (q := 1763) 3 rfl rfl dL_law_1762 rfl ?_
  refine mw_aload_n cx (q := 1764) 1 rfl rfl dL_law_1763 rfl ?_
  refine mw_iload cx (q := 1766) 5 rfl dL_law_1764 rfl ?_
  refine mw_iconst cx (q := 1767) (v := 1) dL_law_1766 rfl rfl ?_
  refine mw_iadd cx (q := 1768) dL_law_1767 rfl ?_
  refine mw_sldw cx hX (w := a1) (q := 1769) ea1 v1 dL_law_1768 rfl ?_
  refine mw_callV cx (q := 1772) (d := 2) (As := [.int a1]) (z := fic w.2 12 r) (st := []) (st1 := [.int r.1]) (M' := uW w.2 12 r.2) hMC cv_LM_213 rfl rfl rfl vi_12_0 ⟨Nat.le_of_ble_eq_true rfl, Nat.le_of_ble_eq_true rfl⟩ ⟨by show cells + 1 ≤ 601024; omega, by show slots + 6 * 1 ≤ 7293034; omega⟩ (by simp) rfl rfl rfl dL_law_1769 rfl ?_
  refine mw_istore cx (q := 1774) (lv' := [(6, .int r.1), (5, .int w.1.2), (0, .ref b), (1, .ref (ad 11 0 0)), (2, .ref (ad 12 0 0)), (3, .ref (ad 13 0 0)), (4, .int i)]) rfl (by decide) dL_law_1772 rfl ?_
  refine mw_aload_n cx (q := 1775) 4 rfl rfl dL_law_1774 rfl ?_
  refine mw_callV cx (q := 1778) (d := 0) (As := []) (z := fip (uW w.2 12 r.2) (r.2 0 0 0)) (st := []) (st1 := [.int (r.2 0 0 0)]) (M' := uW w.2 12 r.2) (mc_X12_thrown l D ta ad (uW w.2 12 r.2)) cv_LM_129 rfl rfl rfl vi_12_0 ⟨Nat.le_of_ble_eq_true rfl, Nat.le_of_ble_eq_true rfl⟩ ⟨by show cells + 1 ≤ 601024; omega, by show slots + 6 * 1 ≤ 7293034; omega⟩ (by simp) rfl rfl rfl dL_law_1775 rfl ?_
  refine mw_iload cx (q := 1780) 1 rfl dL_law_1778 rfl ?_
  refine mw_icmp_eq_k cx (tgt := 1785) (q := 1783) dL_law_1780 (by decide) rfl (fun _ => ?_) (fun h => absurd o1 h)
  refine mw_iload cx (q := 1787) 1 rfl dL_law_1785 rfl ?_
  refine mw_if_ne_k cx (tgt := 1802) (q := 1790) dL_law_1787 (by decide) rfl (fun _ => ?_) (fun h => ?_)
  · refine mw_goto cx (tgt := 2334) dL_law_1802 (by decide) ?_
    exact mw_sub [2, 3, 4, 5, 6] rfl (K _ _ _ o3 (by omega) (by omega))
  · refine mw_aload_n cx (q := 1791) 5 rfl rfl dL_law_1790 rfl ?_
    refine mw_iconst cx (q := 1792) (v := 0) dL_law_1791 rfl rfl ?_
    refine mw_lald cx (q := 1793) dL_law_1792 rfl ?_
    refine mw_iload cx (q := 1795) 0 rfl dL_law_1793 rfl ?_
    refine mw_i2l cx (q := 1796) dL_law_1795 rfl ?_
    refine mw_lcmp0 cx (q := 1797) (by rw [uW_ne _ _ (by decide), o2 h]) dL_law_1796 rfl ?_
    refine mw_if_eq_k cx (tgt := 1802) (q := 1800) dL_law_1797 (by decide) rfl (fun _ => ?_) (fun h => absurd rfl h)
    refine mw_goto cx (tgt := 2334) dL_law_1802 (by decide) ?_
    exact mw_sub [2, 3, 4, 5, 6] rfl (K _ _ _ o3 (by omega) (by omega))
theorem cs_L_214 : CSh RL 214 yL_value cL_value 4 (some .int) [(0, 9, 12, 27)] 3 := ⟨⟨BG_at 1155 (by decide +kernel) (by decide +kernel), BG_at 1156 (by decide +kernel) (by decide +kernel), BG_at 79 (by decide +kernel) (by decide +kernel), BG_at 1157 (by decide +kernel) (by decide +kernel)⟩, by decide, by decide, by decide +kernel⟩
theorem cv_LM_216 : CV RL 216 yX12_value RX12 cX12_value 2 (some .int) 1 := ⟨⟨BG_at 1682 (by decide +kernel) (by decide +kernel), BG_at 1683 (by decide +kernel) (by decide +kernel), BG_at 1684 (by decide +kernel) (by decide +kernel), BG_at 90 (by decide +kernel) (by decide +kernel), BG_at 1685 (by decide +kernel) (by decide +kernel)⟩, rfl, by decide, by decide, by decide +kernel⟩
set_option maxHeartbeats 1000000 in
theorem law_c26 (X : LwC p l s m meth c D ta ad b Ln xs) (hR : RW Lb M) (hLb : Lb ≤ 1000000) (hi : LwI Ln i) (hc : cells + 4 ≤ 601024 ∧ slots + 24 ≤ 7293034) (K : ∀ (M2 : Wm) (c2 s2 : Nat), RW (Lb + 1000) M2 → c2 ≤ cells + 4 → s2 ≤ slots + 24 → mw p l e room_1 s m #[Value.ref b] below meth c c2 s2 Q D ta ad 7 M2 2334 (lv0 ad b i) [] ()) : mw p l e room_1 s m #[Value.ref b] below meth c cells slots Q D ta ad 7 M 1805 (lv0 ad b i) [] () := by
  obtain ⟨cx, hzx, hcx, hX, hl⟩ := X
  unfold lv0 at K ⊢
  obtain ⟨a1, ea1⟩ : ∃ y : Int32, y = xs (i + 1).toNatClampNeg := ⟨_, rfl⟩
  have v1 : vp_in (i + 1) Ln := hi.ix (k := 1) (by decide) (by decide)
  refine mw_aload_n cx (q := 1806) 1 rfl rfl dL_law_1805 rfl ?_
  refine mw_aload_n cx (q := 1807) 0 rfl rfl dL_law_1806 rfl ?_
  refine mw_iload cx (q := 1809) 4 rfl dL_law_1807 rfl ?_
  refine mw_iconst cx (q := 1810) (v := 1) dL_law_1809 rfl rfl ?_
  refine mw_iadd cx (q := 1811) dL_law_1810 rfl ?_
  refine mw_sldw cx hX (w := a1) (q := 1812) ea1 v1 dL_law_1811 rfl ?_
  refine mw_aload_n cx (q := 1813) 3 rfl rfl dL_law_1812 rfl ?_
  have hO := R_value (p1 := a1) hR
  have hM := mc_L_value l hl D ta ad M a1 hR.o.2.2.1.2 k_value
  have h0 := fw13_n (kfI 3 3) (f11_value M a1)
  unfold OpR at hO
  generalize hw : fw13 (kfI 3 3) (f11_value M a1) = w at hO hM h0
  obtain ⟨e12, o1, o2, o3⟩ := hO
  have hMC := mc_X12_value l D ta ad w.2 a1 (by rw [e12]; exact hR.k)
  dsimp only at o1 o2 o3
  generalize hr : f12_value (w.2 12) a1 = r at o1 o2 o3 hMC
  refine mh_callS cx hzx hcx (q := 1816) (d := 9) (u0 := 1) (As := [.ref (ad 11 0 0), .int a1, .ref (ad 13 0 0)]) (z := fxi w) (st := []) (st1 := [.int w.1.2]) (M' := w.2) hM cs_L_214 ⟨Nat.le_of_ble_eq_true rfl, Nat.le_of_ble_eq_true rfl⟩ ⟨by show cells + 1 ≤ 601024; omega, by show slots + 6 * 1 ≤ 7293034; omega⟩ (by simp) rfl h0 rfl rfl dL_law_1813 rfl ?_
  refine mw_istore cx (q := 1818) (lv' := [(5, .int w.1.2), (0, .ref b), (1, .ref (ad 11 0 0)), (2, .ref (ad 12 0 0)), (3, .ref (ad 13 0 0)), (4, .int i)]) rfl (by decide) dL_law_1816 rfl ?_
  refine mw_aload_n cx (q := 1819) 3 rfl rfl dL_law_1818 rfl ?_
  refine mw_aload_n cx (q := 1820) 1 rfl rfl dL_law_1819 rfl ?_
  refine mw_iload cx (q := 1822) 5 rfl dL_law_1820 rfl ?_
  refine mw_iconst cx (q := 1823) (v := 1) dL_law_1822 rfl rfl ?_
  refine mw_iadd cx (q := 1824) dL_law_1823 rfl ?_
  refine mw_sldw cx hX (w := a1) (q := 1825) ea1 v1 dL_law_1824 rfl ?_
  refine mw_callV cx (q := 1828) (d := 2) (As := [.int a1]) (z := fic w.2 12 r) (st := []) (st1 := [.int r.1]) (M' := uW w.2 12 r.2) hMC cv_LM_216 rfl rfl rfl vi_12_0 ⟨Nat.le_of_ble_eq_true rfl, Nat.le_of_ble_eq_true rfl⟩ ⟨by show cells + 1 ≤ 601024; omega, by show slots + 6 * 1 ≤ 7293034; omega⟩ (by simp) rfl rfl rfl dL_law_1825 rfl ?_
  refine mw_istore cx (q := 1830) (lv' := [(6, .int r.1), (5, .int w.1.2), (0, .ref b), (1, .ref (ad 11 0 0)), (2, .ref (ad 12 0 0)), (3, .ref (ad 13 0 0)), (4, .int i)]) rfl (by decide) dL_law_1828 rfl ?_
  refine mw_aload_n cx (q := 1831) 4 rfl rfl dL_law_1830 rfl ?_
  refine mw_callV cx (q := 1834) (d := 0) (As := []) (z := fip (uW w.2 12 r.2) (r.2 0 0 0)) (st := []) (st1 := [.int (r.2 0 0 0)]) (M' := uW w.2 12 r.2) (mc_X12_thrown l D ta ad (uW w.2 12 r.2)) cv_LM_129 rfl rfl rfl vi_12_0 ⟨Nat.le_of_ble_eq_true rfl, Nat.le_of_ble_eq_true rfl⟩ ⟨by show cells + 1 ≤ 601024; omega, by show slots + 6 * 1 ≤ 7293034; omega⟩ (by simp) rfl rfl rfl dL_law_1831 rfl ?_
  refine mw_iload cx (q := 1836) 1 rfl dL_law_1834 rfl ?_
  refine mw_icmp_eq_k cx (tgt := 1841) (q := 1839) dL_law_1836 (by decide) rfl (fun _ => ?_) (fun h => absurd o1 h)
  refine mw_iload cx (q := 1843) 1 rfl dL_law_1841 rfl ?_
  refine mw_if_ne_k cx (tgt := 1858) (q := 1846) dL_law_1843 (by decide) rfl (fun _ => ?_) (fun h => ?_)
  · refine mw_goto cx (tgt := 2334) dL_law_1858 (by decide) ?_
    exact mw_sub [2, 3, 4, 5, 6] rfl (K _ _ _ o3 (by omega) (by omega))
  · refine mw_aload_n cx (q := 1847) 5 rfl rfl dL_law_1846 rfl ?_
    refine mw_iconst cx (q := 1848) (v := 0) dL_law_1847 rfl rfl ?_
    refine mw_lald cx (q := 1849) dL_law_1848 rfl ?_
    refine mw_iload cx (q := 1851) 0 rfl dL_law_1849 rfl ?_
    refine mw_i2l cx (q := 1852) dL_law_1851 rfl ?_
    refine mw_lcmp0 cx (q := 1853) (by rw [uW_ne _ _ (by decide), o2 h]) dL_law_1852 rfl ?_
    refine mw_if_eq_k cx (tgt := 1858) (q := 1856) dL_law_1853 (by decide) rfl (fun _ => ?_) (fun h => absurd rfl h)
    refine mw_goto cx (tgt := 2334) dL_law_1858 (by decide) ?_
    exact mw_sub [2, 3, 4, 5, 6] rfl (K _ _ _ o3 (by omega) (by omega))
theorem cs_L_217 : CSh RL 217 yL_used cL_used 4 (some .int) [(0, 9, 12, 27)] 3 := ⟨⟨BG_at 1162 (by decide +kernel) (by decide +kernel), BG_at 1163 (by decide +kernel) (by decide +kernel), BG_at 79 (by decide +kernel) (by decide +kernel), BG_at 1164 (by decide +kernel) (by decide +kernel)⟩, by decide, by decide, by decide +kernel⟩
theorem cv_LM_219 : CV RL 219 yX12_used RX12 cX12_used 2 (some .int) 1 := ⟨⟨BG_at 1686 (by decide +kernel) (by decide +kernel), BG_at 1687 (by decide +kernel) (by decide +kernel), BG_at 1688 (by decide +kernel) (by decide +kernel), BG_at 90 (by decide +kernel) (by decide +kernel), BG_at 1689 (by decide +kernel) (by decide +kernel)⟩, rfl, by decide, by decide, by decide +kernel⟩
set_option maxHeartbeats 1000000 in
theorem law_c27 (X : LwC p l s m meth c D ta ad b Ln xs) (hR : RW Lb M) (hLb : Lb ≤ 1000000) (hi : LwI Ln i) (hc : cells + 4 ≤ 601024 ∧ slots + 24 ≤ 7293034) (K : ∀ (M2 : Wm) (c2 s2 : Nat), RW (Lb + 1000) M2 → c2 ≤ cells + 4 → s2 ≤ slots + 24 → mw p l e room_1 s m #[Value.ref b] below meth c c2 s2 Q D ta ad 7 M2 2334 (lv0 ad b i) [] ()) : mw p l e room_1 s m #[Value.ref b] below meth c cells slots Q D ta ad 7 M 1861 (lv0 ad b i) [] () := by
  obtain ⟨cx, hzx, hcx, hX, hl⟩ := X
  unfold lv0 at K ⊢
  obtain ⟨a1, ea1⟩ : ∃ y : Int32, y = xs (i + 1).toNatClampNeg := ⟨_, rfl⟩
  have v1 : vp_in (i + 1) Ln := hi.ix (k := 1) (by decide) (by decide)
  refine mw_aload_n cx (q := 1862) 1 rfl rfl dL_law_1861 rfl ?_
  refine mw_aload_n cx (q := 1863) 0 rfl rfl dL_law_1862 rfl ?_
  refine mw_iload cx (q := 1865) 4 rfl dL_law_1863 rfl ?_
  refine mw_iconst cx (q := 1866) (v := 1) dL_law_1865 rfl rfl ?_
  refine mw_iadd cx (q := 1867) dL_law_1866 rfl ?_
  refine mw_sldw cx hX (w := a1) (q := 1868) ea1 v1 dL_law_1867 rfl ?_
  refine mw_aload_n cx (q := 1869) 3 rfl rfl dL_law_1868 rfl ?_
  have hO := R_used (p1 := a1) hR
  have hM := mc_L_used l hl D ta ad M a1 hR.o.2.2.1.2 k_used
  have h0 := fw13_n (kfI 3 3) (f11_used M a1)
  unfold OpR at hO
  generalize hw : fw13 (kfI 3 3) (f11_used M a1) = w at hO hM h0
  obtain ⟨e12, o1, o2, o3⟩ := hO
  have hMC := mc_X12_used l D ta ad w.2 a1 (by rw [e12]; exact hR.k)
  dsimp only at o1 o2 o3
  generalize hr : f12_used (w.2 12) a1 = r at o1 o2 o3 hMC
  refine mh_callS cx hzx hcx (q := 1872) (d := 9) (u0 := 1) (As := [.ref (ad 11 0 0), .int a1, .ref (ad 13 0 0)]) (z := fxi w) (st := []) (st1 := [.int w.1.2]) (M' := w.2) hM cs_L_217 ⟨Nat.le_of_ble_eq_true rfl, Nat.le_of_ble_eq_true rfl⟩ ⟨by show cells + 1 ≤ 601024; omega, by show slots + 6 * 1 ≤ 7293034; omega⟩ (by simp) rfl h0 rfl rfl dL_law_1869 rfl ?_
  refine mw_istore cx (q := 1874) (lv' := [(5, .int w.1.2), (0, .ref b), (1, .ref (ad 11 0 0)), (2, .ref (ad 12 0 0)), (3, .ref (ad 13 0 0)), (4, .int i)]) rfl (by decide) dL_law_1872 rfl ?_
  refine mw_aload_n cx (q := 1875) 3 rfl rfl dL_law_1874 rfl ?_
  refine mw_aload_n cx (q := 1876) 1 rfl rfl dL_law_1875 rfl ?_
  refine mw_iload cx (q := 1878) 5 rfl dL_law_1876 rfl ?_
  refine mw_iconst cx (q := 1879) (v := 1) dL_law_1878 rfl rfl ?_
  refine mw_iadd cx (q := 1880) dL_law_1879 rfl ?_
  refine mw_sldw cx hX (w := a1) (q := 1881) ea1 v1 dL_law_1880 rfl ?_
  refine mw_callV cx (q := 1884) (d := 2) (As := [.int a1]) (z := fic w.2 12 r) (st := []) (st1 := [.int r.1]) (M' := uW w.2 12 r.2) hMC cv_LM_219 rfl rfl rfl vi_12_0 ⟨Nat.le_of_ble_eq_true rfl, Nat.le_of_ble_eq_true rfl⟩ ⟨by show cells + 1 ≤ 601024; omega, by show slots + 6 * 1 ≤ 7293034; omega⟩ (by simp) rfl rfl rfl dL_law_1881 rfl ?_
  refine mw_istore cx (q := 1886) (lv' := [(6, .int r.1), (5, .int w.1.2), (0, .ref b), (1, .ref (ad 11 0 0)), (2, .ref (ad 12 0 0)), (3, .ref (ad 13 0 0)), (4, .int i)]) rfl (by decide) dL_law_1884 rfl ?_
  refine mw_aload_n cx (q := 1887) 4 rfl rfl dL_law_1886 rfl ?_
  refine mw_callV cx (q := 1890) (d := 0) (As := []) (z := fip (uW w.2 12 r.2) (r.2 0 0 0)) (st := []) (st1 := [.int (r.2 0 0 0)]) (M' := uW w.2 12 r.2) (mc_X12_thrown l D ta ad (uW w.2 12 r.2)) cv_LM_129 rfl rfl rfl vi_12_0 ⟨Nat.le_of_ble_eq_true rfl, Nat.le_of_ble_eq_true rfl⟩ ⟨by show cells + 1 ≤ 601024; omega, by show slots + 6 * 1 ≤ 7293034; omega⟩ (by simp) rfl rfl rfl dL_law_1887 rfl ?_
  refine mw_iload cx (q := 1892) 1 rfl dL_law_1890 rfl ?_
  refine mw_icmp_eq_k cx (tgt := 1897) (q := 1895) dL_law_1892 (by decide) rfl (fun _ => ?_) (fun h => absurd o1 h)
  refine mw_iload cx (q := 1899) 1 rfl dL_law_1897 rfl ?_
  refine mw_if_ne_k cx (tgt := 1914) (q := 1902) dL_law_1899 (by decide) rfl (fun _ => ?_) (fun h => ?_)
  · refine mw_goto cx (tgt := 2334) dL_law_1914 (by decide) ?_
    exact mw_sub [2, 3, 4, 5, 6] rfl (K _ _ _ o3 (by omega) (by omega))
  · refine mw_aload_n cx (q := 1903) 5 rfl rfl dL_law_1902 rfl ?_
    refine mw_iconst cx (q := 1904) (v := 0) dL_law_1903 rfl rfl ?_
    refine mw_lald cx (q := 1905) dL_law_1904 rfl ?_
    refine mw_iload cx (q := 1907) 0 rfl dL_law_1905 rfl ?_
    refine mw_i2l cx (q := 1908) dL_law_1907 rfl ?_
    refine mw_lcmp0 cx (q := 1909) (by rw [uW_ne _ _ (by decide), o2 h]) dL_law_1908 rfl ?_
    refine mw_if_eq_k cx (tgt := 1914) (q := 1912) dL_law_1909 (by decide) rfl (fun _ => ?_) (fun h => absurd rfl h)
    refine mw_goto cx (tgt := 2334) dL_law_1914 (by decide) ?_
    exact mw_sub [2, 3, 4, 5, 6] rfl (K _ _ _ o3 (by omega) (by omega))
theorem cs_L_220 : CSh RL 220 yL_hourOf cL_hourOf 4 (some .int) [(0, 9, 12, 27)] 3 := ⟨⟨BG_at 1169 (by decide +kernel) (by decide +kernel), BG_at 1170 (by decide +kernel) (by decide +kernel), BG_at 79 (by decide +kernel) (by decide +kernel), BG_at 1171 (by decide +kernel) (by decide +kernel)⟩, by decide, by decide, by decide +kernel⟩
theorem cv_LM_222 : CV RL 222 yX12_hourOf RX12 cX12_hourOf 2 (some .int) 1 := ⟨⟨BG_at 1690 (by decide +kernel) (by decide +kernel), BG_at 1691 (by decide +kernel) (by decide +kernel), BG_at 1692 (by decide +kernel) (by decide +kernel), BG_at 90 (by decide +kernel) (by decide +kernel), BG_at 1693 (by decide +kernel) (by decide +kernel)⟩, rfl, by decide, by decide, by decide +kernel⟩
set_option maxHeartbeats 1000000 in
theorem law_c28 (X : LwC p l s m meth c D ta ad b Ln xs) (hR : RW Lb M) (hLb : Lb ≤ 1000000) (hi : LwI Ln i) (hc : cells + 4 ≤ 601024 ∧ slots + 24 ≤ 7293034) (K : ∀ (M2 : Wm) (c2 s2 : Nat), RW (Lb + 1000) M2 → c2 ≤ cells + 4 → s2 ≤ slots + 24 → mw p l e room_1 s m #[Value.ref b] below meth c c2 s2 Q D ta ad 7 M2 2334 (lv0 ad b i) [] ()) : mw p l e room_1 s m #[Value.ref b] below meth c cells slots Q D ta ad 7 M 1917 (lv0 ad b i) [] () := by
  obtain ⟨cx, hzx, hcx, hX, hl⟩ := X
  unfold lv0 at K ⊢
  obtain ⟨a1, ea1⟩ : ∃ y : Int32, y = xs (i + 1).toNatClampNeg := ⟨_, rfl⟩
  have v1 : vp_in (i + 1) Ln := hi.ix (k := 1) (by decide) (by decide)
  refine mw_aload_n cx (q := 1918) 1 rfl rfl dL_law_1917 rfl ?_
  refine mw_aload_n cx (q := 1919) 0 rfl rfl dL_law_1918 rfl ?_
  refine mw_iload cx (q := 1921) 4 rfl dL_law_1919 rfl ?_
  refine mw_iconst cx (q := 1922) (v := 1) dL_law_1921 rfl rfl ?_
  refine mw_iadd cx (q := 1923) dL_law_1922 rfl ?_
  refine mw_sldw cx hX (w := a1) (q := 1924) ea1 v1 dL_law_1923 rfl ?_
  refine mw_aload_n cx (q := 1925) 3 rfl rfl dL_law_1924 rfl ?_
  have hO := R_hourOf (p1 := a1) hR
  have hM := mc_L_hourOf l hl D ta ad M a1 hR.o.2.2.1.2 k_hourOf
  have h0 := fw13_n (kfI 3 3) (f11_hourOf M a1)
  unfold OpR at hO
  generalize hw : fw13 (kfI 3 3) (f11_hourOf M a1) = w at hO hM h0
  obtain ⟨e12, o1, o2, o3⟩ := hO
  have hMC := mc_X12_hourOf l D ta ad w.2 a1 (by rw [e12]; exact hR.k)
  dsimp only at o1 o2 o3
  generalize hr : f12_hourOf (w.2 12) a1 = r at o1 o2 o3 hMC
  refine mh_callS cx hzx hcx (q := 1928) (d := 9) (u0 := 1) (As := [.ref (ad 11 0 0), .int a1, .ref (ad 13 0 0)]) (z := fxi w) (st := []) (st1 := [.int w.1.2]) (M' := w.2) hM cs_L_220 ⟨Nat.le_of_ble_eq_true rfl, Nat.le_of_ble_eq_true rfl⟩ ⟨by show cells + 1 ≤ 601024; omega, by show slots + 6 * 1 ≤ 7293034; omega⟩ (by simp) rfl h0 rfl rfl dL_law_1925 rfl ?_
  refine mw_istore cx (q := 1930) (lv' := [(5, .int w.1.2), (0, .ref b), (1, .ref (ad 11 0 0)), (2, .ref (ad 12 0 0)), (3, .ref (ad 13 0 0)), (4, .int i)]) rfl (by decide) dL_law_1928 rfl ?_
  refine mw_aload_n cx (q := 1931) 3 rfl rfl dL_law_1930 rfl ?_
  refine mw_aload_n cx (q := 1932) 1 rfl rfl dL_law_1931 rfl ?_
  refine mw_iload cx (q := 1934) 5 rfl dL_law_1932 rfl ?_
  refine mw_iconst cx (q := 1935) (v := 1) dL_law_1934 rfl rfl ?_
  refine mw_iadd cx (q := 1936) dL_law_1935 rfl ?_
  refine mw_sldw cx hX (w := a1) (q := 1937) ea1 v1 dL_law_1936 rfl ?_
  refine mw_callV cx (q := 1940) (d := 2) (As := [.int a1]) (z := fic w.2 12 r) (st := []) (st1 := [.int r.1]) (M' := uW w.2 12 r.2) hMC cv_LM_222 rfl rfl rfl vi_12_0 ⟨Nat.le_of_ble_eq_true rfl, Nat.le_of_ble_eq_true rfl⟩ ⟨by show cells + 1 ≤ 601024; omega, by show slots + 6 * 1 ≤ 7293034; omega⟩ (by simp) rfl rfl rfl dL_law_1937 rfl ?_
  refine mw_istore cx (q := 1942) (lv' := [(6, .int r.1), (5, .int w.1.2), (0, .ref b), (1, .ref (ad 11 0 0)), (2, .ref (ad 12 0 0)), (3, .ref (ad 13 0 0)), (4, .int i)]) rfl (by decide) dL_law_1940 rfl ?_
  refine mw_aload_n cx (q := 1943) 4 rfl rfl dL_law_1942 rfl ?_
  refine mw_callV cx (q := 1946) (d := 0) (As := []) (z := fip (uW w.2 12 r.2) (r.2 0 0 0)) (st := []) (st1 := [.int (r.2 0 0 0)]) (M' := uW w.2 12 r.2) (mc_X12_thrown l D ta ad (uW w.2 12 r.2)) cv_LM_129 rfl rfl rfl vi_12_0 ⟨Nat.le_of_ble_eq_true rfl, Nat.le_of_ble_eq_true rfl⟩ ⟨by show cells + 1 ≤ 601024; omega, by show slots + 6 * 1 ≤ 7293034; omega⟩ (by simp) rfl rfl rfl dL_law_1943 rfl ?_
  refine mw_iload cx (q := 1948) 1 rfl dL_law_1946 rfl ?_
  refine mw_icmp_eq_k cx (tgt := 1953) (q := 1951) dL_law_1948 (by decide) rfl (fun _ => ?_) (fun h => absurd o1 h)
  refine mw_iload cx (q := 1955) 1 rfl dL_law_1953 rfl ?_
  refine mw_if_ne_k cx (tgt := 1970) (q := 1958) dL_law_1955 (by decide) rfl (fun _ => ?_) (fun h => ?_)
  · refine mw_goto cx (tgt := 2334) dL_law_1970 (by decide) ?_
    exact mw_sub [2, 3, 4, 5, 6] rfl (K _ _ _ o3 (by omega) (by omega))
  · refine mw_aload_n cx (q := 1959) 5 rfl rfl dL_law_1958 rfl ?_
    refine mw_iconst cx (q := 1960) (v := 0) dL_law_1959 rfl rfl ?_
    refine mw_lald cx (q := 1961) dL_law_1960 rfl ?_
    refine mw_iload cx (q := 1963) 0 rfl dL_law_1961 rfl ?_
    refine mw_i2l cx (q := 1964) dL_law_1963 rfl ?_
    refine mw_lcmp0 cx (q := 1965) (by rw [uW_ne _ _ (by decide), o2 h]) dL_law_1964 rfl ?_
    refine mw_if_eq_k cx (tgt := 1970) (q := 1968) dL_law_1965 (by decide) rfl (fun _ => ?_) (fun h => absurd rfl h)
    refine mw_goto cx (tgt := 2334) dL_law_1970 (by decide) ?_
    exact mw_sub [2, 3, 4, 5, 6] rfl (K _ _ _ o3 (by omega) (by omega))
theorem cs_L_223 : CSh RL 223 yL_leftBy cL_leftBy 5 (some .int) [(0, 10, 13, 27), (0, 10, 17, 13)] 4 := ⟨⟨BG_at 1176 (by decide +kernel) (by decide +kernel), BG_at 1177 (by decide +kernel) (by decide +kernel), BG_at 79 (by decide +kernel) (by decide +kernel), BG_at 1178 (by decide +kernel) (by decide +kernel)⟩, by decide, by decide, by decide +kernel⟩
theorem cv_LM_225 : CV RL 225 yX12_leftBy RX12 cX12_leftBy 7 (some .int) 2 := ⟨⟨BG_at 1694 (by decide +kernel) (by decide +kernel), BG_at 1695 (by decide +kernel) (by decide +kernel), BG_at 1696 (by decide +kernel) (by decide +kernel), BG_at 90 (by decide +kernel) (by decide +kernel), BG_at 1697 (by decide +kernel) (by decide +kernel)⟩, rfl, by decide, by decide, by decide +kernel⟩
set_option maxHeartbeats 1000000 in
theorem law_c29 (X : LwC p l s m meth c D ta ad b Ln xs) (hR : RW Lb M) (hLb : Lb ≤ 1000000) (hi : LwI Ln i) (hc : cells + 4 ≤ 601024 ∧ slots + 24 ≤ 7293034) (K : ∀ (M2 : Wm) (c2 s2 : Nat), RW (Lb + 1000) M2 → c2 ≤ cells + 4 → s2 ≤ slots + 24 → mw p l e room_1 s m #[Value.ref b] below meth c c2 s2 Q D ta ad 7 M2 2334 (lv0 ad b i) [] ()) : mw p l e room_1 s m #[Value.ref b] below meth c cells slots Q D ta ad 7 M 1973 (lv0 ad b i) [] () := by
  obtain ⟨cx, hzx, hcx, hX, hl⟩ := X
  unfold lv0 at K ⊢
  obtain ⟨a1, ea1⟩ : ∃ y : Int32, y = xs (i + 1).toNatClampNeg := ⟨_, rfl⟩
  have v1 : vp_in (i + 1) Ln := hi.ix (k := 1) (by decide) (by decide)
  obtain ⟨a2, ea2⟩ : ∃ y : Int32, y = xs (i + 2).toNatClampNeg := ⟨_, rfl⟩
  have v2 : vp_in (i + 2) Ln := hi.ix (k := 2) (by decide) (by decide)
  refine mw_aload_n cx (q := 1974) 1 rfl rfl dL_law_1973 rfl ?_
  refine mw_aload_n cx (q := 1975) 0 rfl rfl dL_law_1974 rfl ?_
  refine mw_iload cx (q := 1977) 4 rfl dL_law_1975 rfl ?_
  refine mw_iconst cx (q := 1978) (v := 1) dL_law_1977 rfl rfl ?_
  refine mw_iadd cx (q := 1979) dL_law_1978 rfl ?_
  refine mw_sldw cx hX (w := a1) (q := 1980) ea1 v1 dL_law_1979 rfl ?_
  refine mw_aload_n cx (q := 1981) 0 rfl rfl dL_law_1980 rfl ?_
  refine mw_iload cx (q := 1983) 4 rfl dL_law_1981 rfl ?_
  refine mw_iconst cx (q := 1984) (v := 2) dL_law_1983 rfl rfl ?_
  refine mw_iadd cx (q := 1985) dL_law_1984 rfl ?_
  refine mw_sldw cx hX (w := a2) (q := 1986) ea2 v2 dL_law_1985 rfl ?_
  refine mw_aload_n cx (q := 1987) 3 rfl rfl dL_law_1986 rfl ?_
  have hO := R_leftBy (p1 := a1) (p2 := a2) hR
  have hM := mc_L_leftBy l hl D ta ad M a1 a2 hR.b.2.1.1 hR.b.2.1.2 k_leftBy
  have h0 := fw13_n (kfI 3 1) (f11_leftBy M a1 a2)
  unfold OpR at hO
  generalize hw : fw13 (kfI 3 1) (f11_leftBy M a1 a2) = w at hO hM h0
  obtain ⟨e12, o1, o2, o3⟩ := hO
  have hMC := mc_X12_leftBy l D ta ad w.2 a1 a2 (by rw [e12]; exact hR.k)
  dsimp only at o1 o2 o3
  generalize hr : f12_leftBy (w.2 12) a1 a2 = r at o1 o2 o3 hMC
  refine mh_callS cx hzx hcx (q := 1990) (d := 9) (u0 := 2) (As := [.ref (ad 11 0 0), .int a1, .int a2, .ref (ad 13 0 0)]) (z := fxi w) (st := []) (st1 := [.int w.1.2]) (M' := w.2) hM cs_L_223 ⟨Nat.le_of_ble_eq_true rfl, Nat.le_of_ble_eq_true rfl⟩ ⟨by show cells + 2 ≤ 601024; omega, by show slots + 6 * 2 ≤ 7293034; omega⟩ (by simp) rfl h0 rfl rfl dL_law_1987 rfl ?_
  refine mw_istore cx (q := 1992) (lv' := [(5, .int w.1.2), (0, .ref b), (1, .ref (ad 11 0 0)), (2, .ref (ad 12 0 0)), (3, .ref (ad 13 0 0)), (4, .int i)]) rfl (by decide) dL_law_1990 rfl ?_
  refine mw_aload_n cx (q := 1993) 3 rfl rfl dL_law_1992 rfl ?_
  refine mw_aload_n cx (q := 1994) 1 rfl rfl dL_law_1993 rfl ?_
  refine mw_iload cx (q := 1996) 5 rfl dL_law_1994 rfl ?_
  refine mw_iconst cx (q := 1997) (v := 1) dL_law_1996 rfl rfl ?_
  refine mw_iadd cx (q := 1998) dL_law_1997 rfl ?_
  refine mw_sldw cx hX (w := a1) (q := 1999) ea1 v1 dL_law_1998 rfl ?_
  refine mw_aload_n cx (q := 2000) 1 rfl rfl dL_law_1999 rfl ?_
  refine mw_iload cx (q := 2002) 5 rfl dL_law_2000 rfl ?_
  refine mw_iconst cx (q := 2003) (v := 2) dL_law_2002 rfl rfl ?_
  refine mw_iadd cx (q := 2004) dL_law_2003 rfl ?_
  refine mw_sldw cx hX (w := a2) (q := 2005) ea2 v2 dL_law_2004 rfl ?_
  refine mw_callV cx (q := 2008) (d := 2) (As := [.int a1, .int a2]) (z := fic w.2 12 r) (st := []) (st1 := [.int r.1]) (M' := uW w.2 12 r.2) hMC cv_LM_225 rfl rfl rfl vi_12_0 ⟨Nat.le_of_ble_eq_true rfl, Nat.le_of_ble_eq_true rfl⟩ ⟨by show cells + 2 ≤ 601024; omega, by show slots + 6 * 2 ≤ 7293034; omega⟩ (by simp) rfl rfl rfl dL_law_2005 rfl ?_
  refine mw_istore cx (q := 2010) (lv' := [(6, .int r.1), (5, .int w.1.2), (0, .ref b), (1, .ref (ad 11 0 0)), (2, .ref (ad 12 0 0)), (3, .ref (ad 13 0 0)), (4, .int i)]) rfl (by decide) dL_law_2008 rfl ?_
  refine mw_aload_n cx (q := 2011) 4 rfl rfl dL_law_2010 rfl ?_
  refine mw_callV cx (q := 2014) (d := 0) (As := []) (z := fip (uW w.2 12 r.2) (r.2 0 0 0)) (st := []) (st1 := [.int (r.2 0 0 0)]) (M' := uW w.2 12 r.2) (mc_X12_thrown l D ta ad (uW w.2 12 r.2)) cv_LM_129 rfl rfl rfl vi_12_0 ⟨Nat.le_of_ble_eq_true rfl, Nat.le_of_ble_eq_true rfl⟩ ⟨by show cells + 2 ≤ 601024; omega, by show slots + 6 * 2 ≤ 7293034; omega⟩ (by simp) rfl rfl rfl dL_law_2011 rfl ?_
  refine mw_iload cx (q := 2016) 1 rfl dL_law_2014 rfl ?_
  refine mw_icmp_eq_k cx (tgt := 2021) (q := 2019) dL_law_2016 (by decide) rfl (fun _ => ?_) (fun h => absurd o1 h)
  refine mw_iload cx (q := 2023) 1 rfl dL_law_2021 rfl ?_
  refine mw_if_ne_k cx (tgt := 2038) (q := 2026) dL_law_2023 (by decide) rfl (fun _ => ?_) (fun h => ?_)
  · refine mw_goto cx (tgt := 2334) dL_law_2038 (by decide) ?_
    exact mw_sub [2, 3, 4, 5, 6] rfl (K _ _ _ o3 (by omega) (by omega))
  · refine mw_aload_n cx (q := 2027) 5 rfl rfl dL_law_2026 rfl ?_
    refine mw_iconst cx (q := 2028) (v := 0) dL_law_2027 rfl rfl ?_
    refine mw_lald cx (q := 2029) dL_law_2028 rfl ?_
    refine mw_iload cx (q := 2031) 0 rfl dL_law_2029 rfl ?_
    refine mw_i2l cx (q := 2032) dL_law_2031 rfl ?_
    refine mw_lcmp0 cx (q := 2033) (by rw [uW_ne _ _ (by decide), o2 h]) dL_law_2032 rfl ?_
    refine mw_if_eq_k cx (tgt := 2038) (q := 2036) dL_law_2033 (by decide) rfl (fun _ => ?_) (fun h => absurd rfl h)
    refine mw_goto cx (tgt := 2334) dL_law_2038 (by decide) ?_
    exact mw_sub [2, 3, 4, 5, 6] rfl (K _ _ _ o3 (by omega) (by omega))
theorem cv_LM_226 : CV RL 226 yX11_moves RX11 cX11_moves 1 (some .int) 0 := ⟨⟨BG_at 418 (by decide +kernel) (by decide +kernel), BG_at 419 (by decide +kernel) (by decide +kernel), BG_at 420 (by decide +kernel) (by decide +kernel), BG_at 80 (by decide +kernel) (by decide +kernel), BG_at 421 (by decide +kernel) (by decide +kernel)⟩, rfl, by decide, by decide, by decide +kernel⟩
theorem cv_LM_229 : CV RL 229 yX12_moves RX12 cX12_moves 1 (some .int) 0 := ⟨⟨BG_at 1750 (by decide +kernel) (by decide +kernel), BG_at 1751 (by decide +kernel) (by decide +kernel), BG_at 1752 (by decide +kernel) (by decide +kernel), BG_at 90 (by decide +kernel) (by decide +kernel), BG_at 1753 (by decide +kernel) (by decide +kernel)⟩, rfl, by decide, by decide, by decide +kernel⟩
set_option maxHeartbeats 1000000 in
theorem law_c30 (X : LwC p l s m meth c D ta ad b Ln xs) (hR : RW Lb M) (hLb : Lb ≤ 1000000) (hi : LwI Ln i) (hc : cells + 4 ≤ 601024 ∧ slots + 24 ≤ 7293034) (K : ∀ (M2 : Wm) (c2 s2 : Nat), RW (Lb + 1000) M2 → c2 ≤ cells + 4 → s2 ≤ slots + 24 → mw p l e room_1 s m #[Value.ref b] below meth c c2 s2 Q D ta ad 7 M2 2334 (lv0 ad b i) [] ()) : mw p l e room_1 s m #[Value.ref b] below meth c cells slots Q D ta ad 7 M 2041 (lv0 ad b i) [] () := by
  obtain ⟨cx, hzx, hcx, hX, hl⟩ := X
  unfold lv0 at K ⊢
  refine mw_aload_n cx (q := 2042) 1 rfl rfl dL_law_2041 rfl ?_
  obtain ⟨o1, o3⟩ := R_moves hR
  refine mx_callV cx hzx (q := 2045) (d := 8) (u0 := 0) (As := []) (z := fxi (f11_moves M)) (st := []) (st1 := [.int (f11_moves M).1.2]) (M' := M) (mc_X11_moves l hl D ta ad M) cv_LM_226 rfl rfl rfl vi_11_0 ⟨Nat.le_of_ble_eq_true rfl, Nat.le_of_ble_eq_true rfl⟩ ⟨by show cells + 0 ≤ 601024; omega, by show slots + 6 * 0 ≤ 7293034; omega⟩ (by simp) rfl rfl rfl dL_law_2042 rfl (fun h0 => absurd rfl h0) (fun _ => ?_)
  refine mw_aload_n cx (q := 2046) 2 rfl rfl dL_law_2045 rfl ?_
  refine mw_callV cx (q := 2049) (d := 0) (As := []) (z := fic M 12 (f12_moves (M 12))) (st := [.int (f11_moves M).1.2]) (st1 := [.int (f12_moves (M 12)).1, .int (f11_moves M).1.2]) (M' := uW M 12 (f12_moves (M 12)).2) (mc_X12_moves l D ta ad M) cv_LM_229 rfl rfl rfl vi_12_0 ⟨Nat.le_of_ble_eq_true rfl, Nat.le_of_ble_eq_true rfl⟩ ⟨by show cells + 0 ≤ 601024; omega, by show slots + 6 * 0 ≤ 7293034; omega⟩ (by simp [Value.category]) rfl rfl rfl dL_law_2046 rfl ?_
  refine mw_icmp_eq_k cx (tgt := 2334) (q := 2052) dL_law_2049 (by decide) rfl (fun _ => ?_) (fun h => absurd o1.symm h)
  exact mw_sub [0, 1, 2, 3, 4] rfl (K _ _ _ o3 (by omega) (by omega))
theorem cs_L_230 : CSh RL 230 yL_movedFrom cL_movedFrom 4 (some .int) [(0, 9, 12, 27)] 3 := ⟨⟨BG_at 1187 (by decide +kernel) (by decide +kernel), BG_at 1188 (by decide +kernel) (by decide +kernel), BG_at 79 (by decide +kernel) (by decide +kernel), BG_at 1189 (by decide +kernel) (by decide +kernel)⟩, by decide, by decide, by decide +kernel⟩
theorem cv_LM_232 : CV RL 232 yX12_movedFrom RX12 cX12_movedFrom 2 (some .int) 1 := ⟨⟨BG_at 1754 (by decide +kernel) (by decide +kernel), BG_at 1755 (by decide +kernel) (by decide +kernel), BG_at 1756 (by decide +kernel) (by decide +kernel), BG_at 90 (by decide +kernel) (by decide +kernel), BG_at 1757 (by decide +kernel) (by decide +kernel)⟩, rfl, by decide, by decide, by decide +kernel⟩
set_option maxHeartbeats 1000000 in
theorem law_c31 (X : LwC p l s m meth c D ta ad b Ln xs) (hR : RW Lb M) (hLb : Lb ≤ 1000000) (hi : LwI Ln i) (hc : cells + 4 ≤ 601024 ∧ slots + 24 ≤ 7293034) (K : ∀ (M2 : Wm) (c2 s2 : Nat), RW (Lb + 1000) M2 → c2 ≤ cells + 4 → s2 ≤ slots + 24 → mw p l e room_1 s m #[Value.ref b] below meth c c2 s2 Q D ta ad 7 M2 2334 (lv0 ad b i) [] ()) : mw p l e room_1 s m #[Value.ref b] below meth c cells slots Q D ta ad 7 M 2054 (lv0 ad b i) [] () := by
  obtain ⟨cx, hzx, hcx, hX, hl⟩ := X
  unfold lv0 at K ⊢
  obtain ⟨a1, ea1⟩ : ∃ y : Int32, y = xs (i + 1).toNatClampNeg := ⟨_, rfl⟩
  have v1 : vp_in (i + 1) Ln := hi.ix (k := 1) (by decide) (by decide)
  refine mw_aload_n cx (q := 2055) 1 rfl rfl dL_law_2054 rfl ?_
  refine mw_aload_n cx (q := 2056) 0 rfl rfl dL_law_2055 rfl ?_
  refine mw_iload cx (q := 2058) 4 rfl dL_law_2056 rfl ?_
  refine mw_iconst cx (q := 2059) (v := 1) dL_law_2058 rfl rfl ?_
  refine mw_iadd cx (q := 2060) dL_law_2059 rfl ?_
  refine mw_sldw cx hX (w := a1) (q := 2061) ea1 v1 dL_law_2060 rfl ?_
  refine mw_aload_n cx (q := 2062) 3 rfl rfl dL_law_2061 rfl ?_
  have hO := R_movedFrom (p1 := a1) hR
  have hM := mc_L_movedFrom l hl D ta ad M a1 hR.b.2.1.2 k_movedFrom
  have h0 := fw13_n (kfI 3 3) (f11_movedFrom M a1)
  unfold OpR at hO
  generalize hw : fw13 (kfI 3 3) (f11_movedFrom M a1) = w at hO hM h0
  obtain ⟨e12, o1, o2, o3⟩ := hO
  have hMC := mc_X12_movedFrom l D ta ad w.2 a1 (by rw [e12]; exact hR.k)
  dsimp only at o1 o2 o3
  generalize hr : f12_movedFrom (w.2 12) a1 = r at o1 o2 o3 hMC
  refine mh_callS cx hzx hcx (q := 2065) (d := 9) (u0 := 1) (As := [.ref (ad 11 0 0), .int a1, .ref (ad 13 0 0)]) (z := fxi w) (st := []) (st1 := [.int w.1.2]) (M' := w.2) hM cs_L_230 ⟨Nat.le_of_ble_eq_true rfl, Nat.le_of_ble_eq_true rfl⟩ ⟨by show cells + 1 ≤ 601024; omega, by show slots + 6 * 1 ≤ 7293034; omega⟩ (by simp) rfl h0 rfl rfl dL_law_2062 rfl ?_
  refine mw_istore cx (q := 2067) (lv' := [(5, .int w.1.2), (0, .ref b), (1, .ref (ad 11 0 0)), (2, .ref (ad 12 0 0)), (3, .ref (ad 13 0 0)), (4, .int i)]) rfl (by decide) dL_law_2065 rfl ?_
  refine mw_aload_n cx (q := 2068) 3 rfl rfl dL_law_2067 rfl ?_
  refine mw_aload_n cx (q := 2069) 1 rfl rfl dL_law_2068 rfl ?_
  refine mw_iload cx (q := 2071) 5 rfl dL_law_2069 rfl ?_
  refine mw_iconst cx (q := 2072) (v := 1) dL_law_2071 rfl rfl ?_
  refine mw_iadd cx (q := 2073) dL_law_2072 rfl ?_
  refine mw_sldw cx hX (w := a1) (q := 2074) ea1 v1 dL_law_2073 rfl ?_
  refine mw_callV cx (q := 2077) (d := 2) (As := [.int a1]) (z := fic w.2 12 r) (st := []) (st1 := [.int r.1]) (M' := uW w.2 12 r.2) hMC cv_LM_232 rfl rfl rfl vi_12_0 ⟨Nat.le_of_ble_eq_true rfl, Nat.le_of_ble_eq_true rfl⟩ ⟨by show cells + 1 ≤ 601024; omega, by show slots + 6 * 1 ≤ 7293034; omega⟩ (by simp) rfl rfl rfl dL_law_2074 rfl ?_
  refine mw_istore cx (q := 2079) (lv' := [(6, .int r.1), (5, .int w.1.2), (0, .ref b), (1, .ref (ad 11 0 0)), (2, .ref (ad 12 0 0)), (3, .ref (ad 13 0 0)), (4, .int i)]) rfl (by decide) dL_law_2077 rfl ?_
  refine mw_aload_n cx (q := 2080) 4 rfl rfl dL_law_2079 rfl ?_
  refine mw_callV cx (q := 2083) (d := 0) (As := []) (z := fip (uW w.2 12 r.2) (r.2 0 0 0)) (st := []) (st1 := [.int (r.2 0 0 0)]) (M' := uW w.2 12 r.2) (mc_X12_thrown l D ta ad (uW w.2 12 r.2)) cv_LM_129 rfl rfl rfl vi_12_0 ⟨Nat.le_of_ble_eq_true rfl, Nat.le_of_ble_eq_true rfl⟩ ⟨by show cells + 1 ≤ 601024; omega, by show slots + 6 * 1 ≤ 7293034; omega⟩ (by simp) rfl rfl rfl dL_law_2080 rfl ?_
  refine mw_iload cx (q := 2085) 1 rfl dL_law_2083 rfl ?_
  refine mw_icmp_eq_k cx (tgt := 2090) (q := 2088) dL_law_2085 (by decide) rfl (fun _ => ?_) (fun h => absurd o1 h)
  refine mw_iload cx (q := 2092) 1 rfl dL_law_2090 rfl ?_
  refine mw_if_ne_k cx (tgt := 2107) (q := 2095) dL_law_2092 (by decide) rfl (fun _ => ?_) (fun h => ?_)
  · refine mw_goto cx (tgt := 2334) dL_law_2107 (by decide) ?_
    exact mw_sub [2, 3, 4, 5, 6] rfl (K _ _ _ o3 (by omega) (by omega))
  · refine mw_aload_n cx (q := 2096) 5 rfl rfl dL_law_2095 rfl ?_
    refine mw_iconst cx (q := 2097) (v := 0) dL_law_2096 rfl rfl ?_
    refine mw_lald cx (q := 2098) dL_law_2097 rfl ?_
    refine mw_iload cx (q := 2100) 0 rfl dL_law_2098 rfl ?_
    refine mw_i2l cx (q := 2101) dL_law_2100 rfl ?_
    refine mw_lcmp0 cx (q := 2102) (by rw [uW_ne _ _ (by decide), o2 h]) dL_law_2101 rfl ?_
    refine mw_if_eq_k cx (tgt := 2107) (q := 2105) dL_law_2102 (by decide) rfl (fun _ => ?_) (fun h => absurd rfl h)
    refine mw_goto cx (tgt := 2334) dL_law_2107 (by decide) ?_
    exact mw_sub [2, 3, 4, 5, 6] rfl (K _ _ _ o3 (by omega) (by omega))
theorem cs_L_233 : CSh RL 233 yL_movedTo cL_movedTo 4 (some .int) [(0, 9, 12, 27)] 3 := ⟨⟨BG_at 1194 (by decide +kernel) (by decide +kernel), BG_at 1195 (by decide +kernel) (by decide +kernel), BG_at 79 (by decide +kernel) (by decide +kernel), BG_at 1196 (by decide +kernel) (by decide +kernel)⟩, by decide, by decide, by decide +kernel⟩
theorem cv_LM_235 : CV RL 235 yX12_movedTo RX12 cX12_movedTo 2 (some .int) 1 := ⟨⟨BG_at 1762 (by decide +kernel) (by decide +kernel), BG_at 1763 (by decide +kernel) (by decide +kernel), BG_at 1764 (by decide +kernel) (by decide +kernel), BG_at 90 (by decide +kernel) (by decide +kernel), BG_at 1765 (by decide +kernel) (by decide +kernel)⟩, rfl, by decide, by decide, by decide +kernel⟩
set_option maxHeartbeats 1000000 in
theorem law_c32 (X : LwC p l s m meth c D ta ad b Ln xs) (hR : RW Lb M) (hLb : Lb ≤ 1000000) (hi : LwI Ln i) (hc : cells + 4 ≤ 601024 ∧ slots + 24 ≤ 7293034) (K : ∀ (M2 : Wm) (c2 s2 : Nat), RW (Lb + 1000) M2 → c2 ≤ cells + 4 → s2 ≤ slots + 24 → mw p l e room_1 s m #[Value.ref b] below meth c c2 s2 Q D ta ad 7 M2 2334 (lv0 ad b i) [] ()) : mw p l e room_1 s m #[Value.ref b] below meth c cells slots Q D ta ad 7 M 2110 (lv0 ad b i) [] () := by
  obtain ⟨cx, hzx, hcx, hX, hl⟩ := X
  unfold lv0 at K ⊢
  obtain ⟨a1, ea1⟩ : ∃ y : Int32, y = xs (i + 1).toNatClampNeg := ⟨_, rfl⟩
  have v1 : vp_in (i + 1) Ln := hi.ix (k := 1) (by decide) (by decide)
  refine mw_aload_n cx (q := 2111) 1 rfl rfl dL_law_2110 rfl ?_
  refine mw_aload_n cx (q := 2112) 0 rfl rfl dL_law_2111 rfl ?_
  refine mw_iload cx (q := 2114) 4 rfl dL_law_2112 rfl ?_
  refine mw_iconst cx (q := 2115) (v := 1) dL_law_2114 rfl rfl ?_
  refine mw_iadd cx (q := 2116) dL_law_2115 rfl ?_
  refine mw_sldw cx hX (w := a1) (q := 2117) ea1 v1 dL_law_2116 rfl ?_
  refine mw_aload_n cx (q := 2118) 3 rfl rfl dL_law_2117 rfl ?_
  have hO := R_movedTo (p1 := a1) hR
  have hM := mc_L_movedTo l hl D ta ad M a1 hR.b.2.1.2 k_movedTo
  have h0 := fw13_n (kfI 3 3) (f11_movedTo M a1)
  unfold OpR at hO
  generalize hw : fw13 (kfI 3 3) (f11_movedTo M a1) = w at hO hM h0
  obtain ⟨e12, o1, o2, o3⟩ := hO
  have hMC := mc_X12_movedTo l D ta ad w.2 a1 (by rw [e12]; exact hR.k)
  dsimp only at o1 o2 o3
  generalize hr : f12_movedTo (w.2 12) a1 = r at o1 o2 o3 hMC
  refine mh_callS cx hzx hcx (q := 2121) (d := 9) (u0 := 1) (As := [.ref (ad 11 0 0), .int a1, .ref (ad 13 0 0)]) (z := fxi w) (st := []) (st1 := [.int w.1.2]) (M' := w.2) hM cs_L_233 ⟨Nat.le_of_ble_eq_true rfl, Nat.le_of_ble_eq_true rfl⟩ ⟨by show cells + 1 ≤ 601024; omega, by show slots + 6 * 1 ≤ 7293034; omega⟩ (by simp) rfl h0 rfl rfl dL_law_2118 rfl ?_
  refine mw_istore cx (q := 2123) (lv' := [(5, .int w.1.2), (0, .ref b), (1, .ref (ad 11 0 0)), (2, .ref (ad 12 0 0)), (3, .ref (ad 13 0 0)), (4, .int i)]) rfl (by decide) dL_law_2121 rfl ?_
  refine mw_aload_n cx (q := 2124) 3 rfl rfl dL_law_2123 rfl ?_
  refine mw_aload_n cx (q := 2125) 1 rfl rfl dL_law_2124 rfl ?_
  refine mw_iload cx (q := 2127) 5 rfl dL_law_2125 rfl ?_
  refine mw_iconst cx (q := 2128) (v := 1) dL_law_2127 rfl rfl ?_
  refine mw_iadd cx (q := 2129) dL_law_2128 rfl ?_
  refine mw_sldw cx hX (w := a1) (q := 2130) ea1 v1 dL_law_2129 rfl ?_
  refine mw_callV cx (q := 2133) (d := 2) (As := [.int a1]) (z := fic w.2 12 r) (st := []) (st1 := [.int r.1]) (M' := uW w.2 12 r.2) hMC cv_LM_235 rfl rfl rfl vi_12_0 ⟨Nat.le_of_ble_eq_true rfl, Nat.le_of_ble_eq_true rfl⟩ ⟨by show cells + 1 ≤ 601024; omega, by show slots + 6 * 1 ≤ 7293034; omega⟩ (by simp) rfl rfl rfl dL_law_2130 rfl ?_
  refine mw_istore cx (q := 2135) (lv' := [(6, .int r.1), (5, .int w.1.2), (0, .ref b), (1, .ref (ad 11 0 0)), (2, .ref (ad 12 0 0)), (3, .ref (ad 13 0 0)), (4, .int i)]) rfl (by decide) dL_law_2133 rfl ?_
  refine mw_aload_n cx (q := 2136) 4 rfl rfl dL_law_2135 rfl ?_
  refine mw_callV cx (q := 2139) (d := 0) (As := []) (z := fip (uW w.2 12 r.2) (r.2 0 0 0)) (st := []) (st1 := [.int (r.2 0 0 0)]) (M' := uW w.2 12 r.2) (mc_X12_thrown l D ta ad (uW w.2 12 r.2)) cv_LM_129 rfl rfl rfl vi_12_0 ⟨Nat.le_of_ble_eq_true rfl, Nat.le_of_ble_eq_true rfl⟩ ⟨by show cells + 1 ≤ 601024; omega, by show slots + 6 * 1 ≤ 7293034; omega⟩ (by simp) rfl rfl rfl dL_law_2136 rfl ?_
  refine mw_iload cx (q := 2141) 1 rfl dL_law_2139 rfl ?_
  refine mw_icmp_eq_k cx (tgt := 2146) (q := 2144) dL_law_2141 (by decide) rfl (fun _ => ?_) (fun h => absurd o1 h)
  refine mw_iload cx (q := 2148) 1 rfl dL_law_2146 rfl ?_
  refine mw_if_ne_k cx (tgt := 2163) (q := 2151) dL_law_2148 (by decide) rfl (fun _ => ?_) (fun h => ?_)
  · refine mw_goto cx (tgt := 2334) dL_law_2163 (by decide) ?_
    exact mw_sub [2, 3, 4, 5, 6] rfl (K _ _ _ o3 (by omega) (by omega))
  · refine mw_aload_n cx (q := 2152) 5 rfl rfl dL_law_2151 rfl ?_
    refine mw_iconst cx (q := 2153) (v := 0) dL_law_2152 rfl rfl ?_
    refine mw_lald cx (q := 2154) dL_law_2153 rfl ?_
    refine mw_iload cx (q := 2156) 0 rfl dL_law_2154 rfl ?_
    refine mw_i2l cx (q := 2157) dL_law_2156 rfl ?_
    refine mw_lcmp0 cx (q := 2158) (by rw [uW_ne _ _ (by decide), o2 h]) dL_law_2157 rfl ?_
    refine mw_if_eq_k cx (tgt := 2163) (q := 2161) dL_law_2158 (by decide) rfl (fun _ => ?_) (fun h => absurd rfl h)
    refine mw_goto cx (tgt := 2334) dL_law_2163 (by decide) ?_
    exact mw_sub [2, 3, 4, 5, 6] rfl (K _ _ _ o3 (by omega) (by omega))
theorem cs_L_236 : CSh RL 236 yL_movedGood cL_movedGood 4 (some .int) [(0, 9, 12, 27)] 3 := ⟨⟨BG_at 1201 (by decide +kernel) (by decide +kernel), BG_at 1202 (by decide +kernel) (by decide +kernel), BG_at 79 (by decide +kernel) (by decide +kernel), BG_at 1203 (by decide +kernel) (by decide +kernel)⟩, by decide, by decide, by decide +kernel⟩
theorem cv_LM_238 : CV RL 238 yX12_movedGood RX12 cX12_movedGood 2 (some .int) 1 := ⟨⟨BG_at 1766 (by decide +kernel) (by decide +kernel), BG_at 1767 (by decide +kernel) (by decide +kernel), BG_at 1768 (by decide +kernel) (by decide +kernel), BG_at 90 (by decide +kernel) (by decide +kernel), BG_at 1769 (by decide +kernel) (by decide +kernel)⟩, rfl, by decide, by decide, by decide +kernel⟩
set_option maxHeartbeats 1000000 in
theorem law_c33 (X : LwC p l s m meth c D ta ad b Ln xs) (hR : RW Lb M) (hLb : Lb ≤ 1000000) (hi : LwI Ln i) (hc : cells + 4 ≤ 601024 ∧ slots + 24 ≤ 7293034) (K : ∀ (M2 : Wm) (c2 s2 : Nat), RW (Lb + 1000) M2 → c2 ≤ cells + 4 → s2 ≤ slots + 24 → mw p l e room_1 s m #[Value.ref b] below meth c c2 s2 Q D ta ad 7 M2 2334 (lv0 ad b i) [] ()) : mw p l e room_1 s m #[Value.ref b] below meth c cells slots Q D ta ad 7 M 2166 (lv0 ad b i) [] () := by
  obtain ⟨cx, hzx, hcx, hX, hl⟩ := X
  unfold lv0 at K ⊢
  obtain ⟨a1, ea1⟩ : ∃ y : Int32, y = xs (i + 1).toNatClampNeg := ⟨_, rfl⟩
  have v1 : vp_in (i + 1) Ln := hi.ix (k := 1) (by decide) (by decide)
  refine mw_aload_n cx (q := 2167) 1 rfl rfl dL_law_2166 rfl ?_
  refine mw_aload_n cx (q := 2168) 0 rfl rfl dL_law_2167 rfl ?_
  refine mw_iload cx (q := 2170) 4 rfl dL_law_2168 rfl ?_
  refine mw_iconst cx (q := 2171) (v := 1) dL_law_2170 rfl rfl ?_
  refine mw_iadd cx (q := 2172) dL_law_2171 rfl ?_
  refine mw_sldw cx hX (w := a1) (q := 2173) ea1 v1 dL_law_2172 rfl ?_
  refine mw_aload_n cx (q := 2174) 3 rfl rfl dL_law_2173 rfl ?_
  have hO := R_movedGood (p1 := a1) hR
  have hM := mc_L_movedGood l hl D ta ad M a1 hR.b.2.1.2 k_movedGood
  have h0 := fw13_n (kfI 3 3) (f11_movedGood M a1)
  unfold OpR at hO
  generalize hw : fw13 (kfI 3 3) (f11_movedGood M a1) = w at hO hM h0
  obtain ⟨e12, o1, o2, o3⟩ := hO
  have hMC := mc_X12_movedGood l D ta ad w.2 a1 (by rw [e12]; exact hR.k)
  dsimp only at o1 o2 o3
  generalize hr : f12_movedGood (w.2 12) a1 = r at o1 o2 o3 hMC
  refine mh_callS cx hzx hcx (q := 2177) (d := 9) (u0 := 1) (As := [.ref (ad 11 0 0), .int a1, .ref (ad 13 0 0)]) (z := fxi w) (st := []) (st1 := [.int w.1.2]) (M' := w.2) hM cs_L_236 ⟨Nat.le_of_ble_eq_true rfl, Nat.le_of_ble_eq_true rfl⟩ ⟨by show cells + 1 ≤ 601024; omega, by show slots + 6 * 1 ≤ 7293034; omega⟩ (by simp) rfl h0 rfl rfl dL_law_2174 rfl ?_
  refine mw_istore cx (q := 2179) (lv' := [(5, .int w.1.2), (0, .ref b), (1, .ref (ad 11 0 0)), (2, .ref (ad 12 0 0)), (3, .ref (ad 13 0 0)), (4, .int i)]) rfl (by decide) dL_law_2177 rfl ?_
  refine mw_aload_n cx (q := 2180) 3 rfl rfl dL_law_2179 rfl ?_
  refine mw_aload_n cx (q := 2181) 1 rfl rfl dL_law_2180 rfl ?_
  refine mw_iload cx (q := 2183) 5 rfl dL_law_2181 rfl ?_
  refine mw_iconst cx (q := 2184) (v := 1) dL_law_2183 rfl rfl ?_
  refine mw_iadd cx (q := 2185) dL_law_2184 rfl ?_
  refine mw_sldw cx hX (w := a1) (q := 2186) ea1 v1 dL_law_2185 rfl ?_
  refine mw_callV cx (q := 2189) (d := 2) (As := [.int a1]) (z := fic w.2 12 r) (st := []) (st1 := [.int r.1]) (M' := uW w.2 12 r.2) hMC cv_LM_238 rfl rfl rfl vi_12_0 ⟨Nat.le_of_ble_eq_true rfl, Nat.le_of_ble_eq_true rfl⟩ ⟨by show cells + 1 ≤ 601024; omega, by show slots + 6 * 1 ≤ 7293034; omega⟩ (by simp) rfl rfl rfl dL_law_2186 rfl ?_
  refine mw_istore cx (q := 2191) (lv' := [(6, .int r.1), (5, .int w.1.2), (0, .ref b), (1, .ref (ad 11 0 0)), (2, .ref (ad 12 0 0)), (3, .ref (ad 13 0 0)), (4, .int i)]) rfl (by decide) dL_law_2189 rfl ?_
  refine mw_aload_n cx (q := 2192) 4 rfl rfl dL_law_2191 rfl ?_
  refine mw_callV cx (q := 2195) (d := 0) (As := []) (z := fip (uW w.2 12 r.2) (r.2 0 0 0)) (st := []) (st1 := [.int (r.2 0 0 0)]) (M' := uW w.2 12 r.2) (mc_X12_thrown l D ta ad (uW w.2 12 r.2)) cv_LM_129 rfl rfl rfl vi_12_0 ⟨Nat.le_of_ble_eq_true rfl, Nat.le_of_ble_eq_true rfl⟩ ⟨by show cells + 1 ≤ 601024; omega, by show slots + 6 * 1 ≤ 7293034; omega⟩ (by simp) rfl rfl rfl dL_law_2192 rfl ?_
  refine mw_iload cx (q := 2197) 1 rfl dL_law_2195 rfl ?_
  refine mw_icmp_eq_k cx (tgt := 2202) (q := 2200) dL_law_2197 (by decide) rfl (fun _ => ?_) (fun h => absurd o1 h)
  refine mw_iload cx (q := 2204) 1 rfl dL_law_2202 rfl ?_
  refine mw_if_ne_k cx (tgt := 2219) (q := 2207) dL_law_2204 (by decide) rfl (fun _ => ?_) (fun h => ?_)
  · refine mw_goto cx (tgt := 2334) dL_law_2219 (by decide) ?_
    exact mw_sub [2, 3, 4, 5, 6] rfl (K _ _ _ o3 (by omega) (by omega))
  · refine mw_aload_n cx (q := 2208) 5 rfl rfl dL_law_2207 rfl ?_
    refine mw_iconst cx (q := 2209) (v := 0) dL_law_2208 rfl rfl ?_
    refine mw_lald cx (q := 2210) dL_law_2209 rfl ?_
    refine mw_iload cx (q := 2212) 0 rfl dL_law_2210 rfl ?_
    refine mw_i2l cx (q := 2213) dL_law_2212 rfl ?_
    refine mw_lcmp0 cx (q := 2214) (by rw [uW_ne _ _ (by decide), o2 h]) dL_law_2213 rfl ?_
    refine mw_if_eq_k cx (tgt := 2219) (q := 2217) dL_law_2214 (by decide) rfl (fun _ => ?_) (fun h => absurd rfl h)
    refine mw_goto cx (tgt := 2334) dL_law_2219 (by decide) ?_
    exact mw_sub [2, 3, 4, 5, 6] rfl (K _ _ _ o3 (by omega) (by omega))
theorem cs_L_239 : CSh RL 239 yL_movedAmount cL_movedAmount 4 (some .int) [(0, 9, 12, 27)] 3 := ⟨⟨BG_at 1208 (by decide +kernel) (by decide +kernel), BG_at 1209 (by decide +kernel) (by decide +kernel), BG_at 79 (by decide +kernel) (by decide +kernel), BG_at 1210 (by decide +kernel) (by decide +kernel)⟩, by decide, by decide, by decide +kernel⟩
theorem cv_LM_241 : CV RL 241 yX12_movedAmount RX12 cX12_movedAmount 2 (some .int) 1 := ⟨⟨BG_at 1770 (by decide +kernel) (by decide +kernel), BG_at 1771 (by decide +kernel) (by decide +kernel), BG_at 1772 (by decide +kernel) (by decide +kernel), BG_at 90 (by decide +kernel) (by decide +kernel), BG_at 1773 (by decide +kernel) (by decide +kernel)⟩, rfl, by decide, by decide, by decide +kernel⟩
set_option maxHeartbeats 1000000 in
theorem law_c34 (X : LwC p l s m meth c D ta ad b Ln xs) (hR : RW Lb M) (hLb : Lb ≤ 1000000) (hi : LwI Ln i) (hc : cells + 4 ≤ 601024 ∧ slots + 24 ≤ 7293034) (K : ∀ (M2 : Wm) (c2 s2 : Nat), RW (Lb + 1000) M2 → c2 ≤ cells + 4 → s2 ≤ slots + 24 → mw p l e room_1 s m #[Value.ref b] below meth c c2 s2 Q D ta ad 7 M2 2334 (lv0 ad b i) [] ()) : mw p l e room_1 s m #[Value.ref b] below meth c cells slots Q D ta ad 7 M 2222 (lv0 ad b i) [] () := by
  obtain ⟨cx, hzx, hcx, hX, hl⟩ := X
  unfold lv0 at K ⊢
  obtain ⟨a1, ea1⟩ : ∃ y : Int32, y = xs (i + 1).toNatClampNeg := ⟨_, rfl⟩
  have v1 : vp_in (i + 1) Ln := hi.ix (k := 1) (by decide) (by decide)
  refine mw_aload_n cx (q := 2223) 1 rfl rfl dL_law_2222 rfl ?_
  refine mw_aload_n cx (q := 2224) 0 rfl rfl dL_law_2223 rfl ?_
  refine mw_iload cx (q := 2226) 4 rfl dL_law_2224 rfl ?_
  refine mw_iconst cx (q := 2227) (v := 1) dL_law_2226 rfl rfl ?_
  refine mw_iadd cx (q := 2228) dL_law_2227 rfl ?_
  refine mw_sldw cx hX (w := a1) (q := 2229) ea1 v1 dL_law_2228 rfl ?_
  refine mw_aload_n cx (q := 2230) 3 rfl rfl dL_law_2229 rfl ?_
  have hO := R_movedAmount (p1 := a1) hR
  have hM := mc_L_movedAmount l hl D ta ad M a1 hR.b.2.1.2 k_movedAmount
  have h0 := fw13_n (kfI 3 3) (f11_movedAmount M a1)
  unfold OpR at hO
  generalize hw : fw13 (kfI 3 3) (f11_movedAmount M a1) = w at hO hM h0
  obtain ⟨e12, o1, o2, o3⟩ := hO
  have hMC := mc_X12_movedAmount l D ta ad w.2 a1 (by rw [e12]; exact hR.k)
  dsimp only at o1 o2 o3
  generalize hr : f12_movedAmount (w.2 12) a1 = r at o1 o2 o3 hMC
  refine mh_callS cx hzx hcx (q := 2233) (d := 9) (u0 := 1) (As := [.ref (ad 11 0 0), .int a1, .ref (ad 13 0 0)]) (z := fxi w) (st := []) (st1 := [.int w.1.2]) (M' := w.2) hM cs_L_239 ⟨Nat.le_of_ble_eq_true rfl, Nat.le_of_ble_eq_true rfl⟩ ⟨by show cells + 1 ≤ 601024; omega, by show slots + 6 * 1 ≤ 7293034; omega⟩ (by simp) rfl h0 rfl rfl dL_law_2230 rfl ?_
  refine mw_istore cx (q := 2235) (lv' := [(5, .int w.1.2), (0, .ref b), (1, .ref (ad 11 0 0)), (2, .ref (ad 12 0 0)), (3, .ref (ad 13 0 0)), (4, .int i)]) rfl (by decide) dL_law_2233 rfl ?_
  refine mw_aload_n cx (q := 2236) 3 rfl rfl dL_law_2235 rfl ?_
  refine mw_aload_n cx (q := 2237) 1 rfl rfl dL_law_2236 rfl ?_
  refine mw_iload cx (q := 2239) 5 rfl dL_law_2237 rfl ?_
  refine mw_iconst cx (q := 2240) (v := 1) dL_law_2239 rfl rfl ?_
  refine mw_iadd cx (q := 2241) dL_law_2240 rfl ?_
  refine mw_sldw cx hX (w := a1) (q := 2242) ea1 v1 dL_law_2241 rfl ?_
  refine mw_callV cx (q := 2245) (d := 2) (As := [.int a1]) (z := fic w.2 12 r) (st := []) (st1 := [.int r.1]) (M' := uW w.2 12 r.2) hMC cv_LM_241 rfl rfl rfl vi_12_0 ⟨Nat.le_of_ble_eq_true rfl, Nat.le_of_ble_eq_true rfl⟩ ⟨by show cells + 1 ≤ 601024; omega, by show slots + 6 * 1 ≤ 7293034; omega⟩ (by simp) rfl rfl rfl dL_law_2242 rfl ?_
  refine mw_istore cx (q := 2247) (lv' := [(6, .int r.1), (5, .int w.1.2), (0, .ref b), (1, .ref (ad 11 0 0)), (2, .ref (ad 12 0 0)), (3, .ref (ad 13 0 0)), (4, .int i)]) rfl (by decide) dL_law_2245 rfl ?_
  refine mw_aload_n cx (q := 2248) 4 rfl rfl dL_law_2247 rfl ?_
  refine mw_callV cx (q := 2251) (d := 0) (As := []) (z := fip (uW w.2 12 r.2) (r.2 0 0 0)) (st := []) (st1 := [.int (r.2 0 0 0)]) (M' := uW w.2 12 r.2) (mc_X12_thrown l D ta ad (uW w.2 12 r.2)) cv_LM_129 rfl rfl rfl vi_12_0 ⟨Nat.le_of_ble_eq_true rfl, Nat.le_of_ble_eq_true rfl⟩ ⟨by show cells + 1 ≤ 601024; omega, by show slots + 6 * 1 ≤ 7293034; omega⟩ (by simp) rfl rfl rfl dL_law_2248 rfl ?_
  refine mw_iload cx (q := 2253) 1 rfl dL_law_2251 rfl ?_
  refine mw_icmp_eq_k cx (tgt := 2258) (q := 2256) dL_law_2253 (by decide) rfl (fun _ => ?_) (fun h => absurd o1 h)
  refine mw_iload cx (q := 2260) 1 rfl dL_law_2258 rfl ?_
  refine mw_if_ne_k cx (tgt := 2275) (q := 2263) dL_law_2260 (by decide) rfl (fun _ => ?_) (fun h => ?_)
  · refine mw_goto cx (tgt := 2334) dL_law_2275 (by decide) ?_
    exact mw_sub [2, 3, 4, 5, 6] rfl (K _ _ _ o3 (by omega) (by omega))
  · refine mw_aload_n cx (q := 2264) 5 rfl rfl dL_law_2263 rfl ?_
    refine mw_iconst cx (q := 2265) (v := 0) dL_law_2264 rfl rfl ?_
    refine mw_lald cx (q := 2266) dL_law_2265 rfl ?_
    refine mw_iload cx (q := 2268) 0 rfl dL_law_2266 rfl ?_
    refine mw_i2l cx (q := 2269) dL_law_2268 rfl ?_
    refine mw_lcmp0 cx (q := 2270) (by rw [uW_ne _ _ (by decide), o2 h]) dL_law_2269 rfl ?_
    refine mw_if_eq_k cx (tgt := 2275) (q := 2273) dL_law_2270 (by decide) rfl (fun _ => ?_) (fun h => absurd rfl h)
    refine mw_goto cx (tgt := 2334) dL_law_2275 (by decide) ?_
    exact mw_sub [2, 3, 4, 5, 6] rfl (K _ _ _ o3 (by omega) (by omega))
theorem cs_L_242 : CSh RL 242 yL_movedBy cL_movedBy 4 (some .int) [(0, 9, 12, 27)] 3 := ⟨⟨BG_at 1215 (by decide +kernel) (by decide +kernel), BG_at 1216 (by decide +kernel) (by decide +kernel), BG_at 79 (by decide +kernel) (by decide +kernel), BG_at 1217 (by decide +kernel) (by decide +kernel)⟩, by decide, by decide, by decide +kernel⟩
theorem cv_LM_244 : CV RL 244 yX12_movedBy RX12 cX12_movedBy 2 (some .int) 1 := ⟨⟨BG_at 1774 (by decide +kernel) (by decide +kernel), BG_at 1775 (by decide +kernel) (by decide +kernel), BG_at 1776 (by decide +kernel) (by decide +kernel), BG_at 90 (by decide +kernel) (by decide +kernel), BG_at 1777 (by decide +kernel) (by decide +kernel)⟩, rfl, by decide, by decide, by decide +kernel⟩
set_option maxHeartbeats 1000000 in
theorem law_c35 (X : LwC p l s m meth c D ta ad b Ln xs) (hR : RW Lb M) (hLb : Lb ≤ 1000000) (hi : LwI Ln i) (hc : cells + 4 ≤ 601024 ∧ slots + 24 ≤ 7293034) (K : ∀ (M2 : Wm) (c2 s2 : Nat), RW (Lb + 1000) M2 → c2 ≤ cells + 4 → s2 ≤ slots + 24 → mw p l e room_1 s m #[Value.ref b] below meth c c2 s2 Q D ta ad 7 M2 2334 (lv0 ad b i) [] ()) : mw p l e room_1 s m #[Value.ref b] below meth c cells slots Q D ta ad 7 M 2278 (lv0 ad b i) [] () := by
  obtain ⟨cx, hzx, hcx, hX, hl⟩ := X
  unfold lv0 at K ⊢
  obtain ⟨a1, ea1⟩ : ∃ y : Int32, y = xs (i + 1).toNatClampNeg := ⟨_, rfl⟩
  have v1 : vp_in (i + 1) Ln := hi.ix (k := 1) (by decide) (by decide)
  refine mw_aload_n cx (q := 2279) 1 rfl rfl dL_law_2278 rfl ?_
  refine mw_aload_n cx (q := 2280) 0 rfl rfl dL_law_2279 rfl ?_
  refine mw_iload cx (q := 2282) 4 rfl dL_law_2280 rfl ?_
  refine mw_iconst cx (q := 2283) (v := 1) dL_law_2282 rfl rfl ?_
  refine mw_iadd cx (q := 2284) dL_law_2283 rfl ?_
  refine mw_sldw cx hX (w := a1) (q := 2285) ea1 v1 dL_law_2284 rfl ?_
  refine mw_aload_n cx (q := 2286) 3 rfl rfl dL_law_2285 rfl ?_
  have hO := R_movedBy (p1 := a1) hR
  have hM := mc_L_movedBy l hl D ta ad M a1 hR.b.2.1.2 k_movedBy
  have h0 := fw13_n (kfI 3 3) (f11_movedBy M a1)
  unfold OpR at hO
  generalize hw : fw13 (kfI 3 3) (f11_movedBy M a1) = w at hO hM h0
  obtain ⟨e12, o1, o2, o3⟩ := hO
  have hMC := mc_X12_movedBy l D ta ad w.2 a1 (by rw [e12]; exact hR.k)
  dsimp only at o1 o2 o3
  generalize hr : f12_movedBy (w.2 12) a1 = r at o1 o2 o3 hMC
  refine mh_callS cx hzx hcx (q := 2289) (d := 9) (u0 := 1) (As := [.ref (ad 11 0 0), .int a1, .ref (ad 13 0 0)]) (z := fxi w) (st := []) (st1 := [.int w.1.2]) (M' := w.2) hM cs_L_242 ⟨Nat.le_of_ble_eq_true rfl, Nat.le_of_ble_eq_true rfl⟩ ⟨by show cells + 1 ≤ 601024; omega, by show slots + 6 * 1 ≤ 7293034; omega⟩ (by simp) rfl h0 rfl rfl dL_law_2286 rfl ?_
  refine mw_istore cx (q := 2291) (lv' := [(5, .int w.1.2), (0, .ref b), (1, .ref (ad 11 0 0)), (2, .ref (ad 12 0 0)), (3, .ref (ad 13 0 0)), (4, .int i)]) rfl (by decide) dL_law_2289 rfl ?_
  refine mw_aload_n cx (q := 2292) 3 rfl rfl dL_law_2291 rfl ?_
  refine mw_aload_n cx (q := 2293) 1 rfl rfl dL_law_2292 rfl ?_
  refine mw_iload cx (q := 2295) 5 rfl dL_law_2293 rfl ?_
  refine mw_iconst cx (q := 2296) (v := 1) dL_law_2295 rfl rfl ?_
  refine mw_iadd cx (q := 2297) dL_law_2296 rfl ?_
  refine mw_sldw cx hX (w := a1) (q := 2298) ea1 v1 dL_law_2297 rfl ?_
  refine mw_callV cx (q := 2301) (d := 2) (As := [.int a1]) (z := fic w.2 12 r) (st := []) (st1 := [.int r.1]) (M' := uW w.2 12 r.2) hMC cv_LM_244 rfl rfl rfl vi_12_0 ⟨Nat.le_of_ble_eq_true rfl, Nat.le_of_ble_eq_true rfl⟩ ⟨by show cells + 1 ≤ 601024; omega, by show slots + 6 * 1 ≤ 7293034; omega⟩ (by simp) rfl rfl rfl dL_law_2298 rfl ?_
  refine mw_istore cx (q := 2303) (lv' := [(6, .int r.1), (5, .int w.1.2), (0, .ref b), (1, .ref (ad 11 0 0)), (2, .ref (ad 12 0 0)), (3, .ref (ad 13 0 0)), (4, .int i)]) rfl (by decide) dL_law_2301 rfl ?_
  refine mw_aload_n cx (q := 2304) 4 rfl rfl dL_law_2303 rfl ?_
  refine mw_callV cx (q := 2307) (d := 0) (As := []) (z := fip (uW w.2 12 r.2) (r.2 0 0 0)) (st := []) (st1 := [.int (r.2 0 0 0)]) (M' := uW w.2 12 r.2) (mc_X12_thrown l D ta ad (uW w.2 12 r.2)) cv_LM_129 rfl rfl rfl vi_12_0 ⟨Nat.le_of_ble_eq_true rfl, Nat.le_of_ble_eq_true rfl⟩ ⟨by show cells + 1 ≤ 601024; omega, by show slots + 6 * 1 ≤ 7293034; omega⟩ (by simp) rfl rfl rfl dL_law_2304 rfl ?_
  refine mw_iload cx (q := 2309) 1 rfl dL_law_2307 rfl ?_
  refine mw_icmp_eq_k cx (tgt := 2314) (q := 2312) dL_law_2309 (by decide) rfl (fun _ => ?_) (fun h => absurd o1 h)
  refine mw_iload cx (q := 2316) 1 rfl dL_law_2314 rfl ?_
  refine mw_if_ne_k cx (tgt := 2331) (q := 2319) dL_law_2316 (by decide) rfl (fun _ => ?_) (fun h => ?_)
  · refine mw_goto cx (tgt := 2334) dL_law_2331 (by decide) ?_
    exact mw_sub [2, 3, 4, 5, 6] rfl (K _ _ _ o3 (by omega) (by omega))
  · refine mw_aload_n cx (q := 2320) 5 rfl rfl dL_law_2319 rfl ?_
    refine mw_iconst cx (q := 2321) (v := 0) dL_law_2320 rfl rfl ?_
    refine mw_lald cx (q := 2322) dL_law_2321 rfl ?_
    refine mw_iload cx (q := 2324) 0 rfl dL_law_2322 rfl ?_
    refine mw_i2l cx (q := 2325) dL_law_2324 rfl ?_
    refine mw_lcmp0 cx (q := 2326) (by rw [uW_ne _ _ (by decide), o2 h]) dL_law_2325 rfl ?_
    refine mw_if_eq_k cx (tgt := 2331) (q := 2329) dL_law_2326 (by decide) rfl (fun _ => ?_) (fun h => absurd rfl h)
    refine mw_goto cx (tgt := 2334) dL_law_2331 (by decide) ?_
    exact mw_sub [2, 3, 4, 5, 6] rfl (K _ _ _ o3 (by omega) (by omega))
end LAW
