/-! The law's first bytes -/
theorem ci_L_175 : CI RL 175 yX11_init cX11_init 1 0 := ⟨⟨BG_at 62 (by decide +kernel) (by decide +kernel), BG_at 63 (by decide +kernel) (by decide +kernel), BG_at 36 (by decide +kernel) (by decide +kernel), BG_at 64 (by decide +kernel) (by decide +kernel)⟩, rfl, by decide, by decide, by decide +kernel⟩
section WALK
variable {p : Program} {l : Launch} {e : Env} {s : State} {m : MethodId} {below : List Frame} {meth : Method} {c : Code} {Q : State → Prop} {D : va_G} {ta : wTa} {bs : Nat} {b : Nat}
def Lw1 (ta : wTa) (bs : Nat) : List va_E := [aI ta 8, .inr (9, [.ref (bs + 2), .ref (bs + 9), .ref (bs + 16), .ref (bs + 30), .ref (bs + 43), .ref (bs + 105)]), .inr (8, [.ref (bs + 3), .ref (bs + 4), .ref (bs + 5), .ref (bs + 6), .ref (bs + 7), .ref (bs + 8)]), aI ta 968, aI ta 968, aI ta 968, aI ta 968, aI ta 968, aI ta 968, .inr (7, [.ref (bs + 10), .ref (bs + 11), .ref (bs + 12), .ref (bs + 13), .ref (bs + 14)]), aI ta 960, aI ta 8, aI ta 8, aZ ta 8, .inr (5, [.ref (bs + 2), .ref (bs + 15), .int 0, .int 0, .int 0, .int 0, .int 0]), aI ta 21, .inr (4, [.ref (bs + 17), .ref (bs + 18), .ref (bs + 19), .ref (bs + 20), .ref (bs + 25), .int 10]), aI ta 4, aI ta 4, aZ ta 4, aR ta 2 4 (bs + 21), aI ta 4, aI ta 4, aI ta 4, aI ta 4, aR ta 2 4 (bs + 26), aI ta 4, aI ta 4, aI ta 4, aI ta 4, .inr (0, [.ref (bs + 31), .ref (bs + 37), .ref (bs + 38), .ref (bs + 39), .ref (bs + 40), .ref (bs + 41), .ref (bs + 42), .int 0]), aR ta 2 5 (bs + 32), aI ta 8, aI ta 8, aI ta 8, aI ta 8, aI ta 8, aI ta 8, aI ta 3000, aI ta 3000, aI ta 3000, aI ta 3000, aI ta 3000, .inr (3, [.ref (bs + 44), .int 0, .int 0]), aR ta 3 60 (bs + 45), oOrd, oOrd, oOrd, oOrd, oOrd, oOrd, oOrd, oOrd, oOrd, oOrd, oOrd, oOrd, oOrd, oOrd, oOrd, oOrd, oOrd, oOrd, oOrd, oOrd, oOrd, oOrd, oOrd, oOrd, oOrd, oOrd, oOrd, oOrd, oOrd, oOrd, oOrd, oOrd, oOrd, oOrd, oOrd, oOrd, oOrd, oOrd, oOrd, oOrd, oOrd, oOrd, oOrd, oOrd, oOrd, oOrd, oOrd, oOrd, oOrd, oOrd, oOrd, oOrd, oOrd, oOrd, oOrd, oOrd, oOrd, oOrd, oOrd, oOrd, .inr (6, [.ref (bs + 2), .ref (bs + 9), .ref (bs + 16), .ref (bs + 30), .ref (bs + 43), .ref (bs + 106), .int 0, .int 0, .int 0, .int 0, .int 0]), .inr (1, [.ref (bs + 107), .ref (bs + 108), .int 0, .int 0, .ref (bs + 109), .ref (bs + 110), .int 0]), aI ta 90, aI ta 90, aI ta 8, aI ta 8]
set_option maxHeartbeats 4000000 in
set_option maxRecDepth 100000 in
theorem law_first (cx : GCx p s m #[Value.ref b] meth c D ta bs RL cL_law 8) (K : gw p l e room_1 s m #[Value.ref b] below meth c 221 45554 Q D bs 8 (Lw ta bs) 24 [(4, .int 0), (3, .ref (bs + 111)), (2, .ref (bs + 1)), (1, .ref (bs + 0)), (0, .ref b)] []) : gw p l e room_1 s m #[Value.ref b] below meth c 0 0 Q D bs 8 [] 0 [(0, .ref b)] [] := by
  refine g_bipush cx (q := 2) (v := 8) dL_law_0 rfl rfl ?_
  refine g_newa cx (q := 4) (t0 := 0) (N := 8) (ty := .int) (a0 := (8, .inl (fun _ => 0))) rfl w_arrI rfl ra_int (fun _ => rfl) (by decide) (by decide) (by decide) ⟨Nat.le_of_ble_eq_true rfl, Nat.le_of_ble_eq_true rfl⟩ dL_law_2 rfl ?_
  refine g_eqL (L' := [aI ta 8]) rfl ?_
  refine g_astore_n cx (q := 5) (lv' := [(1, .ref (bs + 0)), (0, .ref b)]) rfl rfl (by decide) dL_law_4 rfl ?_
  refine g_new cx (q := 8) (C := RX11) (T := TX11) (N := 6) (ci := 9) (fs := fs11) inB_X11 tyX11 tyX11_ok (BG_at 60 (by decide +kernel) (by decide +kernel)) (BG_at 61 (by decide +kernel) (by decide +kernel)) (BG_at 36 (by decide +kernel) (by decide +kernel)) rfl fs11_ok ⟨Nat.le_of_ble_eq_true rfl, Nat.le_of_ble_eq_true rfl⟩ dL_law_5 rfl ?_
  refine g_dup cx (q := 9) dL_law_8 rfl rfl ?_
  refine g_call cx (q := 12) (a := bs + 1) (As := []) (gc_X11 l D ta bs (L0 := [aI ta 8, .inr (9, fs11)]) (j0 := 1) (k := 2) rfl rfl) ci_L_175 ⟨Nat.le_of_ble_eq_true rfl, Nat.le_of_ble_eq_true rfl⟩ ⟨Nat.le_of_ble_eq_true rfl, Nat.le_of_ble_eq_true rfl⟩ (by simp [Value.category]) rfl dL_law_9 rfl ?_
  refine g_eqL (L' := Lw1 ta bs) rfl ?_
  refine g_astore_n cx (q := 13) (lv' := [(2, .ref (bs + 1)), (1, .ref (bs + 0)), (0, .ref b)]) rfl rfl (by decide) dL_law_12 rfl ?_
  refine g_new cx (q := 16) (C := RX11) (T := TX11) (N := 6) (ci := 9) (fs := fs11) inB_X11 tyX11 tyX11_ok (BG_at 60 (by decide +kernel) (by decide +kernel)) (BG_at 61 (by decide +kernel) (by decide +kernel)) (BG_at 36 (by decide +kernel) (by decide +kernel)) rfl fs11_ok ⟨Nat.le_of_ble_eq_true rfl, Nat.le_of_ble_eq_true rfl⟩ dL_law_13 rfl ?_
  refine g_dup cx (q := 17) dL_law_16 rfl rfl ?_
  refine g_call cx (q := 20) (a := bs + 111) (As := []) (gc_X11 l D ta bs (L0 := Lw1 ta bs ++ [.inr (9, fs11)]) (j0 := 111) (k := 112) rfl rfl) ci_L_175 ⟨Nat.le_of_ble_eq_true rfl, Nat.le_of_ble_eq_true rfl⟩ ⟨Nat.le_of_ble_eq_true rfl, Nat.le_of_ble_eq_true rfl⟩ (by simp [Value.category]) rfl dL_law_17 rfl ?_
  refine g_eqL (L' := Lw ta bs) rfl ?_
  refine g_astore_n cx (q := 21) (lv' := [(3, .ref (bs + 111)), (2, .ref (bs + 1)), (1, .ref (bs + 0)), (0, .ref b)]) rfl rfl (by decide) dL_law_20 rfl ?_
  refine g_iconst cx (q := 22) (v := 0) dL_law_21 rfl rfl ?_
  refine g_istore cx (q := 24) (lv' := [(4, .int 0), (3, .ref (bs + 111)), (2, .ref (bs + 1)), (1, .ref (bs + 0)), (0, .ref b)]) rfl (by decide) dL_law_22 rfl ?_
  exact K
end WALK
