def PR {α : Type} (P : Cm → Prop) (r : α × Cm) : Prop := P r.2
theorem buyFuel_lp_P {P : Cm → Prop} (h6 : ∀ (m : Cm) (j x : Int32), P m → P (u3 m 6 0 j x)) (h7 : ∀ (m : Cm) (j x : Int32), P m → P (u3 m 7 0 j x)) (a v : Int32) : ∀ (k : Nat) (x : Int32 × Int32 × Cm), P x.2.2 → PR P (f12_buyFuel_lp35 a v k x) := by
  intro k
  induction k with
  | zero => intro x h; exact h
  | succ k ih =>
    intro x h
    rw [f12_buyFuel_lp35_s]
    by_cases c : 4 ≤ x.1
    · rw [if_pos c]; exact h
    · rw [if_neg c]
      refine bnd_I (P := PR P) (fun v8 _ => jn_I (P := PR P) (fun K hK => ?_) (fun v9 => bnd_I (P := PR P) (fun m1 e1 => bnd_I (P := PR P) (fun m2 e2 => bnd_I (P := PR P) (fun m3 e3 => bnd_I (P := PR P) (fun v15 _ => bnd_I (P := PR P) (fun v16 _ => ?_)))))))
      · split <;> exact hK _
      · refine ih _ ?_
        show P m3
        rw [e3, e2, e1]
        exact h6 _ _ _ (h6 _ _ _ (h7 _ _ _ h))
theorem buyFuel_P {P : Cm → Prop} (h5 : ∀ (m : Cm) (j x : Int32), P m → P (u3 m 5 0 j x)) (h6 : ∀ (m : Cm) (j x : Int32), P m → P (u3 m 6 0 j x)) (h7 : ∀ (m : Cm) (j x : Int32), P m → P (u3 m 7 0 j x)) {m : Cm} (h : P m) (a b : Int32) : PR P (f12_buyFuel m a b) := by
  unfold f12_buyFuel
  refine bnd_I (P := PR P) (fun v1 _ => bnd_I (P := PR P) (fun v2 _ => bnd_I (P := PR P) (fun m3 e3 => bnd_I (P := PR P) (fun m4 e4 => ?_))))
  refine buyFuel_lp_P h6 h7 _ _ _ _ ?_
  show P m4
  rw [e4, e3]
  exact h6 _ _ _ (h5 _ _ _ h)
theorem takesFuel_P {P : Cm → Prop} (h5 : ∀ (m : Cm) (j x : Int32), P m → P (u3 m 5 0 j x)) (h6 : ∀ (m : Cm) (j x : Int32), P m → P (u3 m 6 0 j x)) (h7 : ∀ (m : Cm) (j x : Int32), P m → P (u3 m 7 0 j x)) (h21 : ∀ (m : Cm) (j x : Int32), P m → P (u3 m 21 0 j x)) (h0 : ∀ (m : Cm) (x : Int32), P m → P (u3 m 0 0 58 x)) {m : Cm} (h : P m) : P (f12_takesFuel m).2 := by
  unfold f12_takesFuel
  split
  · exact h
  · refine jn_I' (Q := P) (P := fun r : Bool × Cm => P r.2) (fun K hK => ?_) (fun v2 hv => ?_)
    · split
      · split
        · exact hK _ h
        · split
          · exact hK _ h
          · exact bnd_I (P := fun r : Bool × Cm => P r.2) (fun r e => hK _ (by rw [e]; exact buyFuel_P h5 h6 h7 h _ _))
      · exact hK _ h
    · split
      · refine bnd_I (P := fun r : Bool × Cm => P r.2) (fun r e => ?_)
        split
        · exact hv
        · exact h21 _ _ _ (h0 _ _ (h7 _ _ _ (h6 _ _ _ hv)))
      · exact h21 _ _ _ (h0 _ _ (h6 _ _ _ hv))
theorem okT_f12_takesFuel {m0 m : Cm} (h : OkT m0 m) : OkT m0 (f12_takesFuel m).2 :=
  takesFuel_P (P := OkT m0) (fun m j x h => okT_putA h (by decide)) (fun m j x h => okT_putA h (by decide)) (fun m j x h => okT_putA h (by decide)) (fun m j x h => okT_putA h (by decide)) (fun m x h => okT_put0 h (by decide)) h
theorem takesFuel_g (m : Cm) {g : Nat} (a0 : ¬ g = 0) (a5 : ¬ g = 5) (a6 : ¬ g = 6) (a7 : ¬ g = 7) (a21 : ¬ g = 21) : (f12_takesFuel m).2 g = m g :=
  takesFuel_P (P := fun m' => m' g = m g) (fun m j x h => by rw [u3_ne _ _ _ a5]; exact h) (fun m j x h => by rw [u3_ne _ _ _ a6]; exact h) (fun m j x h => by rw [u3_ne _ _ _ a7]; exact h) (fun m j x h => by rw [u3_ne _ _ _ a21]; exact h) (fun m x h => by rw [u3_ne _ _ _ a0]; exact h) rfl
theorem takesFuel_s (m : Cm) {k : Int32} (hk : ¬ k = 58) : (f12_takesFuel m).2 0 0 k = m 0 0 k :=
  takesFuel_P (P := fun m' => m' 0 0 k = m 0 0 k) (fun m j x h => by rw [u3_ne _ _ _ (by decide)]; exact h) (fun m j x h => by rw [u3_ne _ _ _ (by decide)]; exact h) (fun m j x h => by rw [u3_ne _ _ _ (by decide)]; exact h) (fun m j x h => by rw [u3_ne _ _ _ (by decide)]; exact h) (fun m x h => by rw [u3_s hk]; exact h) rfl
theorem Ct12.fr {m m' : Cm} (h : Ct12 m) (a : m' 28 = m 28) (b : m' 29 = m 29) (c : m' 30 = m 30) : Ct12 m' := by
  unfold Ct12; rw [a, b, c]; exact h
def f12_enter (m : Cm) : Cm := bnd (f12_signAt m (m 0 0 60) (m 0 0 61)) (fun (r1 : Int32) => bnd (u3 m 0 0 59 0) (fun (m2 : Cm) => bnd (f12_takesFuel m2) (fun (r4 : Bool × Cm) => if r4.1 = true then if (r4.2 0 0 45) < 30 then if r1 = 40 then bnd (f12_open r4.2) (fun (r16 : Cm) => r16) else bnd (f12_isLetter r1) (fun (r9 : Bool) => if r9 = true then bnd (f12_nameAt r4.2 (r4.2 0 0 60) (r4.2 0 0 61)) (fun (r14 : Int32) => bnd (f12_valueName r4.2 r14) (fun (r15 : Cm) => r15)) else bnd (f12_numberAt r4.2 (r4.2 0 0 60) (r4.2 0 0 61)) (fun (r11 : Int32) => bnd (u3 r4.2 0 0 62 r11) (fun (m12 : Cm) => m12))) else bnd (u3 r4.2 0 0 63 2) (fun (m17 : Cm) => m17) else bnd (u3 r4.2 0 0 63 7) (fun (m19 : Cm) => m19))))
set_option maxHeartbeats 4000000 in
set_option maxRecDepth 100000 in
theorem mc_X12_enter (l : Launch) (D : va_G) (ta : wTa) (ad : wAd) (M : Wm) (hok : Ok12 (M 12)) (hT : Tx12 (M 12) ((M 12) 0 0 60)) (hI : Ix12 (M 12) ((M 12) 0 0 60) ((M 12) 0 0 61)) (hC : Ct12 (M 12)) (htop : ((M 12) 0 0 45).toInt < 30 → ((M 12) 0 0 49).toInt ≤ 97) : MC l D ta ad yX12_enter cX12_enter 2 none 8 [.ref (ad 12 0 0)] M (fvc M 12 (f12_enter (M 12))) := by
  refine MC.of (fvc M 12) (f12_enter (M 12)) rfl (by decide) (Nat.le_of_ble_eq_true rfl) (fun p e s m args below meth c cx hr => ?_)
  unfold f12_enter
  refine mw_sub (lv' := [(0, .ref (ad 12 0 0))]) [0] rfl ?_
  refine mw_eqM (uW_self M 12) ?_
  have u_scr : vp_in ((M 12) 0 0 60) 8 := hok.scr
  have ok0 : OkT (M 12) (M 12) := ⟨hok, rfl, rfl⟩
  refine mw_aload_n cx (q := 1) 0 rfl rfl dX12_enter_0 rfl ?_
  refine mw_aload_n cx (q := 2) 0 rfl rfl dX12_enter_1 rfl ?_
  refine mw_get cx (q := 5) (v := .int ((M 12) 0 0 60)) gf_X12_242 rfl rfl vi_12_0 dX12_enter_2 rfl ?_
  refine mw_aload_n cx (q := 6) 0 rfl rfl dX12_enter_5 rfl ?_
  refine mw_get cx (q := 9) (v := .int ((M 12) 0 0 61)) gf_X12_245 rfl rfl vi_12_0 dX12_enter_6 rfl ?_
  refine mw_bnd (fun r1 er1 => ?_)
  refine mw_callV cx (q := 12) (d := 0) (As := [.int ((M 12) 0 0 60), .int ((M 12) 0 0 61)]) (z := fip (uW M 12 (M 12)) r1) (st := []) (st1 := [.int r1]) (M' := (uW M 12 (M 12))) (by rw [er1]; exact mc_X12_signAt l D ta ad (uW M 12 (M 12)) ((M 12) 0 0 60) ((M 12) 0 0 61) u_scr (ok0.1) (hI.1)) cv_X12_184 rfl rfl rfl vi_12_0 ⟨Nat.le_of_ble_eq_true rfl, Nat.le_of_ble_eq_true rfl⟩ ⟨Nat.le_refl _, Nat.le_refl _⟩ (by simp [Value.category]) rfl rfl rfl dX12_enter_9 rfl ?_
  refine mw_istore_n cx (q := 13) (lv' := [(1, .int r1), (0, .ref (ad 12 0 0))]) rfl rfl (by decide) dX12_enter_12 rfl ?_
  refine mw_aload_n cx (q := 14) 1 rfl rfl dX12_enter_13 rfl ?_
  refine mw_iconst cx (q := 15) (v := 0) dX12_enter_14 rfl rfl ?_
  refine mw_putC cx (q := 18) 59 gf_X12_238 pf_X12_59 (by exact ⟨rfl, rfl⟩) rfl (Nat.le_of_ble_eq_true rfl) rfl vi_12_0 (by decide) dX12_enter_15 rfl (fun m2 em2 => ?_)
  have ok3 : OkT (M 12) m2 := (by rw [em2]; exact okT_put0 ok0 (by decide))
  refine mw_aload_n cx (q := 19) 1 rfl rfl dX12_enter_18 rfl ?_
  refine mw_bnd (fun r4 er4 => ?_)
  refine mw_callV cx (q := 22) (d := 1) (As := []) (z := fzc (uW M 12 m2) 12 r4) (st := []) (st1 := [.int (b2i r4.1)]) (M' := uW M 12 r4.2) (by rw [er4]; exact mc_X12_takesFuel l D ta ad (uW M 12 m2) (ok3.1)) cv_X12_260 rfl rfl rfl vi_12_0 ⟨Nat.le_of_ble_eq_true rfl, Nat.le_of_ble_eq_true rfl⟩ ⟨Nat.le_refl _, Nat.le_refl _⟩ (by simp [Value.category]) rfl rfl (by exact uW_uW _ _ _ _) dX12_enter_19 rfl ?_
  have ok5 : OkT (M 12) r4.2 := (by rw [er4]; exact okT_f12_takesFuel ok3)
  have hs60 : r4.2 0 0 60 = (M 12) 0 0 60 := (by rw [er4, takesFuel_s _ (by decide), em2]; rfl)
  have hs61 : r4.2 0 0 61 = (M 12) 0 0 61 := (by rw [er4, takesFuel_s _ (by decide), em2]; rfl)
  have hs45 : r4.2 0 0 45 = (M 12) 0 0 45 := (by rw [er4, takesFuel_s _ (by decide), em2]; rfl)
  have hs49 : r4.2 0 0 49 = (M 12) 0 0 49 := (by rw [er4, takesFuel_s _ (by decide), em2]; rfl)
  have hCt : Ct12 r4.2 := (hC.fr (by rw [er4, takesFuel_g _ (by decide) (by decide) (by decide) (by decide) (by decide), em2, u3_ne _ _ _ (by decide)]) (by rw [er4, takesFuel_g _ (by decide) (by decide) (by decide) (by decide) (by decide), em2, u3_ne _ _ _ (by decide)]) (by rw [er4, takesFuel_g _ (by decide) (by decide) (by decide) (by decide) (by decide), em2, u3_ne _ _ _ (by decide)]))
  refine mw_ifb_ne cx (tgt := 34) (q := 25) dX12_enter_22 (by decide) rfl (fun h6 => ?_) (fun h6 => ?_)
  · refine mw_aload_n cx (q := 35) 1 rfl rfl dX12_enter_34 rfl ?_
    refine mw_get cx (q := 38) (v := .int (r4.2 0 0 45)) gf_X12_235 rfl rfl vi_12_0 dX12_enter_35 rfl ?_
    refine mw_bipush cx (q := 40) (v := 30) dX12_enter_38 rfl rfl ?_
    refine mw_icmp_lt cx (tgt := 51) (q := 43) dX12_enter_40 (by decide) rfl (fun h7 => ?_) (fun h7 => ?_)
    · refine mw_iload_n cx (q := 52) 0 rfl rfl dX12_enter_51 rfl ?_
      refine mw_bipush cx (q := 54) (v := 40) dX12_enter_52 rfl rfl ?_
      refine mw_icmp_ne cx (tgt := 64) (q := 57) dX12_enter_54 (by decide) rfl (fun h8 => ?_) (fun h8 => ?_)
      · refine mw_iload_n cx (q := 65) 0 rfl rfl dX12_enter_64 rfl ?_
        refine mw_bnd (fun r9 er9 => ?_)
        refine mw_callS cx (q := 68) (d := 1) (As := [.int r1]) (z := fzp (uW M 12 r4.2) r9) (st := []) (st1 := [.int (b2i r9)]) (M' := (uW M 12 r4.2)) (by rw [er9]; exact mc_X12_isLetter l D ta ad (uW M 12 r4.2) r1) cv_X12_175 ⟨Nat.le_of_ble_eq_true rfl, Nat.le_of_ble_eq_true rfl⟩ ⟨Nat.le_refl _, Nat.le_refl _⟩ (by simp [Value.category]) rfl rfl rfl dX12_enter_65 rfl ?_
        have qr90 : r9 = true → 48 ≤ r1.toInt ∧ 97 ≤ r1.toInt ∧ r1.toInt ≤ 122 := (fun hq => isLetter_t (er9.symm.trans hq))
        refine mw_ifb_eq cx (tgt := 90) (q := 71) dX12_enter_68 (by decide) rfl (fun h10 => ?_) (fun h10 => ?_)
        · refine mw_aload_n cx (q := 91) 1 rfl rfl dX12_enter_90 rfl ?_
          refine mw_aload_n cx (q := 92) 1 rfl rfl dX12_enter_91 rfl ?_
          refine mw_aload_n cx (q := 93) 1 rfl rfl dX12_enter_92 rfl ?_
          refine mw_get cx (q := 96) (v := .int (r4.2 0 0 60)) gf_X12_242 rfl rfl vi_12_0 dX12_enter_93 rfl ?_
          refine mw_aload_n cx (q := 97) 1 rfl rfl dX12_enter_96 rfl ?_
          refine mw_get cx (q := 100) (v := .int (r4.2 0 0 61)) gf_X12_245 rfl rfl vi_12_0 dX12_enter_97 rfl ?_
          refine mw_bnd (fun r11 er11 => ?_)
          refine mw_callV cx (q := 103) (d := 2) (As := [.int (r4.2 0 0 60), .int (r4.2 0 0 61)]) (z := fip (uW M 12 r4.2) r11) (st := [.ref (ad 12 0 0)]) (st1 := [.int r11, .ref (ad 12 0 0)]) (M' := (uW M 12 r4.2)) (by rw [er11]; exact mc_X12_numberAt l D ta ad (uW M 12 r4.2) (r4.2 0 0 60) (r4.2 0 0 61) (ok5.1) (ok5.1.scr) (by show Ix12 r4.2 (r4.2 0 0 60) (r4.2 0 0 61); rw [hs60, hs61]; exact Ix12.fr ok5.2 hI)) cv_X12_271 rfl rfl rfl vi_12_0 ⟨Nat.le_of_ble_eq_true rfl, Nat.le_of_ble_eq_true rfl⟩ ⟨Nat.le_refl _, Nat.le_refl _⟩ (by simp [Value.category]) rfl rfl rfl dX12_enter_100 rfl ?_
          refine mw_putC cx (q := 106) 62 gf_X12_232 pf_X12_62 (int_fit _) rfl (Nat.le_of_ble_eq_true rfl) rfl vi_12_0 (by decide) dX12_enter_103 rfl (fun m12 em12 => ?_)
          have ok13 : OkT (M 12) m12 := (by rw [em12]; exact okT_put0 ok5 (by decide))
          exact mw_vret cx hr rfl dX12_enter_106
        · refine mw_aload_n cx (q := 72) 1 rfl rfl dX12_enter_71 rfl ?_
          refine mw_aload_n cx (q := 73) 1 rfl rfl dX12_enter_72 rfl ?_
          refine mw_aload_n cx (q := 74) 1 rfl rfl dX12_enter_73 rfl ?_
          refine mw_get cx (q := 77) (v := .int (r4.2 0 0 60)) gf_X12_242 rfl rfl vi_12_0 dX12_enter_74 rfl ?_
          refine mw_aload_n cx (q := 78) 1 rfl rfl dX12_enter_77 rfl ?_
          refine mw_get cx (q := 81) (v := .int (r4.2 0 0 61)) gf_X12_245 rfl rfl vi_12_0 dX12_enter_78 rfl ?_
          refine mw_bnd (fun r14 er14 => ?_)
          refine mw_callV cx (q := 84) (d := 2) (As := [.int (r4.2 0 0 60), .int (r4.2 0 0 61)]) (z := fip (uW M 12 r4.2) r14) (st := [.ref (ad 12 0 0)]) (st1 := [.int r14, .ref (ad 12 0 0)]) (M' := (uW M 12 r4.2)) (by rw [er14]; exact mc_X12_nameAt l D ta ad (uW M 12 r4.2) (r4.2 0 0 60) (r4.2 0 0 61) (ok5.1) (ok5.1.scr) (by show Ix12 r4.2 (r4.2 0 0 60) (r4.2 0 0 61); rw [hs60, hs61]; exact Ix12.fr ok5.2 hI)) cv_X12_211 rfl rfl rfl vi_12_0 ⟨Nat.le_of_ble_eq_true rfl, Nat.le_of_ble_eq_true rfl⟩ ⟨Nat.le_refl _, Nat.le_refl _⟩ (by simp [Value.category]) rfl rfl rfl dX12_enter_81 rfl ?_
          refine mw_bnd (fun r15 er15 => ?_)
          refine mw_callV cx (q := 87) (d := 1) (As := [.int r14]) (z := fvc (uW M 12 r4.2) 12 r15) (st := []) (st1 := []) (M' := uW M 12 r15) (by rw [er15]; exact mc_X12_valueName l D ta ad (uW M 12 r4.2) r14 (ok5.1)) cv_X12_267 rfl rfl rfl vi_12_0 ⟨Nat.le_of_ble_eq_true rfl, Nat.le_of_ble_eq_true rfl⟩ ⟨Nat.le_refl _, Nat.le_refl _⟩ (by simp [Value.category]) rfl rfl (by exact uW_uW _ _ _ _) dX12_enter_84 rfl ?_
          refine mw_goto cx (tgt := 106) dX12_enter_87 (by decide) ?_
          exact mw_vret cx hr rfl dX12_enter_106
      · refine mw_aload_n cx (q := 58) 1 rfl rfl dX12_enter_57 rfl ?_
        refine mw_bnd (fun r16 er16 => ?_)
        refine mw_callV cx (q := 61) (d := 7) (As := []) (z := fvc (uW M 12 r4.2) 12 r16) (st := []) (st1 := []) (M' := uW M 12 r16) (by rw [er16]; exact mc_X12_open l D ta ad (uW M 12 r4.2) (ok5.1) (by show Tx12 r4.2 (r4.2 0 0 60); rw [hs60]; exact Tx12.fr ok5.2 hT) (by show Ix12 r4.2 (r4.2 0 0 60) (r4.2 0 0 61); rw [hs60, hs61]; exact Ix12.fr ok5.2 hI) (by show (r4.2 0 0 45).toInt < 30; exact (by (try simp only [vp_in_iff, i32lt, i32le, i32eq, i32add, i32sub, i32mul, i32neg, t32_0, t32_8, t32_30, t32_45, t32_49, t32_60, t32_61, t32_97] at ok5 hs60 hs61 hs45 hs49 hCt h7 hT hI hC htop u_scr ok0 ok3 hok ⊢); omega)) hCt (by show (r4.2 0 0 49).toInt ≤ 97; rw [hs49]; exact htop (by have hq7 : (r4.2 0 0 45).toInt < 30 := (by (try simp only [vp_in_iff, i32lt, i32le, i32eq, i32add, i32sub, i32mul, i32neg, t32_0, t32_8, t32_30, t32_45, t32_49, t32_60, t32_61, t32_97] at ok5 hs60 hs61 hs45 hs49 hCt h7 hT hI hC htop u_scr ok0 ok3 hok ⊢); omega); rw [hs45] at hq7; exact hq7))) cv_X12_264 rfl rfl rfl vi_12_0 ⟨Nat.le_of_ble_eq_true rfl, Nat.le_of_ble_eq_true rfl⟩ ⟨Nat.le_refl _, Nat.le_refl _⟩ (by simp [Value.category]) rfl rfl (by exact uW_uW _ _ _ _) dX12_enter_58 rfl ?_
        refine mw_goto cx (tgt := 106) dX12_enter_61 (by decide) ?_
        exact mw_vret cx hr rfl dX12_enter_106
    · refine mw_aload_n cx (q := 44) 1 rfl rfl dX12_enter_43 rfl ?_
      refine mw_iconst cx (q := 45) (v := 2) dX12_enter_44 rfl rfl ?_
      refine mw_putC cx (q := 48) 63 gf_X12_257 pf_X12_63 (int_fit _) rfl (Nat.le_of_ble_eq_true rfl) rfl vi_12_0 (by decide) dX12_enter_45 rfl (fun m17 em17 => ?_)
      have ok18 : OkT (M 12) m17 := (by rw [em17]; exact okT_put0 ok5 (by decide))
      refine mw_goto cx (tgt := 106) dX12_enter_48 (by decide) ?_
      exact mw_vret cx hr rfl dX12_enter_106
  · refine mw_aload_n cx (q := 26) 1 rfl rfl dX12_enter_25 rfl ?_
    refine mw_bipush cx (q := 28) (v := 7) dX12_enter_26 rfl rfl ?_
    refine mw_putC cx (q := 31) 63 gf_X12_257 pf_X12_63 (int_fit _) rfl (Nat.le_of_ble_eq_true rfl) rfl vi_12_0 (by decide) dX12_enter_28 rfl (fun m19 em19 => ?_)
    have ok20 : OkT (M 12) m19 := (by rw [em19]; exact okT_put0 ok5 (by decide))
    refine mw_goto cx (tgt := 106) dX12_enter_31 (by decide) ?_
    exact mw_vret cx hr rfl dX12_enter_106
/-- the reference's list machine: where it stands, what a step makes of it, what a step needs -/
def ini12 (m : Cm) (s i : Int32) : Cm := u3 (u3 (u3 (u3 (u3 (u3 (u3 (u3 m 0 0 45 0) 0 0 48 0) 0 0 49 0) 0 0 63 0) 0 0 62 0) 0 0 59 1) 0 0 60 s) 0 0 61 i
def go12 (m : Cm) : Prop := m 0 0 63 = 0 ∧ (¬ m 0 0 59 = 0 ∨ 0 < m 0 0 45)
def adv12 (m : Cm) : Cm := u3 m 33 0 (m 0 0 45 - 1) (m 33 0 (m 0 0 45 - 1) + 1)
def stp12 (m : Cm) : Cm := if m 0 0 59 = 0 then f12_advance (adv12 m) (m 0 0 45 - 1) else f12_enter m
def EntP (m : Cm) : Prop := Ok12 m ∧ Tx12 m (m 0 0 60) ∧ Ix12 m (m 0 0 60) (m 0 0 61) ∧ Ct12 m ∧ ((m 0 0 45).toInt < 30 → (m 0 0 49).toInt ≤ 97)
def StpP (m : Cm) : Prop := (¬ m 0 0 59 = 0 → EntP m) ∧ (m 0 0 59 = 0 → Ok12 m ∧ AdvP (adv12 m) (m 0 0 45 - 1))
def Run12 : Nat → Cm → Cm → Prop
  | 0, m, m' => ¬ go12 m ∧ m = m'
  | k + 1, m, m' => go12 m ∧ StpP m ∧ Run12 k (stp12 m) m'
theorem Run12.uniq : ∀ {k k' : Nat} {m a b : Cm}, Run12 k m a → Run12 k' m b → a = b := by
  intro k
  induction k with
  | zero =>
    intro k' m a b h h'
    cases k' with
    | zero => exact h.2.symm.trans h'.2
    | succ k' => exact absurd h'.1 h.1
  | succ k ih =>
    intro k' m a b h h'
    cases k' with
    | zero => exact absurd h.1 h'.1
    | succ k' => exact ih h.2.2 h'.2.2
noncomputable def ev12 (m : Cm) : Cm := Classical.epsilon (fun m' => ∃ k, Run12 k m m')
theorem ev12_run {m : Cm} (h : ∃ k m', Run12 k m m') : ∃ k, Run12 k m (ev12 m) := by
  obtain ⟨k, m', h⟩ := h
  exact Classical.epsilon_spec (p := fun m' => ∃ k, Run12 k m m') ⟨m', k, h⟩
theorem ev12_eq {k : Nat} {m m' : Cm} (h : Run12 k m m') : ev12 m = m' := by
  obtain ⟨k', h'⟩ := ev12_run ⟨k, m', h⟩
  exact h'.uniq h
theorem ok12_putA {m : Cm} (h : Ok12 m) {g : Nat} {j x : Int32} (hg : hmG g = true) : Ok12 (u3 m g 0 j x) := (okT_putA (m0 := m) ⟨h, rfl, rfl⟩ hg).1
theorem dpt_in {m : Cm} (hk : Ok12 m) (h : 0 < m 0 0 45) : vp_in (m 0 0 45 - 1) 32 := by
  have h0 := hk.d0; have h1 := hk.d1
  simp only [i32lt, t32_0] at h
  rw [vp_in_iff, i32subn (by rw [t32_1]; omega) (by rw [t32_1]; omega), t32_1]; omega
def evB12 (m' x : Cm) : Cm := if (x 0 0 63) = 0 then if (x 0 0 59) = 0 then if (x 0 0 45) ≤ 0 then x else if (x 0 0 59) = 0 then bnd (u3 x 33 0 ((x 0 0 45) - 1) ((x 33 0 ((x 0 0 45) - 1)) + 1)) (fun (m9 : Cm) => bnd (f12_advance m9 ((x 0 0 45) - 1)) (fun (r10 : Cm) => m')) else bnd (f12_enter x) (fun (r11 : Cm) => m') else if (x 0 0 59) = 0 then bnd (u3 x 33 0 ((x 0 0 45) - 1) ((x 33 0 ((x 0 0 45) - 1)) + 1)) (fun (m4 : Cm) => bnd (f12_advance m4 ((x 0 0 45) - 1)) (fun (r5 : Cm) => m')) else bnd (f12_enter x) (fun (r6 : Cm) => m') else x
theorem evB12_eq {m' x : Cm} (h : ¬ go12 x → m' = x) : m' = evB12 m' x := by
  by_cases c : go12 x
  · unfold evB12
    simp only [bnd]
    obtain ⟨c1, c2⟩ := c
    rw [if_pos c1]
    by_cases c3 : x 0 0 59 = 0
    · rw [if_pos c3]
      have c4 := c2.resolve_left (fun z => z c3)
      rw [if_neg (Int32.not_le.mpr c4)]
      split <;> rfl
    · rw [if_neg c3]
      split <;> rfl
  · have hx := h c
    subst hx
    unfold evB12
    simp only [bnd]
    repeat' split
    all_goals rfl
set_option maxHeartbeats 4000000 in
set_option maxRecDepth 100000 in
theorem ev12_step (l : Launch) (D : va_G) (ta : wTa) (ad : wAd) (M : Wm) (p1 p2 : Int32) {p : Program} {e : Env} {s : State} {m : MethodId} {args : Array Value} {below : List Frame} {meth : Method} {c : Code} (cx : Cx p s m args meth c D ta ad yX12_evaluate.cls cX12_evaluate 3) (hr : meth.sig.returnType = none) (x m' : Cm) (hS : go12 x → StpP x) (hx : ¬ go12 x → m' = x) (hnext : go12 x → mw p l e (rmd 9) s m args below meth c 0 0 (fun S => MQ below (mQ D ta ad (fvc M 12 S)) args s 0 0 (wA ad)) D ta ad 3 (uW M 12 (stp12 x)) 40 [(0, .ref (ad 12 0 0)), (1, .int p1), (2, .int p2)] [] m') : mw p l e (rmd 9) s m args below meth c 0 0 (fun S => MQ below (mQ D ta ad (fvc M 12 S)) args s 0 0 (wA ad)) D ta ad 3 (uW M 12 x) 40 [(0, .ref (ad 12 0 0)), (1, .int p1), (2, .int p2)] [] m' := by
  refine mw_eqS (evB12_eq hx) ?_
  unfold evB12
  refine mw_aload_n cx (q := 41) 0 rfl rfl dX12_evaluate_40 rfl ?_
  refine mw_get cx (q := 44) (v := .int (x 0 0 63)) gf_X12_257 rfl rfl vi_12_0 dX12_evaluate_41 rfl ?_
  refine mw_if_ne cx (tgt := 103) (q := 47) dX12_evaluate_44 (by decide) rfl (fun h1 => ?_) (fun h1 => ?_)
  · exact mw_vret cx hr rfl dX12_evaluate_103
  · refine mw_aload_n cx (q := 48) 0 rfl rfl dX12_evaluate_47 rfl ?_
    refine mw_get cx (q := 51) (v := .int (x 0 0 59)) gf_X12_238 rfl rfl vi_12_0 dX12_evaluate_48 rfl ?_
    refine mw_if_ne cx (tgt := 61) (q := 54) dX12_evaluate_51 (by decide) rfl (fun h2 => ?_) (fun h2 => ?_)
    · refine mw_aload_n cx (q := 62) 0 rfl rfl dX12_evaluate_61 rfl ?_
      refine mw_get cx (q := 65) (v := .int (x 0 0 59)) gf_X12_238 rfl rfl vi_12_0 dX12_evaluate_62 rfl ?_
      refine mw_if_eq cx (tgt := 75) (q := 68) dX12_evaluate_65 (by decide) rfl (fun h3 => ?_) (fun h3 => ?_)
      · refine mw_aload_n cx (q := 76) 0 rfl rfl dX12_evaluate_75 rfl ?_
        refine mw_get cx (q := 79) (v := .ref (ad 12 33 0)) gf_X12_104 rfl rfl vi_12_0 dX12_evaluate_76 rfl ?_
        refine mw_aload_n cx (q := 80) 0 rfl rfl dX12_evaluate_79 rfl ?_
        refine mw_get cx (q := 83) (v := .int (x 0 0 45)) gf_X12_235 rfl rfl vi_12_0 dX12_evaluate_80 rfl ?_
        refine mw_iconst cx (q := 84) (v := 1) dX12_evaluate_83 rfl rfl ?_
        refine mw_isub cx (q := 85) dX12_evaluate_84 rfl ?_
        refine mw_dup2 cx (q := 86) dX12_evaluate_85 rfl rfl rfl ?_
        refine mw_iald cx (q := 87) (w := (x 33 0 ((x 0 0 45) - 1))) rfl (fun _ => rfl) vi_12_33 (by first | contradiction | exact (dpt_in ((hS ⟨by assumption, Or.inr (i32_nle (by assumption))⟩).2 (by assumption)).1 (i32_nle (by assumption)))) dX12_evaluate_86 rfl ?_
        refine mw_iconst cx (q := 88) (v := 1) dX12_evaluate_87 rfl rfl ?_
        refine mw_iadd cx (q := 89) dX12_evaluate_88 rfl ?_
        refine mw_iastC cx (q := 90) (fun _ => rfl) (by decide) vi_12_33 (by first | contradiction | exact (dpt_in ((hS ⟨by assumption, Or.inr (i32_nle (by assumption))⟩).2 (by assumption)).1 (i32_nle (by assumption)))) (by decide) dX12_evaluate_89 rfl (fun m4 em4 => ?_)
        refine mw_aload_n cx (q := 91) 0 rfl rfl dX12_evaluate_90 rfl ?_
        refine mw_aload_n cx (q := 92) 0 rfl rfl dX12_evaluate_91 rfl ?_
        refine mw_get cx (q := 95) (v := .int (x 0 0 45)) gf_X12_235 rfl (by rw [em4]; rfl) vi_12_0 dX12_evaluate_92 rfl ?_
        refine mw_iconst cx (q := 96) (v := 1) dX12_evaluate_95 rfl rfl ?_
        refine mw_isub cx (q := 97) dX12_evaluate_96 rfl ?_
        refine mw_bnd (fun r5 er5 => ?_)
        refine mw_callV cx (q := 100) (d := 6) (As := [.int ((x 0 0 45) - 1)]) (z := fvc (uW M 12 m4) 12 r5) (st := []) (st1 := []) (M' := uW M 12 r5) (by rw [er5]; exact mc_X12_advance l D ta ad (uW M 12 m4) ((x 0 0 45) - 1) (by first | contradiction | exact (by rw [em4]; exact ok12_putA ((hS ⟨by assumption, Or.inr (i32_nle (by assumption))⟩).2 (by assumption)).1 (by decide))) (by first | contradiction | exact (dpt_in ((hS ⟨by assumption, Or.inr (i32_nle (by assumption))⟩).2 (by assumption)).1 (i32_nle (by assumption)))) (by first | contradiction | exact (by rw [em4]; exact ((hS ⟨by assumption, Or.inr (i32_nle (by assumption))⟩).2 (by assumption)).2))) cv_X12_293 rfl rfl rfl vi_12_0 ⟨Nat.le_of_ble_eq_true rfl, Nat.le_of_ble_eq_true rfl⟩ ⟨Nat.le_refl _, Nat.le_refl _⟩ (by simp [Value.category]) rfl rfl (by exact uW_uW _ _ _ _) dX12_evaluate_97 rfl ?_
        refine mw_goto cx (tgt := 40) dX12_evaluate_100 (by decide) ?_
        first | contradiction | exact mw_eqM (congrArg (uW M 12) (by rw [er5, em4, stp12, if_pos (by assumption)]; rfl)) (hnext ⟨by assumption, Or.inr (i32_nle (by assumption))⟩)
      · refine mw_aload_n cx (q := 69) 0 rfl rfl dX12_evaluate_68 rfl ?_
        refine mw_bnd (fun r6 er6 => ?_)
        refine mw_callV cx (q := 72) (d := 8) (As := []) (z := fvc (uW M 12 x) 12 r6) (st := []) (st1 := []) (M' := uW M 12 r6) (by rw [er6]; exact mc_X12_enter l D ta ad (uW M 12 x) (by first | contradiction | exact ((hS ⟨by assumption, Or.inl (by assumption)⟩).1 (by assumption)).1) (by first | contradiction | exact ((hS ⟨by assumption, Or.inl (by assumption)⟩).1 (by assumption)).2.1) (by first | contradiction | exact ((hS ⟨by assumption, Or.inl (by assumption)⟩).1 (by assumption)).2.2.1) (by first | contradiction | exact ((hS ⟨by assumption, Or.inl (by assumption)⟩).1 (by assumption)).2.2.2.1) (by first | contradiction | exact ((hS ⟨by assumption, Or.inl (by assumption)⟩).1 (by assumption)).2.2.2.2)) cv_X12_359 rfl rfl rfl vi_12_0 ⟨Nat.le_of_ble_eq_true rfl, Nat.le_of_ble_eq_true rfl⟩ ⟨Nat.le_refl _, Nat.le_refl _⟩ (by simp [Value.category]) rfl rfl (by exact uW_uW _ _ _ _) dX12_evaluate_69 rfl ?_
        refine mw_goto cx (tgt := 40) dX12_evaluate_72 (by decide) ?_
        first | contradiction | exact mw_eqM (congrArg (uW M 12) (by rw [er6, stp12, if_neg (by assumption)])) (hnext ⟨by assumption, Or.inl (by assumption)⟩)
    · refine mw_aload_n cx (q := 55) 0 rfl rfl dX12_evaluate_54 rfl ?_
      refine mw_get cx (q := 58) (v := .int (x 0 0 45)) gf_X12_235 rfl rfl vi_12_0 dX12_evaluate_55 rfl ?_
      refine mw_if_le cx (tgt := 103) (q := 61) dX12_evaluate_58 (by decide) rfl (fun h7 => ?_) (fun h7 => ?_)
      · exact mw_vret cx hr rfl dX12_evaluate_103
      · refine mw_aload_n cx (q := 62) 0 rfl rfl dX12_evaluate_61 rfl ?_
        refine mw_get cx (q := 65) (v := .int (x 0 0 59)) gf_X12_238 rfl rfl vi_12_0 dX12_evaluate_62 rfl ?_
        refine mw_if_eq cx (tgt := 75) (q := 68) dX12_evaluate_65 (by decide) rfl (fun h8 => ?_) (fun h8 => ?_)
        · refine mw_aload_n cx (q := 76) 0 rfl rfl dX12_evaluate_75 rfl ?_
          refine mw_get cx (q := 79) (v := .ref (ad 12 33 0)) gf_X12_104 rfl rfl vi_12_0 dX12_evaluate_76 rfl ?_
          refine mw_aload_n cx (q := 80) 0 rfl rfl dX12_evaluate_79 rfl ?_
          refine mw_get cx (q := 83) (v := .int (x 0 0 45)) gf_X12_235 rfl rfl vi_12_0 dX12_evaluate_80 rfl ?_
          refine mw_iconst cx (q := 84) (v := 1) dX12_evaluate_83 rfl rfl ?_
          refine mw_isub cx (q := 85) dX12_evaluate_84 rfl ?_
          refine mw_dup2 cx (q := 86) dX12_evaluate_85 rfl rfl rfl ?_
          refine mw_iald cx (q := 87) (w := (x 33 0 ((x 0 0 45) - 1))) rfl (fun _ => rfl) vi_12_33 (by first | contradiction | exact (dpt_in ((hS ⟨by assumption, Or.inr (i32_nle (by assumption))⟩).2 (by assumption)).1 (i32_nle (by assumption)))) dX12_evaluate_86 rfl ?_
          refine mw_iconst cx (q := 88) (v := 1) dX12_evaluate_87 rfl rfl ?_
          refine mw_iadd cx (q := 89) dX12_evaluate_88 rfl ?_
          refine mw_iastC cx (q := 90) (fun _ => rfl) (by decide) vi_12_33 (by first | contradiction | exact (dpt_in ((hS ⟨by assumption, Or.inr (i32_nle (by assumption))⟩).2 (by assumption)).1 (i32_nle (by assumption)))) (by decide) dX12_evaluate_89 rfl (fun m9 em9 => ?_)
          refine mw_aload_n cx (q := 91) 0 rfl rfl dX12_evaluate_90 rfl ?_
          refine mw_aload_n cx (q := 92) 0 rfl rfl dX12_evaluate_91 rfl ?_
          refine mw_get cx (q := 95) (v := .int (x 0 0 45)) gf_X12_235 rfl (by rw [em9]; rfl) vi_12_0 dX12_evaluate_92 rfl ?_
          refine mw_iconst cx (q := 96) (v := 1) dX12_evaluate_95 rfl rfl ?_
          refine mw_isub cx (q := 97) dX12_evaluate_96 rfl ?_
          refine mw_bnd (fun r10 er10 => ?_)
          refine mw_callV cx (q := 100) (d := 6) (As := [.int ((x 0 0 45) - 1)]) (z := fvc (uW M 12 m9) 12 r10) (st := []) (st1 := []) (M' := uW M 12 r10) (by rw [er10]; exact mc_X12_advance l D ta ad (uW M 12 m9) ((x 0 0 45) - 1) (by first | contradiction | exact (by rw [em9]; exact ok12_putA ((hS ⟨by assumption, Or.inr (i32_nle (by assumption))⟩).2 (by assumption)).1 (by decide))) (by first | contradiction | exact (dpt_in ((hS ⟨by assumption, Or.inr (i32_nle (by assumption))⟩).2 (by assumption)).1 (i32_nle (by assumption)))) (by first | contradiction | exact (by rw [em9]; exact ((hS ⟨by assumption, Or.inr (i32_nle (by assumption))⟩).2 (by assumption)).2))) cv_X12_293 rfl rfl rfl vi_12_0 ⟨Nat.le_of_ble_eq_true rfl, Nat.le_of_ble_eq_true rfl⟩ ⟨Nat.le_refl _, Nat.le_refl _⟩ (by simp [Value.category]) rfl rfl (by exact uW_uW _ _ _ _) dX12_evaluate_97 rfl ?_
          refine mw_goto cx (tgt := 40) dX12_evaluate_100 (by decide) ?_
          first | contradiction | exact mw_eqM (congrArg (uW M 12) (by rw [er10, em9, stp12, if_pos (by assumption)]; rfl)) (hnext ⟨by assumption, Or.inr (i32_nle (by assumption))⟩)
        · refine mw_aload_n cx (q := 69) 0 rfl rfl dX12_evaluate_68 rfl ?_
          refine mw_bnd (fun r11 er11 => ?_)
          refine mw_callV cx (q := 72) (d := 8) (As := []) (z := fvc (uW M 12 x) 12 r11) (st := []) (st1 := []) (M' := uW M 12 r11) (by rw [er11]; exact mc_X12_enter l D ta ad (uW M 12 x) (by first | contradiction | exact ((hS ⟨by assumption, Or.inl (by assumption)⟩).1 (by assumption)).1) (by first | contradiction | exact ((hS ⟨by assumption, Or.inl (by assumption)⟩).1 (by assumption)).2.1) (by first | contradiction | exact ((hS ⟨by assumption, Or.inl (by assumption)⟩).1 (by assumption)).2.2.1) (by first | contradiction | exact ((hS ⟨by assumption, Or.inl (by assumption)⟩).1 (by assumption)).2.2.2.1) (by first | contradiction | exact ((hS ⟨by assumption, Or.inl (by assumption)⟩).1 (by assumption)).2.2.2.2)) cv_X12_359 rfl rfl rfl vi_12_0 ⟨Nat.le_of_ble_eq_true rfl, Nat.le_of_ble_eq_true rfl⟩ ⟨Nat.le_refl _, Nat.le_refl _⟩ (by simp [Value.category]) rfl rfl (by exact uW_uW _ _ _ _) dX12_evaluate_69 rfl ?_
          refine mw_goto cx (tgt := 40) dX12_evaluate_72 (by decide) ?_
          first | contradiction | exact mw_eqM (congrArg (uW M 12) (by rw [er11, stp12, if_neg (by assumption)])) (hnext ⟨by assumption, Or.inl (by assumption)⟩)
theorem ev12_loop (l : Launch) (D : va_G) (ta : wTa) (ad : wAd) (M : Wm) (p1 p2 : Int32) {p : Program} {e : Env} {s : State} {m : MethodId} {args : Array Value} {below : List Frame} {meth : Method} {c : Code} (cx : Cx p s m args meth c D ta ad yX12_evaluate.cls cX12_evaluate 3) (hr : meth.sig.returnType = none) : ∀ (k : Nat) (x m' : Cm), Run12 k x m' → mw p l e (rmd 9) s m args below meth c 0 0 (fun S => MQ below (mQ D ta ad (fvc M 12 S)) args s 0 0 (wA ad)) D ta ad 3 (uW M 12 x) 40 [(0, .ref (ad 12 0 0)), (1, .int p1), (2, .int p2)] [] m' := by
  intro k
  induction k with
  | zero =>
    intro x m' h
    exact ev12_step l D ta ad M p1 p2 cx hr x m' (fun z => absurd z h.1) (fun _ => h.2.symm) (fun z => absurd z h.1)
  | succ k ih =>
    intro x m' h
    exact ev12_step l D ta ad M p1 p2 cx hr x m' (fun _ => h.2.1) (fun z => absurd h.1 z) (fun _ => ih _ _ h.2.2)
noncomputable def f12_evaluate (m : Cm) (p1 : Int32) (p2 : Int32) : Cm := bnd (u3 m 0 0 45 0) (fun (m1 : Cm) => bnd (u3 m1 0 0 48 0) (fun (m2 : Cm) => bnd (u3 m2 0 0 49 0) (fun (m3 : Cm) => bnd (u3 m3 0 0 63 0) (fun (m4 : Cm) => bnd (u3 m4 0 0 62 0) (fun (m5 : Cm) => bnd (u3 m5 0 0 59 1) (fun (m6 : Cm) => bnd (u3 m6 0 0 60 p1) (fun (m7 : Cm) => bnd (u3 m7 0 0 61 p2) (fun (m8 : Cm) => ev12 m8))))))))
set_option maxHeartbeats 4000000 in
set_option maxRecDepth 100000 in
theorem mc_X12_evaluate (l : Launch) (D : va_G) (ta : wTa) (ad : wAd) (M : Wm) (p1 p2 : Int32) (hrun : ∃ k m', Run12 k (ini12 (M 12) p1 p2) m') : MC l D ta ad yX12_evaluate cX12_evaluate 3 none 9 [.ref (ad 12 0 0), .int p1, .int p2] M (fvc M 12 (f12_evaluate (M 12) p1 p2)) := by
  refine MC.of (fvc M 12) (f12_evaluate (M 12) p1 p2) rfl (by decide) (Nat.le_of_ble_eq_true rfl) (fun p e s m args below meth c cx hr => ?_)
  unfold f12_evaluate
  refine mw_sub (lv' := [(0, .ref (ad 12 0 0)), (1, .int p1), (2, .int p2)]) [0, 1, 2] rfl ?_
  refine mw_eqM (uW_self M 12) ?_
  refine mw_aload_n cx (q := 1) 0 rfl rfl dX12_evaluate_0 rfl ?_
  refine mw_iconst cx (q := 2) (v := 0) dX12_evaluate_1 rfl rfl ?_
  refine mw_putC cx (q := 5) 45 gf_X12_235 pf_X12_45 (int_fit _) rfl (Nat.le_of_ble_eq_true rfl) rfl vi_12_0 (by decide) dX12_evaluate_2 rfl (fun m1 em1 => ?_)
  refine mw_aload_n cx (q := 6) 0 rfl rfl dX12_evaluate_5 rfl ?_
  refine mw_iconst cx (q := 7) (v := 0) dX12_evaluate_6 rfl rfl ?_
  refine mw_putC cx (q := 10) 48 gf_X12_248 pf_X12_48 (int_fit _) rfl (Nat.le_of_ble_eq_true rfl) rfl vi_12_0 (by decide) dX12_evaluate_7 rfl (fun m2 em2 => ?_)
  refine mw_aload_n cx (q := 11) 0 rfl rfl dX12_evaluate_10 rfl ?_
  refine mw_iconst cx (q := 12) (v := 0) dX12_evaluate_11 rfl rfl ?_
  refine mw_putC cx (q := 15) 49 gf_X12_251 pf_X12_49 (int_fit _) rfl (Nat.le_of_ble_eq_true rfl) rfl vi_12_0 (by decide) dX12_evaluate_12 rfl (fun m3 em3 => ?_)
  refine mw_aload_n cx (q := 16) 0 rfl rfl dX12_evaluate_15 rfl ?_
  refine mw_iconst cx (q := 17) (v := 0) dX12_evaluate_16 rfl rfl ?_
  refine mw_putC cx (q := 20) 63 gf_X12_257 pf_X12_63 (int_fit _) rfl (Nat.le_of_ble_eq_true rfl) rfl vi_12_0 (by decide) dX12_evaluate_17 rfl (fun m4 em4 => ?_)
  refine mw_aload_n cx (q := 21) 0 rfl rfl dX12_evaluate_20 rfl ?_
  refine mw_iconst cx (q := 22) (v := 0) dX12_evaluate_21 rfl rfl ?_
  refine mw_putC cx (q := 25) 62 gf_X12_232 pf_X12_62 (int_fit _) rfl (Nat.le_of_ble_eq_true rfl) rfl vi_12_0 (by decide) dX12_evaluate_22 rfl (fun m5 em5 => ?_)
  refine mw_aload_n cx (q := 26) 0 rfl rfl dX12_evaluate_25 rfl ?_
  refine mw_iconst cx (q := 27) (v := 1) dX12_evaluate_26 rfl rfl ?_
  refine mw_putC cx (q := 30) 59 gf_X12_238 pf_X12_59 (by exact ⟨rfl, rfl⟩) rfl (Nat.le_of_ble_eq_true rfl) rfl vi_12_0 (by decide) dX12_evaluate_27 rfl (fun m6 em6 => ?_)
  refine mw_aload_n cx (q := 31) 0 rfl rfl dX12_evaluate_30 rfl ?_
  refine mw_iload_n cx (q := 32) 1 rfl rfl dX12_evaluate_31 rfl ?_
  refine mw_putC cx (q := 35) 60 gf_X12_242 pf_X12_60 (int_fit _) rfl (Nat.le_of_ble_eq_true rfl) rfl vi_12_0 (by decide) dX12_evaluate_32 rfl (fun m7 em7 => ?_)
  refine mw_aload_n cx (q := 36) 0 rfl rfl dX12_evaluate_35 rfl ?_
  refine mw_iload_n cx (q := 37) 2 rfl rfl dX12_evaluate_36 rfl ?_
  refine mw_putC cx (q := 40) 61 gf_X12_245 pf_X12_61 (int_fit _) rfl (Nat.le_of_ble_eq_true rfl) rfl vi_12_0 (by decide) dX12_evaluate_37 rfl (fun m8 em8 => ?_)
  obtain ⟨k, hk⟩ := ev12_run (m := m8) (by rw [em8, em7, em6, em5, em4, em3, em2, em1]; exact hrun)
  exact ev12_loop l D ta ad M p1 p2 cx hr k _ _ hk
theorem evaluate_eq {k : Nat} {m m' : Cm} {s i : Int32} (h : Run12 k (ini12 m s i) m') : f12_evaluate m s i = m' := ev12_eq h
