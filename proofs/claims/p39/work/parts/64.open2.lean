/-! lists are opened, in both -/
section OPS
variable {t x8 : Cm} {E : Int32 → Int32 → Prop} {L : Int} {w : Int32} {VA : Wm → Int32 → Int32 → Int32 × Wm} {M0 M : Wm} {m0 m1 : Cm} {d s P first : Int32}
def opnK (m : Cm) (v11 v6 r1 : Int32) : Cm := bnd (f12_following m (m 0 0 60) r1) (fun (r14 : Int32) => if v11 = (-1) then bnd (u3 m 0 0 63 3) (fun (m40 : Cm) => m40) else bnd (f12_isFormed m v11 v6 r14) (fun (r16 : Bool) => if r16 = true then bnd (u3 m 31 0 (m 0 0 45) (m 0 0 60)) (fun (m18 : Cm) => bnd (u3 m18 32 0 (m 0 0 45) v11) (fun (m20 : Cm) => bnd (u3 m20 33 0 (m 0 0 45) 0) (fun (m22 : Cm) => bnd (u3 m22 35 0 (m 0 0 45) r14) (fun (m24 : Cm) => bnd (u3 m24 34 0 (m 0 0 45) (-1)) (fun (m26 : Cm) => bnd (u3 m26 37 0 (m 0 0 45) 0) (fun (m28 : Cm) => jn (fun (v30 : Cm) => bnd (u3 v30 0 0 45 ((v30 0 0 45) + 1)) (fun (m35 : Cm) => bnd (f12_advance m35 (((v30 0 0 45) + 1) - 1)) (fun (r37 : Cm) => r37))) (fun K31 => if v11 = 26 then bnd (f12_keep m28 (m 0 0 45) v6) (fun (r33 : Cm) => K31 r33) else K31 m28))))))) else bnd (u3 m 0 0 63 4) (fun (m38 : Cm) => m38)))
theorem jn_e {α σ : Type} (f : α → σ) (K : (α → σ) → σ) : jn f K = K f := by have h : jn f K = K f := rfl; exact h.trans (Eq.refl _)
theorem open_e (m : Cm) : f12_open m = bnd (f12_nextAt m (m 0 0 60) ((m 0 0 61) + 1)) (fun (r1 : Int32) => bnd (f12_isName m (m 0 0 60) r1) (fun (r2 : Bool) => if r2 = true then bnd (f12_nameAt m (m 0 0 60) r1) (fun (r4 : Int32) => bnd (f12_opOf m r4) (fun (r5 : Int32) => jn (fun (v6 : Int32) => jn (fun (v11 : Int32) => opnK m v11 v6 r1) (fun K12 => if v6 = (-1) then K12 r5 else K12 26)) (fun K7 => if r5 = (-1) then bnd (f12_nameAt m (m 0 0 60) r1) (fun (r9 : Int32) => bnd (f12_functionOf m r9) (fun (r10 : Int32) => K7 r10)) else K7 (-1)))) else bnd (u3 m 0 0 63 4) (fun (m42 : Cm) => m42))) := rfl
theorem open_no {r1 : Int32} (hr : f12_nextAt m1 (m1 0 0 60) (m1 0 0 61 + 1) = r1) (h : ¬ f12_isName m1 (m1 0 0 60) r1 = true) : f12_open m1 = u3 m1 0 0 63 4 := by
  rw [open_e]
  simp only [bnd_e]
  rw [hr, if_neg h]
theorem open_w {r1 op : Int32} (hr : f12_nextAt m1 (m1 0 0 60) (m1 0 0 61 + 1) = r1) (h : f12_isName m1 (m1 0 0 60) r1 = true) (ho : f12_opOf m1 (f12_nameAt m1 (m1 0 0 60) r1) = op) (hn : ¬ op = -1) : f12_open m1 = opnK m1 op (-1) r1 := by
  rw [open_e]
  simp only [bnd_e, jn_e]
  rw [hr, if_pos h, ho, if_neg hn]
  rfl
theorem open_f {r1 fn : Int32} (hr : f12_nextAt m1 (m1 0 0 60) (m1 0 0 61 + 1) = r1) (h : f12_isName m1 (m1 0 0 60) r1 = true) (ho : f12_opOf m1 (f12_nameAt m1 (m1 0 0 60) r1) = -1) (hf : f12_functionOf m1 (f12_nameAt m1 (m1 0 0 60) r1) = fn) : f12_open m1 = opnK m1 (if fn = -1 then -1 else 26) fn r1 := by
  rw [open_e]
  simp only [bnd_e, jn_e]
  rw [hr, if_pos h, ho, if_pos rfl, hf]
  by_cases c : fn = -1
  · rw [if_pos c, if_pos c]
  · rw [if_neg c, if_neg c]
theorem opnK_n {fn r1 : Int32} : opnK m1 (-1) fn r1 = u3 m1 0 0 63 3 := rfl
theorem opnK_w {fn op r1 : Int32} (hn : ¬ op = -1) (h26 : ¬ op = 26) : opnK m1 op fn r1 = if f12_isFormed m1 op fn (f12_following m1 (m1 0 0 60) r1) = true then f12_advance (u3 (push12 m1 op (f12_following m1 (m1 0 0 60) r1)) 0 0 45 (push12 m1 op (f12_following m1 (m1 0 0 60) r1) 0 0 45 + 1)) (push12 m1 op (f12_following m1 (m1 0 0 60) r1) 0 0 45 + 1 - 1) else u3 m1 0 0 63 4 := by
  unfold opnK push12
  simp only [bnd_e, jn_e]
  rw [if_neg hn]
  by_cases c : f12_isFormed m1 op fn (f12_following m1 (m1 0 0 60) r1) = true
  · rw [if_pos c, if_pos c, if_neg h26]
  · rw [if_neg c, if_neg c]
theorem opnK_f {fn r1 : Int32} : opnK m1 26 fn r1 = if f12_isFormed m1 26 fn (f12_following m1 (m1 0 0 60) r1) = true then f12_advance (u3 (f12_keep (push12 m1 26 (f12_following m1 (m1 0 0 60) r1)) (m1 0 0 45) fn) 0 0 45 (f12_keep (push12 m1 26 (f12_following m1 (m1 0 0 60) r1)) (m1 0 0 45) fn 0 0 45 + 1)) (f12_keep (push12 m1 26 (f12_following m1 (m1 0 0 60) r1)) (m1 0 0 45) fn 0 0 45 + 1 - 1) else u3 m1 0 0 63 4 := by
  unfold opnK push12
  simp only [bnd_e, jn_e]
  rw [if_neg (show ¬ (26 : Int32) = -1 by decide)]
  by_cases c : f12_isFormed m1 26 fn (f12_following m1 (m1 0 0 60) r1) = true
  · rw [if_pos c, if_pos c]; simp only [if_true]
  · rw [if_neg c, if_neg c]
/-- the class' side -/
theorem list_no (h : ¬ f9_kindOf (M 9) (f9_partOf (M 9) P 0) = 2) : f7_valueOfList VA M P d = (0, uW M 7 (u3 (M 7) 0 0 10 4)) := by
  unfold f7_valueOfList
  simp only [bnd_e]
  rw [if_neg h]
  rfl
theorem list_word {op : Int32} (h : f9_kindOf (M 9) (f9_partOf (M 9) P 0) = 2) (ho : f10_of (f9_contentOf (M 9) (f9_partOf (M 9) P 0)) = op) (hn : ¬ op < 0) : f7_valueOfList VA M P d = if f7_fits M P op = true then wordV VA M P op d else (0, uW M 7 (u3 (M 7) 0 0 10 4)) := by
  unfold f7_valueOfList
  simp only [bnd_e]
  rw [if_pos h, ho, if_neg hn]
  by_cases c : f7_fits M P op = true
  · rw [if_pos c, if_pos c]
    unfold wordV
    simp only [bnd_e]
  · rw [if_neg c, if_neg c]
    rfl
theorem list_fun (h : f9_kindOf (M 9) (f9_partOf (M 9) P 0) = 2) (ho : f10_of (f9_contentOf (M 9) (f9_partOf (M 9) P 0)) < 0) : f7_valueOfList VA M P d = f7_valueOfFunction VA M (f9_contentOf (M 9) (f9_partOf (M 9) P 0)) P d := by
  unfold f7_valueOfList
  simp only [bnd_e]
  rw [if_pos h, if_pos ho]
theorem fun_none {x : Int32} (h : f2_definitionOf (M 2) x = -1) : f7_valueOfFunction VA M x P d = (0, uW M 7 (u3 (M 7) 0 0 10 3)) := by
  unfold f7_valueOfFunction
  simp only [bnd_e]
  rw [if_pos h]
  rfl
theorem fun_bad {x : Int32} (h : ¬ f2_definitionOf (M 2) x = -1) (h2 : ¬ f9_partsOf (M 9) P - 1 = f9_partsOf (M 9) (f9_partOf (M 9) (f2_definitionOf (M 2) x) 2)) : f7_valueOfFunction VA M x P d = (0, uW M 7 (u3 (M 7) 0 0 10 4)) := by
  unfold f7_valueOfFunction
  simp only [bnd_e]
  rw [if_neg h, if_neg h2]
  rfl
end OPS
