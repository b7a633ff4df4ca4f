/-! the run of an order: start to end -/
def endB (p1 : Int32) (v17 : Wm) : Wm := bnd (uW v17 4 (u3 (v17 4) 4 p1 8 ((v17 4 4 p1 8) + (v17 7 0 0 9)))) (fun (M34 : Wm) => bnd (f7_stateThen (M34 7)) (fun (r36 : Int32) => bnd (uW M34 4 (u3 (M34 4) 4 p1 4 r36)) (fun (M37 : Wm) => jn (fun (v39 : Int32) => bnd (uW M37 4 (u3 (M37 4) 4 p1 5 v39)) (fun (M42 : Wm) => M42)) (fun K40 => if (M37 4 4 p1 4) = 3 then K40 (v17 7 0 0 10) else K40 0))))
theorem endB_e (w : Int32) (M : Wm) : endB w M = endW M w := by
  unfold endB endW
  simp only [bnd_e, jn_e]
  have e : (uW (uW M 4 (u3 (M 4) 4 w 8 (M 4 4 w 8 + M 7 0 0 9))) 4 (u3 (uW M 4 (u3 (M 4) 4 w 8 (M 4 4 w 8 + M 7 0 0 9)) 4) 4 w 4 (f7_stateThen (uW M 4 (u3 (M 4) 4 w 8 (M 4 4 w 8 + M 7 0 0 9)) 7)))) 4 4 w 4 = f7_stateThen (M 7) := by
    show u3 _ 4 w 4 _ 4 w 4 = _
    rw [u3_at]; rfl
  rw [e]
  by_cases c : f7_stateThen (M 7) = 3
  · rw [if_pos c, if_pos c, uW_uW, uW_uW]; rfl
  · rw [if_neg c, if_neg c, uW_uW, uW_uW]; rfl
def st0 (M : Wm) (p1 p2 : Int32) : Wm := bnd (uW M 7 (u3 (M 7) 0 0 6 p1)) (fun (M1 : Wm) => bnd (uW M1 7 (u3 (M1 7) 0 0 7 (M 4 4 p1 0))) (fun (M3 : Wm) => bnd (uW M3 7 (u3 (M3 7) 0 0 8 p2)) (fun (M5 : Wm) => bnd (uW M5 7 (u3 (M5 7) 0 0 9 0)) (fun (M7 : Wm) => bnd (uW M7 7 (u3 (M7 7) 0 0 10 0)) (fun (M9 : Wm) => bnd (f2_clear (M9 2)) (fun (r11 : Cm) => bnd (uW M9 2 r11) (fun (M12 : Wm) => M12)))))))
theorem execute_d (M : Wm) (p1 p2 : Int32) : f7_execute M p1 p2 = bnd (f8_readChanged (st0 M p1 p2)) (fun (r14 : Wm) => bnd (f8_faultOf (r14 8) (r14 4 4 p1 1)) (fun (r16 : Int32) => jn (fun (v17 : Wm) => endB p1 v17) (fun K18 => if r16 = (-1) then bnd (f9_rowOf (r14 4 4 p1 1)) (fun (r20 : Int32) => bnd (f9_partOf (r14 9) r20 (r14 4 4 p1 6)) (fun (r21 : Int32) => bnd ((r14 4 4 p1 6)) (fun (v22 : Int32) => f7_execute_lp105 p1 K18 r20 (4294967296 + 0 * (p1).toInt.toNat) (v22, r21, r14)))) else bnd (uW r14 7 (u3 (r14 7) 0 0 10 1)) (fun (M32 : Wm) => K18 M32)))) := rfl
theorem execute_e {N M : Wm} {p1 p2 : Int32} (hN : f8_readChanged (st0 M p1 p2) = N) : f7_execute M p1 p2 = if f8_faultOf (N 8) (N 4 4 p1 1) = -1 then f7_execute_lp105 p1 (endB p1) (f9_rowOf (N 4 4 p1 1)) (4294967296 + 0 * (p1).toInt.toNat) (N 4 4 p1 6, f9_partOf (N 9) (f9_rowOf (N 4 4 p1 1)) (N 4 4 p1 6), N) else endB p1 (uW N 7 (u3 (N 7) 0 0 10 1)) := by
  rw [execute_d]
  simp only [bnd_e, jn_e]
  rw [hN]
  try rfl
def st7 (M : Wm) (p1 p2 : Int32) : Cm := u3 (u3 (u3 (u3 (u3 (M 7) 0 0 6 p1) 0 0 7 (M 4 4 p1 0)) 0 0 8 p2) 0 0 9 0) 0 0 10 0
theorem st0_c (M : Wm) (p1 p2 : Int32) : st0 M p1 p2 7 = st7 M p1 p2 ∧ st0 M p1 p2 2 = f2_clear (M 2) ∧ st0 M p1 p2 1 = M 1 ∧ st0 M p1 p2 4 = M 4 ∧ st0 M p1 p2 5 = M 5 := by
  refine ⟨?_, ?_, ?_, ?_, ?_⟩
  · rfl
  · rfl
  · rfl
  · rfl
  · rfl
/-- the reference's run -/
def runF (m : Cm) (w : Int32) : Cm := u3 (u3 (u3 (u3 (u3 (u3 m 0 0 56 w) 0 0 57 (m 13 0 w)) 0 0 58 0) 0 0 50 0) 17 0 w 3) 18 0 w 1
theorem run_e {m : Cm} {w s : Int32} (hs : m 14 0 w = s) : f12_run m w = if f12_faultOf m s = -1 then f12_run_lp96 m w s (run0 m w) (fun (y35 : Int32) => f12_run_lp128 w s 123 (y35, run0 m w)) 123 (0, f12_nextAt (run0 m w) s 0) else f12_run_lp96 m w s (runF m w) (fun (y35 : Int32) => f12_run_lp128 w s 123 (y35, runF m w)) 123 (0, -1) := by
  unfold f12_run
  simp only [bnd_e, jn_e, hs]
  by_cases c : f12_faultOf m s = -1
  · rw [if_pos c, if_pos c]
    simp only [if_true]
    rfl
  · rw [if_neg c, if_neg c]
    simp only [Bool.false_eq_true, if_false]
    rfl
theorem lp96_m1 {m m22 : Cm} {w s : Int32} {K : Int32 → Cm} {f : Nat} {c : Int32} : f12_run_lp96 m w s m22 K (f + 1) (c, -1) = K (-1) := by
  rw [f12_run_lp96_s]
  simp only [bnd_e]
  by_cases c1 : m 19 0 w ≤ c
  · rw [if_pos c1]
  · rw [if_neg c1, if_pos trivial]
