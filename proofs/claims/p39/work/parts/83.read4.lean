/-! READING: the faults of both -/
section READ
variable {M : Wm}
/-- texts alike -/
def RelT (x m : Cm) : Prop := ∀ s : Int32, vp_in s 8 → x 2 0 s = m 3 0 s ∧ ∀ p : Int32, 0 ≤ p.toInt → p.toInt < (m 3 0 s).toInt → x 1 0 (s * 120 + p) = m 2 0 (120 * s + p)
theorem RelT.sign {x m : Cm} (h : RelT x m) {s p : Int32} (hs : vp_in s 8) (h0 : 0 ≤ p.toInt) (h1 : p.toInt < (m 3 0 s).toInt) : f8_signAt x s p = f12_signAt m s p := by
  unfold f8_signAt f12_signAt
  rw [if_neg (by simp only [i32le]; omega)]
  exact (h s hs).2 p h0 h1
def K8 (s : Int32) (y12 : Wm) : Int32 × Wm := if f6_mayEnd (y12 6) = true then ((-1), y12) else ((y12 8 2 0 s), y12)
def K12 (m : Cm) (s : Int32) (y16 : Int32 × Int32) : Int32 := if 0 < y16.1 then (m 3 0 s) else if y16.2 = 1 then (m 3 0 s) else (-1)
theorem takes_8 (N : Wm) (a b : Int32) : (f6_takesSign N a b).2 8 = N 8 := (rdS_takesSign N a b).1 8 (by decide) (by decide)
theorem read_c {x m : Cm} {s : Int32} (hT : RelT x m) (hS : SgS m s) (hs : vp_in s 8) (hL : 0 ≤ (m 3 0 s).toInt ∧ (m 3 0 s).toInt ≤ 120) : ∀ (n n' : Nat) (p st : Int32) (N : Wm), N 8 = x → Rd (N 6) st → (0 ≤ (N 6 0 0 2).toInt ∧ (N 6 0 0 2).toInt ≤ 20) → 0 ≤ p.toInt → p.toInt ≤ (m 3 0 s).toInt → 121 - p.toInt < n → 121 - p.toInt < n' → (f8_faultRead_lp13 s (K8 s) n (p, N)).1 = f12_faultOf_lp7 m s (K12 m s) n' (p, st, N 6 0 0 2) := by
  intro n
  induction n with
  | zero => intro n' p st N _ _ _ _ b c; omega
  | succ n ih =>
    intro n' p st N hN hR hd h0 h1 c c'
    cases n' with
    | zero => omega
    | succ n' =>
      rw [f8_faultRead_lp13_s, f12_faultOf_lp7_s]
      simp only [bnd_e, jn_e]
      rw [hN, (hT s hs).1]
      by_cases c0 : m 3 0 s ≤ p
      · rw [if_pos c0, if_pos c0]
        unfold K8 K12 f6_mayEnd
        dsimp only
        have one := hR.one
        rw [hN, (hT s hs).1]
        by_cases z : N 6 0 0 2 = 0
        · have nz : ¬ 0 < N 6 0 0 2 := by rw [z]; decide
          rw [if_pos z, if_neg nz]
          by_cases y : st = 1
          · rw [if_pos (one.mpr y), if_pos y, if_neg (show ¬ (false : Bool) = true by decide)]
          · rw [if_neg (fun q => y (one.mp q)), if_neg y, if_pos (show (true : Bool) = true from rfl)]
        · have : 0 < N 6 0 0 2 := by simp only [i32lt, t32_0]; rw [i32eq, t32_0] at z; omega
          rw [if_neg z, if_pos this, if_neg (show ¬ (false : Bool) = true by decide)]
      · rw [if_neg c0, if_neg c0]
        simp only [i32le] at c0
        have hp : p.toInt < (m 3 0 s).toInt := by omega
        have e1 : (p + 1).toInt = p.toInt + 1 := inc_t h0 (by omega)
        rw [hT.sign hs h0 hp]
        have sg := hS p h0 hp
        generalize f12_signAt m s p = g at sg
        have C := sign_c (M := N) (p := f9_placeOf s p) hR hd sg
        have body : (if (f6_takesSign N (f9_placeOf s p) g).1 = true then f8_faultRead_lp13 s (K8 s) n (p + 1, (f6_takesSign N (f9_placeOf s p) g).2) else (p, (f6_takesSign N (f9_placeOf s p) g).2)).1 = (if f12_read g st = -1 then p else if N 6 0 0 2 + dl32 g < 0 then p else if N 6 0 0 2 + dl32 g ≤ 20 then f12_faultOf_lp7 m s (K12 m s) n' (p + 1, f12_read g st, N 6 0 0 2 + dl32 g) else p) := by
          have t20 : (20 : Int32).toInt = 20 := by decide
          by_cases a1 : f12_read g st = -1
          · rw [if_pos a1, if_neg (by rw [C.2 (Or.inl a1)]; decide)]
          · rw [if_neg a1]
            by_cases a2 : N 6 0 0 2 + dl32 g < 0
            · rw [if_pos a2, if_neg (by rw [C.2 (Or.inr (Or.inl a2))]; decide)]
            · rw [if_neg a2]
              by_cases a3 : N 6 0 0 2 + dl32 g ≤ 20
              · obtain ⟨b1, b2, b3⟩ := C.1 a1 a2 a3
                rw [if_pos a3, if_pos b1, ← b3]
                refine ih n' (p + 1) (f12_read g st) (f6_takesSign N (f9_placeOf s p) g).2 ((takes_8 N _ _).trans hN) b2 ?_ (by omega) (by omega) (by omega) (by omega)
                rw [b3]
                simp only [i32lt, i32le, t32_0, t20] at a2 a3
                omega
              · rw [if_neg a3, if_neg (by rw [C.2 (Or.inr (Or.inr a3))]; decide)]
        rw [body]
        unfold dl32
        by_cases d1 : g = 40
        · rw [if_pos d1, if_pos d1]
        · rw [if_neg d1, if_neg d1]
          by_cases d2 : g = 41
          · rw [if_pos d2, if_pos d2]
          · rw [if_neg d2, if_neg d2]
/-- the class' fault of a text is the reference's -/
theorem fault_e {m : Cm} {s : Int32} (hT : RelT (M 8) m) (hS : SgS m s) (hs : vp_in s 8) (hk : Ok12 m) : (f8_faultRead M s).1 = f12_faultOf m s := by
  have hL := hk.len s hs
  have e1 : f8_faultRead M s = f8_faultRead_lp13 s (K8 s) 122 (0, f6_begin M (f9_rowOf s)) := rfl
  have e2 : f12_faultOf m s = f12_faultOf_lp7 m s (K12 m s) 122 (0, 0, 0) := rfl
  rw [e1, e2]
  exact read_c hT hS hs hL 122 122 0 0 (f6_begin M (f9_rowOf s)) rfl (Or.inl ⟨rfl, rfl⟩) ⟨by show 0 ≤ (0 : Int32).toInt; decide, by show (0 : Int32).toInt ≤ 20; decide⟩ (by decide) hL.1 (by decide) (by decide)
end READ
