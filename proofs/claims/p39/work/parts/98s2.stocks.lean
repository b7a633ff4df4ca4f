/-! THE STOCKS: what the law asks of them -/
section STK
variable {s : ST} {M : Wm} {b : Cm} {g : Int32}
/-- what the orders up to one have moved out of the store -/
def lf (b : Cm) (o g j : Int32) : Int32 := if b 7 0 j = o then if b 5 0 j = g then (if b 3 0 j = -1 then b 6 0 j else 0) - (if b 4 0 j = -1 then b 6 0 j else 0) else 0 else 0
def lfs (b : Cm) (o g : Int32) : Nat → Int32
  | 0 => 0
  | n + 1 => lfs b o g n + lf b o g (nI n)
def lfo (b : Cm) (g : Int32) (n : Nat) : Nat → Int32
  | 0 => 0
  | o + 1 => lfo b g n o + lfs b (nI o) g n
theorem left_e (hc : 0 ≤ (b 0 0 7).toInt ∧ (b 0 0 7).toInt ≤ 3000) (o : Int32) : f1_leftStoreBy b o g = lfs b o g (b 0 0 7).toInt.toNat := by
  have key : ∀ (k : Nat) (i : Nat) (v : Int32), i ≤ (b 0 0 7).toInt.toNat → (b 0 0 7).toInt.toNat - i < k → v = lfs b o g i → f1_leftStoreBy_lp5 b o g k (nI i, v) = lfs b o g (b 0 0 7).toInt.toNat := by
    intro k
    induction k with
    | zero => intro i v _ hk _; omega
    | succ k ih =>
      intro i v hi hk hv
      rw [f1_leftStoreBy_lp5]
      have ti : (nI i).toInt = i := nI_toInt (by omega)
      by_cases c : b 0 0 7 ≤ nI i
      · rw [if_pos c]
        simp only [i32le] at c
        rw [hv, show i = (b 0 0 7).toInt.toNat by omega]
      · rw [if_neg c]
        simp only [i32le] at c
        have e1 : nI i + 1 = nI (i + 1) := by
          rw [i32eq, inc_t (by omega) (by omega), ti, nI_toInt (by omega)]; rfl
        simp only [jn_e, bnd_e, e1]
        have nx : ∀ v' : Int32, v' = lfs b o g (i + 1) → f1_leftStoreBy_lp5 b o g k (nI (i + 1), v') = lfs b o g (b 0 0 7).toInt.toNat := fun v' hv' => ih (i + 1) v' (by omega) (by omega) hv'
        have el : lfs b o g (i + 1) = v + lf b o g (nI i) := by rw [lfs, hv]
        unfold lf at el
        by_cases d1 : b 7 0 (nI i) = o
        · rw [if_pos d1] at el ⊢
          by_cases d2 : b 5 0 (nI i) = g
          · rw [if_pos d2] at el ⊢
            by_cases d3 : b 3 0 (nI i) = -1
            · rw [if_pos d3] at el ⊢
              by_cases d4 : b 4 0 (nI i) = -1
              · rw [if_pos d4] at el ⊢; exact nx _ (by rw [el]; grind)
              · rw [if_neg d4] at el ⊢; exact nx _ (by rw [el]; grind)
            · rw [if_neg d3] at el ⊢
              by_cases d4 : b 4 0 (nI i) = -1
              · rw [if_pos d4] at el ⊢; exact nx _ (by rw [el]; grind)
              · rw [if_neg d4] at el ⊢; exact nx _ (by rw [el]; grind)
          · rw [if_neg d2] at el ⊢; exact nx _ (by rw [el]; grind)
        · rw [if_neg d1] at el ⊢; exact nx _ (by rw [el]; grind)
  exact key 3001 0 0 (Nat.zero_le _) (by omega) rfl
theorem lfo_step (b : Cm) (g : Int32) (n : Nat) : ∀ k : Nat, lfo b g (n + 1) k = lfo b g n k + (if 0 ≤ (b 7 0 (nI n)).toInt ∧ (b 7 0 (nI n)).toInt < k then lf b (b 7 0 (nI n)) g (nI n) else 0) := by
  intro k
  induction k with
  | zero =>
    rw [if_neg (by omega)]; rfl
  | succ k ih => sorry
/-- the store's stock is what was supplied less what all orders moved out -/
theorem store_e (n : Int32) (hn : 0 ≤ n.toInt ∧ n.toInt ≤ 60) : ∀ k : Nat, (∀ j : Nat, j < k → 0 ≤ (b 7 0 (nI j)).toInt ∧ (b 7 0 (nI j)).toInt < n.toInt) → tm b 0 g k = b 2 0 g - lfo b g k n.toInt.toNat := by
  sorry
end STK
