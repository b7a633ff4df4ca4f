theorem i32lt (a b : Int32) : a < b ↔ a.toInt < b.toInt := Int32.lt_iff_toInt_lt
theorem i32le (a b : Int32) : a ≤ b ↔ a.toInt ≤ b.toInt := Int32.le_iff_toInt_le
theorem i32eq (a b : Int32) : a = b ↔ a.toInt = b.toInt := Int32.toInt_inj.symm
theorem bmE (x : Int) : x.bmod 4294967296 = (x + 2147483648) % 4294967296 - 2147483648 := by
  show (if x % 4294967296 < (4294967296 + 1) / 2 then x % 4294967296 else x % 4294967296 - 4294967296) = _
  by_cases h : x % 4294967296 < (4294967296 + 1) / 2
  · rw [if_pos h]; omega
  · rw [if_neg h]; omega
theorem i32add (a b : Int32) : (a + b).toInt = (a.toInt + b.toInt + 2147483648) % 4294967296 - 2147483648 := by
  rw [Int32.toInt_add]; exact bmE _
theorem i32sub (a b : Int32) : (a - b).toInt = (a.toInt - b.toInt + 2147483648) % 4294967296 - 2147483648 := by
  rw [Int32.toInt_sub]; exact bmE _
theorem i32mul (a b : Int32) : (a * b).toInt = (a.toInt * b.toInt + 2147483648) % 4294967296 - 2147483648 := by
  rw [Int32.toInt_mul]; exact bmE _
theorem i32neg (a : Int32) : (-a).toInt = (-a.toInt + 2147483648) % 4294967296 - 2147483648 := by
  rw [Int32.toInt_neg]; exact bmE _
theorem i32addn {a b : Int32} (h0 : -2147483648 ≤ a.toInt + b.toInt) (h1 : a.toInt + b.toInt ≤ 2147483647) : (a + b).toInt = a.toInt + b.toInt := by
  rw [i32add]; generalize a.toInt + b.toInt = x at *; omega
theorem i32subn {a b : Int32} (h0 : -2147483648 ≤ a.toInt - b.toInt) (h1 : a.toInt - b.toInt ≤ 2147483647) : (a - b).toInt = a.toInt - b.toInt := by
  rw [i32sub]; generalize a.toInt - b.toInt = x at *; omega
theorem i32muln {a b : Int32} (h0 : -2147483648 ≤ a.toInt * b.toInt) (h1 : a.toInt * b.toInt ≤ 2147483647) : (a * b).toInt = a.toInt * b.toInt := by
  rw [i32mul]; generalize a.toInt * b.toInt = x at *; omega
theorem i32rng (x : Int32) : -2147483648 ≤ x.toInt ∧ x.toInt ≤ 2147483647 := ⟨Int32.le_toInt x, by have := Int32.toInt_lt x; omega⟩
theorem vin_lit {i : Int32} {n : Nat} (h : decide (i < 0 ∨ n ≤ i.toNatClampNeg) = false) : vp_in i n := of_decide_eq_false h
def i2b (x : Int32) : Bool := decide (¬ x = 0)
theorem t32_0 : (0 : Int32).toInt = 0 := by decide
theorem t32_1 : (1 : Int32).toInt = 1 := by decide
theorem t32_2 : (2 : Int32).toInt = 2 := by decide
theorem t32_3 : (3 : Int32).toInt = 3 := by decide
theorem t32_4 : (4 : Int32).toInt = 4 := by decide
theorem t32_5 : (5 : Int32).toInt = 5 := by decide
theorem t32_6 : (6 : Int32).toInt = 6 := by decide
theorem t32_7 : (7 : Int32).toInt = 7 := by decide
theorem t32_8 : (8 : Int32).toInt = 8 := by decide
theorem t32_9 : (9 : Int32).toInt = 9 := by decide
theorem t32_10 : (10 : Int32).toInt = 10 := by decide
theorem t32_11 : (11 : Int32).toInt = 11 := by decide
theorem t32_12 : (12 : Int32).toInt = 12 := by decide
theorem t32_13 : (13 : Int32).toInt = 13 := by decide
theorem t32_14 : (14 : Int32).toInt = 14 := by decide
theorem t32_15 : (15 : Int32).toInt = 15 := by decide
theorem t32_16 : (16 : Int32).toInt = 16 := by decide
theorem t32_17 : (17 : Int32).toInt = 17 := by decide
theorem t32_18 : (18 : Int32).toInt = 18 := by decide
theorem t32_19 : (19 : Int32).toInt = 19 := by decide
theorem t32_20 : (20 : Int32).toInt = 20 := by decide
theorem t32_21 : (21 : Int32).toInt = 21 := by decide
theorem t32_22 : (22 : Int32).toInt = 22 := by decide
theorem t32_23 : (23 : Int32).toInt = 23 := by decide
theorem t32_24 : (24 : Int32).toInt = 24 := by decide
theorem t32_25 : (25 : Int32).toInt = 25 := by decide
theorem t32_26 : (26 : Int32).toInt = 26 := by decide
theorem t32_27 : (27 : Int32).toInt = 27 := by decide
theorem t32_28 : (28 : Int32).toInt = 28 := by decide
theorem t32_29 : (29 : Int32).toInt = 29 := by decide
theorem t32_30 : (30 : Int32).toInt = 30 := by decide
theorem t32_31 : (31 : Int32).toInt = 31 := by decide
theorem t32_32 : (32 : Int32).toInt = 32 := by decide
theorem t32_33 : (33 : Int32).toInt = 33 := by decide
theorem t32_34 : (34 : Int32).toInt = 34 := by decide
theorem t32_35 : (35 : Int32).toInt = 35 := by decide
theorem t32_36 : (36 : Int32).toInt = 36 := by decide
theorem t32_37 : (37 : Int32).toInt = 37 := by decide
theorem t32_38 : (38 : Int32).toInt = 38 := by decide
theorem t32_39 : (39 : Int32).toInt = 39 := by decide
theorem t32_40 : (40 : Int32).toInt = 40 := by decide
theorem t32_41 : (41 : Int32).toInt = 41 := by decide
theorem t32_42 : (42 : Int32).toInt = 42 := by decide
theorem t32_43 : (43 : Int32).toInt = 43 := by decide
theorem t32_44 : (44 : Int32).toInt = 44 := by decide
theorem t32_45 : (45 : Int32).toInt = 45 := by decide
theorem t32_46 : (46 : Int32).toInt = 46 := by decide
theorem t32_47 : (47 : Int32).toInt = 47 := by decide
theorem t32_48 : (48 : Int32).toInt = 48 := by decide
theorem t32_49 : (49 : Int32).toInt = 49 := by decide
theorem t32_50 : (50 : Int32).toInt = 50 := by decide
theorem t32_51 : (51 : Int32).toInt = 51 := by decide
theorem t32_52 : (52 : Int32).toInt = 52 := by decide
theorem t32_53 : (53 : Int32).toInt = 53 := by decide
theorem t32_54 : (54 : Int32).toInt = 54 := by decide
theorem t32_55 : (55 : Int32).toInt = 55 := by decide
theorem t32_56 : (56 : Int32).toInt = 56 := by decide
theorem t32_57 : (57 : Int32).toInt = 57 := by decide
theorem t32_58 : (58 : Int32).toInt = 58 := by decide
theorem t32_59 : (59 : Int32).toInt = 59 := by decide
theorem t32_60 : (60 : Int32).toInt = 60 := by decide
theorem t32_61 : (61 : Int32).toInt = 61 := by decide
theorem t32_62 : (62 : Int32).toInt = 62 := by decide
theorem t32_63 : (63 : Int32).toInt = 63 := by decide
theorem t32_90 : (90 : Int32).toInt = 90 := by decide
theorem t32_96 : (96 : Int32).toInt = 96 := by decide
theorem t32_97 : (97 : Int32).toInt = 97 := by decide
theorem t32_100 : (100 : Int32).toInt = 100 := by decide
theorem t32_108 : (108 : Int32).toInt = 108 := by decide
theorem t32_119 : (119 : Int32).toInt = 119 := by decide
theorem t32_120 : (120 : Int32).toInt = 120 := by decide
theorem t32_121 : (121 : Int32).toInt = 121 := by decide
theorem t32_122 : (122 : Int32).toInt = 122 := by decide
theorem t32_960 : (960 : Int32).toInt = 960 := by decide
theorem t32_968 : (968 : Int32).toInt = 968 := by decide
theorem t32_999 : (999 : Int32).toInt = 999 := by decide
theorem t32_1000 : (1000 : Int32).toInt = 1000 := by decide
theorem t32_2999 : (2999 : Int32).toInt = 2999 := by decide
theorem t32_3000 : (3000 : Int32).toInt = 3000 := by decide
theorem t32_1000000 : (1000000 : Int32).toInt = 1000000 := by decide
def fvp (M : Wm) (_ : Unit) : Option Value × Wm := (none, M)
section AUX
variable {σ : Type} {p : Program} {l : Launch} {e : Env} {R : Room} {s : State} {m : MethodId} {args : Array Value} {below : List Frame} {meth : Method} {c : Code} {cells slots : Nat} {Q : σ → State → Prop} {D : va_G} {ta : wTa} {ad : wAd} {n : Nat} {M : Wm} {pc q : Nat} {lv lv' : List (Nat × Value)} {st : List Value} {S A B : σ} {own : String} {cc : ByteArray}
theorem mw_bndM {K : Wm → σ} (k : ∀ v : Wm, v = M → mw p l e R s m args below meth c cells slots Q D ta ad n v pc lv st (K v)) : mw p l e R s m args below meth c cells slots Q D ta ad n M pc lv st (bnd M K) := k M rfl
theorem mw_jnP {α : Type} {K : α → σ} {T : (α → σ) → σ} (P : α → Prop) (Mj : α → Wm) (pj : Nat) (lj : α → List (Nat × Value)) (sj : α → List Value) (hJ : ∀ v : α, P v → mw p l e R s m args below meth c cells slots Q D ta ad n (Mj v) pj (lj v) (sj v) (K v)) (hT : ∀ K' : α → σ, (∀ v : α, P v → mw p l e R s m args below meth c cells slots Q D ta ad n (Mj v) pj (lj v) (sj v) (K' v)) → mw p l e R s m args below meth c cells slots Q D ta ad n M pc lv st (T K')) : mw p l e R s m args below meth c cells slots Q D ta ad n M pc lv st (jn K T) := hT K hJ
theorem mw_zretI (cx : Cx p s m args meth c D ta ad own cc n) {fin : σ → Option Value × Wm} {x : Int32} (hr : meth.sig.returnType = some .boolean) (hx : x = 0 ∨ x = 1) (hz : fin S = (some (.int (b2i (i2b x))), M)) (hd : decode cc pc = .ok (.ireturn, 1)) : mw p l e R s m args below meth c cells slots (fun S => MQ below (mQ D ta ad (fin S)) args s cells slots (wA ad)) D ta ad n M pc lv [.int x] S := by
  have h : b2i (i2b x) = x := by rcases hx with rfl | rfl <;> rfl
  rw [h] at hz
  exact mw_zret cx hr (by rw [← h]; exact b2i_nar _) hz hd
end AUX
theorem vi_1_0 : vp_in 0 (wcnt 1 0) := vin_lit (by decide)
theorem vi_1_1 : vp_in 0 (wcnt 1 1) := vin_lit (by decide)
theorem vi_1_2 : vp_in 0 (wcnt 1 2) := vin_lit (by decide)
theorem vi_1_3 : vp_in 0 (wcnt 1 3) := vin_lit (by decide)
theorem vi_1_4 : vp_in 0 (wcnt 1 4) := vin_lit (by decide)
theorem vi_1_5 : vp_in 0 (wcnt 1 5) := vin_lit (by decide)
theorem vi_1_6 : vp_in 0 (wcnt 1 6) := vin_lit (by decide)
theorem vi_1_7 : vp_in 0 (wcnt 1 7) := vin_lit (by decide)
theorem vi_2_0 : vp_in 0 (wcnt 2 0) := vin_lit (by decide)
theorem vi_2_1 : vp_in 0 (wcnt 2 1) := vin_lit (by decide)
theorem vi_2_2 : vp_in 0 (wcnt 2 2) := vin_lit (by decide)
theorem vi_2_5 : vp_in 0 (wcnt 2 5) := vin_lit (by decide)
theorem vi_2_6 : vp_in 0 (wcnt 2 6) := vin_lit (by decide)
theorem vi_4_0 : vp_in 0 (wcnt 4 0) := vin_lit (by decide)
theorem vi_4_1 : vp_in 0 (wcnt 4 1) := vin_lit (by decide)
theorem vi_5_0 : vp_in 0 (wcnt 5 0) := vin_lit (by decide)
theorem vi_5_1 : vp_in 0 (wcnt 5 1) := vin_lit (by decide)
theorem vi_5_2 : vp_in 0 (wcnt 5 2) := vin_lit (by decide)
theorem vi_5_3 : vp_in 0 (wcnt 5 3) := vin_lit (by decide)
theorem vi_5_4 : vp_in 0 (wcnt 5 4) := vin_lit (by decide)
theorem vi_5_5 : vp_in 0 (wcnt 5 5) := vin_lit (by decide)
theorem vi_6_0 : vp_in 0 (wcnt 6 0) := vin_lit (by decide)
theorem vi_6_2 : vp_in 0 (wcnt 6 2) := vin_lit (by decide)
theorem vi_7_0 : vp_in 0 (wcnt 7 0) := vin_lit (by decide)
theorem vi_8_0 : vp_in 0 (wcnt 8 0) := vin_lit (by decide)
theorem vi_8_1 : vp_in 0 (wcnt 8 1) := vin_lit (by decide)
theorem vi_8_2 : vp_in 0 (wcnt 8 2) := vin_lit (by decide)
theorem vi_8_3 : vp_in 0 (wcnt 8 3) := vin_lit (by decide)
theorem vi_8_4 : vp_in 0 (wcnt 8 4) := vin_lit (by decide)
theorem vi_9_0 : vp_in 0 (wcnt 9 0) := vin_lit (by decide)
theorem vi_9_1 : vp_in 0 (wcnt 9 1) := vin_lit (by decide)
theorem vi_9_2 : vp_in 0 (wcnt 9 2) := vin_lit (by decide)
theorem vi_9_3 : vp_in 0 (wcnt 9 3) := vin_lit (by decide)
theorem vi_9_4 : vp_in 0 (wcnt 9 4) := vin_lit (by decide)
theorem vi_9_5 : vp_in 0 (wcnt 9 5) := vin_lit (by decide)
theorem vi_9_6 : vp_in 0 (wcnt 9 6) := vin_lit (by decide)
theorem vi_11_0 : vp_in 0 (wcnt 11 0) := vin_lit (by decide)
theorem vi_13_0 : vp_in 0 (wcnt 13 0) := vin_lit (by decide)
theorem ld_X7_267 : Cond.constant RX7 267 1000000 ∈ BG := BG_at 922 (by decide +kernel) (by decide +kernel)
