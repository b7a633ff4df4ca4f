/-! THE LAW'S FIRST BYTES, and the world behind them -/
def Lw (ta : wTa) (bs : Nat) : List va_E := [.inr (9, [.ref (bs + 1), .ref (bs + 8), .ref (bs + 15), .ref (bs + 29), .ref (bs + 42), .ref (bs + 104)]), .inr (8, [.ref (bs + 2), .ref (bs + 3), .ref (bs + 4), .ref (bs + 5), .ref (bs + 6), .ref (bs + 7)]), aI ta 968, aI ta 968, aI ta 968, aI ta 968, aI ta 968, aI ta 968, .inr (7, [.ref (bs + 9), .ref (bs + 10), .ref (bs + 11), .ref (bs + 12), .ref (bs + 13)]), aI ta 960, aI ta 8, aI ta 8, aZ ta 8, .inr (5, [.ref (bs + 1), .ref (bs + 14), .int 0, .int 0, .int 0, .int 0, .int 0]), aI ta 21, .inr (4, [.ref (bs + 16), .ref (bs + 17), .ref (bs + 18), .ref (bs + 19), .ref (bs + 24), .int 10]), aI ta 4, aI ta 4, aZ ta 4, aR ta 2 4 (bs + 20), aI ta 4, aI ta 4, aI ta 4, aI ta 4, aR ta 2 4 (bs + 25), aI ta 4, aI ta 4, aI ta 4, aI ta 4, .inr (0, [.ref (bs + 30), .ref (bs + 36), .ref (bs + 37), .ref (bs + 38), .ref (bs + 39), .ref (bs + 40), .ref (bs + 41), .int 0]), aR ta 2 5 (bs + 31), aI ta 8, aI ta 8, aI ta 8, aI ta 8, aI ta 8, aI ta 8, aI ta 3000, aI ta 3000, aI ta 3000, aI ta 3000, aI ta 3000, .inr (3, [.ref (bs + 43), .int 0, .int 0]), aR ta 3 60 (bs + 44), oOrd, oOrd, oOrd, oOrd, oOrd, oOrd, oOrd, oOrd, oOrd, oOrd, oOrd, oOrd, oOrd, oOrd, oOrd, oOrd, oOrd, oOrd, oOrd, oOrd, oOrd, oOrd, oOrd, oOrd, oOrd, oOrd, oOrd, oOrd, oOrd, oOrd, oOrd, oOrd, oOrd, oOrd, oOrd, oOrd, oOrd, oOrd, oOrd, oOrd, oOrd, oOrd, oOrd, oOrd, oOrd, oOrd, oOrd, oOrd, oOrd, oOrd, oOrd, oOrd, oOrd, oOrd, oOrd, oOrd, oOrd, oOrd, oOrd, oOrd, .inr (6, [.ref (bs + 1), .ref (bs + 8), .ref (bs + 15), .ref (bs + 29), .ref (bs + 42), .ref (bs + 105), .int 0, .int 0, .int 0, .int 0, .int 0]), .inr (1, [.ref (bs + 106), .ref (bs + 107), .int 0, .int 0, .ref (bs + 108), .ref (bs + 109), .int 0]), aI ta 90, aI ta 90, aI ta 8, aI ta 8, .inr (10, [.int 0, .ref (bs + 111), .ref (bs + 112), .ref (bs + 113), .ref (bs + 114), .ref (bs + 115), .ref (bs + 116), .ref (bs + 117), .ref (bs + 118), .int 10, .int 0, .int 0, .ref (bs + 119), .ref (bs + 120), .ref (bs + 121), .ref (bs + 122), .ref (bs + 123), .ref (bs + 124), .ref (bs + 125), .ref (bs + 126), .ref (bs + 127), .int 0, .ref (bs + 128), .ref (bs + 129), .ref (bs + 130), .ref (bs + 131), .ref (bs + 132), .ref (bs + 133), .ref (bs + 134), .ref (bs + 135), .ref (bs + 136), .ref (bs + 137), .ref (bs + 138), .ref (bs + 139), .ref (bs + 140), .ref (bs + 141), .ref (bs + 142), .ref (bs + 143), .ref (bs + 144), .ref (bs + 145), .ref (bs + 146), .ref (bs + 147), .ref (bs + 148), .ref (bs + 149), .ref (bs + 150), .int 0, .ref (bs + 151), .ref (bs + 152), .int 0, .int 0, .int 0, .ref (bs + 153), .ref (bs + 154), .ref (bs + 155), .ref (bs + 156), .ref (bs + 157), .int 0, .int 0, .int 0, .int 0, .int 0, .int 0, .int 0, .int 0]), aI ta 960, aI ta 8, aI ta 40, aI ta 4, aI ta 4, aI ta 16, aI ta 16, aZ ta 4, aI ta 60, aI ta 60, aI ta 60, aI ta 60, aI ta 60, aI ta 60, aI ta 60, aI ta 60, aI ta 60, aI ta 3000, aI ta 3000, aI ta 3000, aI ta 3000, aI ta 3000, aF ta 26 (upd (upd (upd (upd (upd (upd (upd (upd (upd (upd (upd (upd (upd (upd (upd (upd (upd (upd (upd (upd (upd (upd (upd (upd (upd (upd (fun _ => 0) 0 841) 1 14420) 2 10056) 3 9734) 4 9528) 5 3181) 6 9886) 7 240373) 8 375062) 9 10631) 10 1111) 11 423) 12 249) 13 12387497) 14 123) 15 8903) 16 14006) 17 3057) 18 394691) 19 12251) 20 144941) 21 47) 22 60114) 23 2050) 24 133554) 25 168984), aF ta 26 (upd (upd (upd (upd (upd (upd (upd (upd (upd (upd (upd (upd (upd (upd (upd (upd (upd (upd (upd (upd (upd (upd (upd (upd (upd (upd (fun _ => 0) 0 2) 1 2) 2 2) 3 2) 4 2) 5 2) 6 2) 7 2) 8 2) 9 1) 10 2) 11 2) 12 3) 13 2) 14 1) 15 3) 16 2) 17 3) 18 2) 19 2) 20 3) 21 3) 22 1) 23 1) 24 0) 25 0), aF ta 26 (upd (upd (upd (upd (upd (upd (upd (upd (upd (upd (upd (upd (upd (upd (upd (upd (upd (upd (upd (upd (upd (upd (upd (upd (upd (upd (fun _ => 0) 0 2) 1 2) 2 2) 3 2) 4 2) 5 2) 6 2) 7 2) 8 2) 9 1) 10 2) 11 2) 12 3) 13 99) 14 99) 15 99) 16 2) 17 3) 18 2) 19 2) 20 3) 21 3) 22 1) 23 1) 24 0) 25 0), aI ta 32, aI ta 32, aI ta 32, aI ta 32, aI ta 32, aI ta 32, aI ta 32, aI ta 32, aI ta 32, aI ta 32, aI ta 32, aI ta 32, aI ta 96, aI ta 32, aI ta 32, aI ta 100, aI ta 100, aI ta 8, aI ta 8, aI ta 24, aI ta 8, aI ta 8, .inl (ta 4, 1, .inr (.inl (fun _ => 0)))]
def ix (c g : Nat) (i : Int32) : Nat := match c, g with
  | 1, 0 => 29
  | 1, 1 => 30
  | 1, 2 => 36
  | 1, 3 => 37
  | 1, 4 => 38
  | 1, 5 => 39
  | 1, 6 => 40
  | 1, 7 => 41
  | 1, 8 => 31 + i.toNatClampNeg
  | 2, 0 => 105
  | 2, 1 => 106
  | 2, 2 => 107
  | 2, 5 => 108
  | 2, 6 => 109
  | 4, 0 => 42
  | 4, 1 => 43
  | 4, 4 => 44 + i.toNatClampNeg
  | 5, 0 => 15
  | 5, 1 => 16
  | 5, 2 => 17
  | 5, 3 => 18
  | 5, 4 => 19
  | 5, 5 => 24
  | 5, 7 => 20 + i.toNatClampNeg
  | 5, 8 => 25 + i.toNatClampNeg
  | 6, 0 => 13
  | 6, 2 => 14
  | 7, 0 => 104
  | 8, 0 => 8
  | 8, 1 => 9
  | 8, 2 => 10
  | 8, 3 => 11
  | 8, 4 => 12
  | 9, 0 => 1
  | 9, 1 => 2
  | 9, 2 => 3
  | 9, 3 => 4
  | 9, 4 => 5
  | 9, 5 => 6
  | 9, 6 => 7
  | 11, 0 => 0
  | 12, 0 => 110
  | 12, 2 => 111
  | 12, 3 => 112
  | 12, 4 => 113
  | 12, 5 => 114
  | 12, 6 => 115
  | 12, 7 => 116
  | 12, 8 => 117
  | 12, 9 => 118
  | 12, 13 => 119
  | 12, 14 => 120
  | 12, 15 => 121
  | 12, 16 => 122
  | 12, 17 => 123
  | 12, 18 => 124
  | 12, 19 => 125
  | 12, 20 => 126
  | 12, 21 => 127
  | 12, 23 => 128
  | 12, 24 => 129
  | 12, 25 => 130
  | 12, 26 => 131
  | 12, 27 => 132
  | 12, 28 => 133
  | 12, 29 => 134
  | 12, 30 => 135
  | 12, 31 => 136
  | 12, 32 => 137
  | 12, 33 => 138
  | 12, 34 => 139
  | 12, 35 => 140
  | 12, 36 => 141
  | 12, 37 => 142
  | 12, 38 => 143
  | 12, 39 => 144
  | 12, 40 => 145
  | 12, 41 => 146
  | 12, 42 => 147
  | 12, 43 => 148
  | 12, 44 => 149
  | 12, 45 => 150
  | 12, 47 => 151
  | 12, 48 => 152
  | 12, 52 => 153
  | 12, 53 => 154
  | 12, 54 => 155
  | 12, 55 => 156
  | 12, 56 => 157
  | 13, 0 => 158
  | _, _ => 0
def adW (bs : Nat) (a10 : Nat → Int32 → Nat) : wAd := fun c g i => match c with
  | 10 => a10 g i
  | _ => bs + ix c g i
def tbW : List (Nat × Nat × Nat) := [(11, 0, 0), (9, 0, 0), (9, 1, 0), (9, 2, 0), (9, 3, 0), (9, 4, 0), (9, 5, 0), (9, 6, 0), (8, 0, 0), (8, 1, 0), (8, 2, 0), (8, 3, 0), (8, 4, 0), (6, 0, 0), (6, 2, 0), (5, 0, 0), (5, 1, 0), (5, 2, 0), (5, 3, 0), (5, 4, 0), (5, 7, 0), (5, 7, 1), (5, 7, 2), (5, 7, 3), (5, 5, 0), (5, 8, 0), (5, 8, 1), (5, 8, 2), (5, 8, 3), (1, 0, 0), (1, 1, 0), (1, 8, 0), (1, 8, 1), (1, 8, 2), (1, 8, 3), (1, 8, 4), (1, 2, 0), (1, 3, 0), (1, 4, 0), (1, 5, 0), (1, 6, 0), (1, 7, 0), (4, 0, 0), (4, 1, 0), (4, 4, 0), (4, 4, 1), (4, 4, 2), (4, 4, 3), (4, 4, 4), (4, 4, 5), (4, 4, 6), (4, 4, 7), (4, 4, 8), (4, 4, 9), (4, 4, 10), (4, 4, 11), (4, 4, 12), (4, 4, 13), (4, 4, 14), (4, 4, 15), (4, 4, 16), (4, 4, 17), (4, 4, 18), (4, 4, 19), (4, 4, 20), (4, 4, 21), (4, 4, 22), (4, 4, 23), (4, 4, 24), (4, 4, 25), (4, 4, 26), (4, 4, 27), (4, 4, 28), (4, 4, 29), (4, 4, 30), (4, 4, 31), (4, 4, 32), (4, 4, 33), (4, 4, 34), (4, 4, 35), (4, 4, 36), (4, 4, 37), (4, 4, 38), (4, 4, 39), (4, 4, 40), (4, 4, 41), (4, 4, 42), (4, 4, 43), (4, 4, 44), (4, 4, 45), (4, 4, 46), (4, 4, 47), (4, 4, 48), (4, 4, 49), (4, 4, 50), (4, 4, 51), (4, 4, 52), (4, 4, 53), (4, 4, 54), (4, 4, 55), (4, 4, 56), (4, 4, 57), (4, 4, 58), (4, 4, 59), (7, 0, 0), (2, 0, 0), (2, 1, 0), (2, 2, 0), (2, 5, 0), (2, 6, 0), (12, 0, 0), (12, 2, 0), (12, 3, 0), (12, 4, 0), (12, 5, 0), (12, 6, 0), (12, 7, 0), (12, 8, 0), (12, 9, 0), (12, 13, 0), (12, 14, 0), (12, 15, 0), (12, 16, 0), (12, 17, 0), (12, 18, 0), (12, 19, 0), (12, 20, 0), (12, 21, 0), (12, 23, 0), (12, 24, 0), (12, 25, 0), (12, 26, 0), (12, 27, 0), (12, 28, 0), (12, 29, 0), (12, 30, 0), (12, 31, 0), (12, 32, 0), (12, 33, 0), (12, 34, 0), (12, 35, 0), (12, 36, 0), (12, 37, 0), (12, 38, 0), (12, 39, 0), (12, 40, 0), (12, 41, 0), (12, 42, 0), (12, 43, 0), (12, 44, 0), (12, 45, 0), (12, 47, 0), (12, 48, 0), (12, 52, 0), (12, 53, 0), (12, 54, 0), (12, 55, 0), (12, 56, 0), (13, 0, 0)]
def keysW : List (Nat × Nat) := [(1, 0), (1, 1), (1, 2), (1, 3), (1, 4), (1, 5), (1, 6), (1, 7), (1, 8), (2, 0), (2, 1), (2, 2), (2, 5), (2, 6), (4, 0), (4, 1), (4, 4), (5, 0), (5, 1), (5, 2), (5, 3), (5, 4), (5, 5), (5, 7), (5, 8), (6, 0), (6, 2), (7, 0), (8, 0), (8, 1), (8, 2), (8, 3), (8, 4), (9, 0), (9, 1), (9, 2), (9, 3), (9, 4), (9, 5), (9, 6), (11, 0), (12, 0), (12, 2), (12, 3), (12, 4), (12, 5), (12, 6), (12, 7), (12, 8), (12, 9), (12, 13), (12, 14), (12, 15), (12, 16), (12, 17), (12, 18), (12, 19), (12, 20), (12, 21), (12, 23), (12, 24), (12, 25), (12, 26), (12, 27), (12, 28), (12, 29), (12, 30), (12, 31), (12, 32), (12, 33), (12, 34), (12, 35), (12, 36), (12, 37), (12, 38), (12, 39), (12, 40), (12, 41), (12, 42), (12, 43), (12, 44), (12, 45), (12, 47), (12, 48), (12, 52), (12, 53), (12, 54), (12, 55), (12, 56), (13, 0)]
def M0 : Wm := fun c g _ j => match c, g with
  | 12, 28 => wdCode j
  | 12, 29 => lst12 j
  | 12, 30 => mst12 j
  | 12, 0 => if j = 9 then 10 else 0
  | 5, 0 => if j = 5 then 10 else 0
  | _, _ => 0
theorem keys_ok : ∀ c, c < 14 → ∀ g, g < 60 → wcnt c g = 0 ∨ (c, g) ∈ keysW := by decide +kernel
theorem tb_ok : ∀ k, k ∈ keysW → ∀ n, n < wcnt k.1 k.2 → tbW[ix k.1 k.2 (nI n)]? = some (k.1, k.2, n) := by decide +kernel
theorem not10 : ∀ k, k ∈ keysW → ¬ k.1 = 10 := by decide
theorem wcnt_lt {c g : Nat} (h : ¬ wcnt c g = 0) : c < 14 ∧ g < 60 := by
  refine ⟨?_, ?_⟩
  · rcases Nat.lt_or_ge c 14 with q | q
    · exact q
    · exfalso
      apply h
      unfold wcnt
      split <;> first | rfl | omega
  · rcases Nat.lt_or_ge g 60 with q | q
    · exact q
    · exfalso
      apply h
      unfold wcnt
      split <;> (repeat' split) <;> first | rfl | omega
theorem wcnt_le : ∀ c, c < 14 → ∀ g, g < 60 → wcnt c g ≤ 60 := by decide +kernel
/-- which cells there are -/
theorem cell_k {c g : Nat} {i : Int32} (h : vp_in i (wcnt c g)) : (c, g) ∈ keysW ∧ ∃ n, n < wcnt c g ∧ i = nI n ∧ n ≤ 60 := by
  have hz : ¬ wcnt c g = 0 := by
    intro z
    rw [z, vp_in_iff] at h
    omega
  obtain ⟨hc, hg⟩ := wcnt_lt hz
  refine ⟨(keys_ok c hc g hg).resolve_left hz, i.toInt.toNat, ?_, ?_, ?_⟩
  · rw [vp_in_iff] at h; omega
  · rw [vp_in_iff] at h
    have := wcnt_le c hc g hg
    exact (nI_e (by omega)).symm
  · rw [vp_in_iff] at h
    have := wcnt_le c hc g hg
    omega
theorem ad_e {bs : Nat} {a10 : Nat → Int32 → Nat} {c g : Nat} {i : Int32} (h : ¬ c = 10) : adW bs a10 c g i = bs + ix c g i := by
  unfold adW
  split
  · exact absurd rfl h
  · rfl
theorem wI_W (bs : Nat) (a10 : Nat → Int32 → Nat) : wI (adW bs a10) := by
  intro c g i c2 g2 i2 h h2 e
  obtain ⟨k1, n1, hn1, rfl, _⟩ := cell_k h
  obtain ⟨k2, n2, hn2, rfl, _⟩ := cell_k h2
  have q1 : ¬ c = 10 := not10 _ k1
  have q2 : ¬ c2 = 10 := not10 _ k2
  rw [ad_e q1, ad_e q2] at e
  have t1 : tbW[ix c g (nI n1)]? = some (c, g, n1) := tb_ok (c, g) k1 n1 hn1
  have t2 : tbW[ix c2 g2 (nI n2)]? = some (c2, g2, n2) := tb_ok (c2, g2) k2 n2 hn2
  rw [show ix c2 g2 (nI n2) = ix c g (nI n1) by omega, t1] at t2
  have q := Option.some.inj t2
  simp only [Prod.mk.injEq] at q
  obtain ⟨a, b, c⟩ := q
  exact ⟨a, b, by rw [c]⟩
theorem wA_W {bs : Nat} {a10 : Nat → Int32 → Nat} : ∀ q : Nat, wA (adW bs a10) q → bs ≤ q := by
  intro q ⟨c, g, i, hc, hi, e⟩
  rw [e, ad_e hc]; omega
