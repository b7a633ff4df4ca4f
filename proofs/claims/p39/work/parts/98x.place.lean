/-! THE LAW'S FIRST BYTES, and the world behind them -/
def Lw (ta : wTa) (bs : Nat) : List va_E := [aI ta 8, .inr (9, [.ref (bs + 2), .ref (bs + 9), .ref (bs + 16), .ref (bs + 30), .ref (bs + 43), .ref (bs + 105)]), .inr (8, [.ref (bs + 3), .ref (bs + 4), .ref (bs + 5), .ref (bs + 6), .ref (bs + 7), .ref (bs + 8)]), aI ta 968, aI ta 968, aI ta 968, aI ta 968, aI ta 968, aI ta 968, .inr (7, [.ref (bs + 10), .ref (bs + 11), .ref (bs + 12), .ref (bs + 13), .ref (bs + 14)]), aI ta 960, aI ta 8, aI ta 8, aZ ta 8, .inr (5, [.ref (bs + 2), .ref (bs + 15), .int 0, .int 0, .int 0, .int 0, .int 0]), aI ta 21, .inr (4, [.ref (bs + 17), .ref (bs + 18), .ref (bs + 19), .ref (bs + 20), .ref (bs + 25), .int 10]), aI ta 4, aI ta 4, aZ ta 4, aR ta 2 4 (bs + 21), aI ta 4, aI ta 4, aI ta 4, aI ta 4, aR ta 2 4 (bs + 26), aI ta 4, aI ta 4, aI ta 4, aI ta 4, .inr (0, [.ref (bs + 31), .ref (bs + 37), .ref (bs + 38), .ref (bs + 39), .ref (bs + 40), .ref (bs + 41), .ref (bs + 42), .int 0]), aR ta 2 5 (bs + 32), aI ta 8, aI ta 8, aI ta 8, aI ta 8, aI ta 8, aI ta 8, aI ta 3000, aI ta 3000, aI ta 3000, aI ta 3000, aI ta 3000, .inr (3, [.ref (bs + 44), .int 0, .int 0]), aR ta 3 60 (bs + 45), oOrd, oOrd, oOrd, oOrd, oOrd, oOrd, oOrd, oOrd, oOrd, oOrd, oOrd, oOrd, oOrd, oOrd, oOrd, oOrd, oOrd, oOrd, oOrd, oOrd, oOrd, oOrd, oOrd, oOrd, oOrd, oOrd, oOrd, oOrd, oOrd, oOrd, oOrd, oOrd, oOrd, oOrd, oOrd, oOrd, oOrd, oOrd, oOrd, oOrd, oOrd, oOrd, oOrd, oOrd, oOrd, oOrd, oOrd, oOrd, oOrd, oOrd, oOrd, oOrd, oOrd, oOrd, oOrd, oOrd, oOrd, oOrd, oOrd, oOrd, .inr (6, [.ref (bs + 2), .ref (bs + 9), .ref (bs + 16), .ref (bs + 30), .ref (bs + 43), .ref (bs + 106), .int 0, .int 0, .int 0, .int 0, .int 0]), .inr (1, [.ref (bs + 107), .ref (bs + 108), .int 0, .int 0, .ref (bs + 109), .ref (bs + 110), .int 0]), aI ta 90, aI ta 90, aI ta 8, aI ta 8, .inr (9, [.ref (bs + 112), .ref (bs + 119), .ref (bs + 126), .ref (bs + 140), .ref (bs + 153), .ref (bs + 215)]), .inr (8, [.ref (bs + 113), .ref (bs + 114), .ref (bs + 115), .ref (bs + 116), .ref (bs + 117), .ref (bs + 118)]), aI ta 968, aI ta 968, aI ta 968, aI ta 968, aI ta 968, aI ta 968, .inr (7, [.ref (bs + 120), .ref (bs + 121), .ref (bs + 122), .ref (bs + 123), .ref (bs + 124)]), aI ta 960, aI ta 8, aI ta 8, aZ ta 8, .inr (5, [.ref (bs + 112), .ref (bs + 125), .int 0, .int 0, .int 0, .int 0, .int 0]), aI ta 21, .inr (4, [.ref (bs + 127), .ref (bs + 128), .ref (bs + 129), .ref (bs + 130), .ref (bs + 135), .int 10]), aI ta 4, aI ta 4, aZ ta 4, aR ta 2 4 (bs + 131), aI ta 4, aI ta 4, aI ta 4, aI ta 4, aR ta 2 4 (bs + 136), aI ta 4, aI ta 4, aI ta 4, aI ta 4, .inr (0, [.ref (bs + 141), .ref (bs + 147), .ref (bs + 148), .ref (bs + 149), .ref (bs + 150), .ref (bs + 151), .ref (bs + 152), .int 0]), aR ta 2 5 (bs + 142), aI ta 8, aI ta 8, aI ta 8, aI ta 8, aI ta 8, aI ta 8, aI ta 3000, aI ta 3000, aI ta 3000, aI ta 3000, aI ta 3000, .inr (3, [.ref (bs + 154), .int 0, .int 0]), aR ta 3 60 (bs + 155), oOrd, oOrd, oOrd, oOrd, oOrd, oOrd, oOrd, oOrd, oOrd, oOrd, oOrd, oOrd, oOrd, oOrd, oOrd, oOrd, oOrd, oOrd, oOrd, oOrd, oOrd, oOrd, oOrd, oOrd, oOrd, oOrd, oOrd, oOrd, oOrd, oOrd, oOrd, oOrd, oOrd, oOrd, oOrd, oOrd, oOrd, oOrd, oOrd, oOrd, oOrd, oOrd, oOrd, oOrd, oOrd, oOrd, oOrd, oOrd, oOrd, oOrd, oOrd, oOrd, oOrd, oOrd, oOrd, oOrd, oOrd, oOrd, oOrd, oOrd, .inr (6, [.ref (bs + 112), .ref (bs + 119), .ref (bs + 126), .ref (bs + 140), .ref (bs + 153), .ref (bs + 216), .int 0, .int 0, .int 0, .int 0, .int 0]), .inr (1, [.ref (bs + 217), .ref (bs + 218), .int 0, .int 0, .ref (bs + 219), .ref (bs + 220), .int 0]), aI ta 90, aI ta 90, aI ta 8, aI ta 8]
def ix (c g : Nat) (i : Int32) : Nat := match c, g with
  | 1, 0 => 30
  | 1, 1 => 31
  | 1, 2 => 37
  | 1, 3 => 38
  | 1, 4 => 39
  | 1, 5 => 40
  | 1, 6 => 41
  | 1, 7 => 42
  | 1, 8 => 32 + i.toNatClampNeg
  | 2, 0 => 106
  | 2, 1 => 107
  | 2, 2 => 108
  | 2, 5 => 109
  | 2, 6 => 110
  | 4, 0 => 43
  | 4, 1 => 44
  | 4, 4 => 45 + i.toNatClampNeg
  | 5, 0 => 16
  | 5, 1 => 17
  | 5, 2 => 18
  | 5, 3 => 19
  | 5, 4 => 20
  | 5, 5 => 25
  | 5, 7 => 21 + i.toNatClampNeg
  | 5, 8 => 26 + i.toNatClampNeg
  | 6, 0 => 14
  | 6, 2 => 15
  | 7, 0 => 105
  | 8, 0 => 9
  | 8, 1 => 10
  | 8, 2 => 11
  | 8, 3 => 12
  | 8, 4 => 13
  | 9, 0 => 2
  | 9, 1 => 3
  | 9, 2 => 4
  | 9, 3 => 5
  | 9, 4 => 6
  | 9, 5 => 7
  | 9, 6 => 8
  | 11, 0 => 1
  | 13, 0 => 0
  | 21, 0 => 140
  | 21, 1 => 141
  | 21, 2 => 147
  | 21, 3 => 148
  | 21, 4 => 149
  | 21, 5 => 150
  | 21, 6 => 151
  | 21, 7 => 152
  | 21, 8 => 142 + i.toNatClampNeg
  | 22, 0 => 216
  | 22, 1 => 217
  | 22, 2 => 218
  | 22, 5 => 219
  | 22, 6 => 220
  | 24, 0 => 153
  | 24, 1 => 154
  | 24, 4 => 155 + i.toNatClampNeg
  | 25, 0 => 126
  | 25, 1 => 127
  | 25, 2 => 128
  | 25, 3 => 129
  | 25, 4 => 130
  | 25, 5 => 135
  | 25, 7 => 131 + i.toNatClampNeg
  | 25, 8 => 136 + i.toNatClampNeg
  | 26, 0 => 124
  | 26, 2 => 125
  | 27, 0 => 215
  | 28, 0 => 119
  | 28, 1 => 120
  | 28, 2 => 121
  | 28, 3 => 122
  | 28, 4 => 123
  | 29, 0 => 112
  | 29, 1 => 113
  | 29, 2 => 114
  | 29, 3 => 115
  | 29, 4 => 116
  | 29, 5 => 117
  | 29, 6 => 118
  | 31, 0 => 111
  | _, _ => 0
def adW (bs : Nat) (a10 : Nat → Int32 → Nat) : wAd := fun c g i => match c with
  | 10 => a10 g i
  | _ => bs + ix c g i
def tbW : List (Nat × Nat × Nat) := [(13, 0, 0), (11, 0, 0), (9, 0, 0), (9, 1, 0), (9, 2, 0), (9, 3, 0), (9, 4, 0), (9, 5, 0), (9, 6, 0), (8, 0, 0), (8, 1, 0), (8, 2, 0), (8, 3, 0), (8, 4, 0), (6, 0, 0), (6, 2, 0), (5, 0, 0), (5, 1, 0), (5, 2, 0), (5, 3, 0), (5, 4, 0), (5, 7, 0), (5, 7, 1), (5, 7, 2), (5, 7, 3), (5, 5, 0), (5, 8, 0), (5, 8, 1), (5, 8, 2), (5, 8, 3), (1, 0, 0), (1, 1, 0), (1, 8, 0), (1, 8, 1), (1, 8, 2), (1, 8, 3), (1, 8, 4), (1, 2, 0), (1, 3, 0), (1, 4, 0), (1, 5, 0), (1, 6, 0), (1, 7, 0), (4, 0, 0), (4, 1, 0), (4, 4, 0), (4, 4, 1), (4, 4, 2), (4, 4, 3), (4, 4, 4), (4, 4, 5), (4, 4, 6), (4, 4, 7), (4, 4, 8), (4, 4, 9), (4, 4, 10), (4, 4, 11), (4, 4, 12), (4, 4, 13), (4, 4, 14), (4, 4, 15), (4, 4, 16), (4, 4, 17), (4, 4, 18), (4, 4, 19), (4, 4, 20), (4, 4, 21), (4, 4, 22), (4, 4, 23), (4, 4, 24), (4, 4, 25), (4, 4, 26), (4, 4, 27), (4, 4, 28), (4, 4, 29), (4, 4, 30), (4, 4, 31), (4, 4, 32), (4, 4, 33), (4, 4, 34), (4, 4, 35), (4, 4, 36), (4, 4, 37), (4, 4, 38), (4, 4, 39), (4, 4, 40), (4, 4, 41), (4, 4, 42), (4, 4, 43), (4, 4, 44), (4, 4, 45), (4, 4, 46), (4, 4, 47), (4, 4, 48), (4, 4, 49), (4, 4, 50), (4, 4, 51), (4, 4, 52), (4, 4, 53), (4, 4, 54), (4, 4, 55), (4, 4, 56), (4, 4, 57), (4, 4, 58), (4, 4, 59), (7, 0, 0), (2, 0, 0), (2, 1, 0), (2, 2, 0), (2, 5, 0), (2, 6, 0), (31, 0, 0), (29, 0, 0), (29, 1, 0), (29, 2, 0), (29, 3, 0), (29, 4, 0), (29, 5, 0), (29, 6, 0), (28, 0, 0), (28, 1, 0), (28, 2, 0), (28, 3, 0), (28, 4, 0), (26, 0, 0), (26, 2, 0), (25, 0, 0), (25, 1, 0), (25, 2, 0), (25, 3, 0), (25, 4, 0), (25, 7, 0), (25, 7, 1), (25, 7, 2), (25, 7, 3), (25, 5, 0), (25, 8, 0), (25, 8, 1), (25, 8, 2), (25, 8, 3), (21, 0, 0), (21, 1, 0), (21, 8, 0), (21, 8, 1), (21, 8, 2), (21, 8, 3), (21, 8, 4), (21, 2, 0), (21, 3, 0), (21, 4, 0), (21, 5, 0), (21, 6, 0), (21, 7, 0), (24, 0, 0), (24, 1, 0), (24, 4, 0), (24, 4, 1), (24, 4, 2), (24, 4, 3), (24, 4, 4), (24, 4, 5), (24, 4, 6), (24, 4, 7), (24, 4, 8), (24, 4, 9), (24, 4, 10), (24, 4, 11), (24, 4, 12), (24, 4, 13), (24, 4, 14), (24, 4, 15), (24, 4, 16), (24, 4, 17), (24, 4, 18), (24, 4, 19), (24, 4, 20), (24, 4, 21), (24, 4, 22), (24, 4, 23), (24, 4, 24), (24, 4, 25), (24, 4, 26), (24, 4, 27), (24, 4, 28), (24, 4, 29), (24, 4, 30), (24, 4, 31), (24, 4, 32), (24, 4, 33), (24, 4, 34), (24, 4, 35), (24, 4, 36), (24, 4, 37), (24, 4, 38), (24, 4, 39), (24, 4, 40), (24, 4, 41), (24, 4, 42), (24, 4, 43), (24, 4, 44), (24, 4, 45), (24, 4, 46), (24, 4, 47), (24, 4, 48), (24, 4, 49), (24, 4, 50), (24, 4, 51), (24, 4, 52), (24, 4, 53), (24, 4, 54), (24, 4, 55), (24, 4, 56), (24, 4, 57), (24, 4, 58), (24, 4, 59), (27, 0, 0), (22, 0, 0), (22, 1, 0), (22, 2, 0), (22, 5, 0), (22, 6, 0)]
def keysW : List (Nat × Nat) := [(1, 0), (1, 1), (1, 2), (1, 3), (1, 4), (1, 5), (1, 6), (1, 7), (1, 8), (2, 0), (2, 1), (2, 2), (2, 5), (2, 6), (4, 0), (4, 1), (4, 4), (5, 0), (5, 1), (5, 2), (5, 3), (5, 4), (5, 5), (5, 7), (5, 8), (6, 0), (6, 2), (7, 0), (8, 0), (8, 1), (8, 2), (8, 3), (8, 4), (9, 0), (9, 1), (9, 2), (9, 3), (9, 4), (9, 5), (9, 6), (11, 0), (13, 0), (21, 0), (21, 1), (21, 2), (21, 3), (21, 4), (21, 5), (21, 6), (21, 7), (21, 8), (22, 0), (22, 1), (22, 2), (22, 5), (22, 6), (24, 0), (24, 1), (24, 4), (25, 0), (25, 1), (25, 2), (25, 3), (25, 4), (25, 5), (25, 7), (25, 8), (26, 0), (26, 2), (27, 0), (28, 0), (28, 1), (28, 2), (28, 3), (28, 4), (29, 0), (29, 1), (29, 2), (29, 3), (29, 4), (29, 5), (29, 6), (31, 0)]
def M0c (c : Nat) : Cm := fun g _ j => match c, g with
  | 12, 28 => wdCode j
  | 12, 29 => lst12 j
  | 12, 30 => mst12 j
  | 12, 0 => if j = 9 then 10 else 0
  | 5, 0 => if j = 5 then 10 else 0
  | _, _ => 0
def M0 : Wm := fun c => M0c (match c with
  | 25 => 5
  | 32 => 12
  | c => c)
theorem keys_ok : ∀ c, c < 32 → ∀ g, g < 60 → wcnt c g = 0 ∨ (c, g) ∈ keysW := by decide +kernel
theorem tb_ok : ∀ k, k ∈ keysW → ∀ n, n < wcnt k.1 k.2 → tbW[ix k.1 k.2 (nI n)]? = some (k.1, k.2, n) := by decide +kernel
theorem not10 : ∀ k, k ∈ keysW → ¬ k.1 = 10 := by decide
theorem wcnt_lt {c g : Nat} (h : ¬ wcnt c g = 0) : c < 32 ∧ g < 60 := by
  refine ⟨?_, ?_⟩
  · rcases Nat.lt_or_ge c 32 with q | q
    · exact q
    · exfalso
      apply h
      unfold wcnt
      split <;> first | rfl | omega
  · rcases Nat.lt_or_ge g 60 with q | q
    · exact q
    · exfalso
      apply h
      unfold wcnt
      split <;> (repeat' split) <;> first | rfl | omega
theorem wcnt_le : ∀ c, c < 32 → ∀ g, g < 60 → wcnt c g ≤ 60 := by decide +kernel
/-- which cells there are -/
theorem cell_k {c g : Nat} {i : Int32} (h : vp_in i (wcnt c g)) : (c, g) ∈ keysW ∧ ∃ n, n < wcnt c g ∧ i = nI n ∧ n ≤ 60 := by
  have hz : ¬ wcnt c g = 0 := by
    intro z
    rw [z, vp_in_iff] at h
    omega
  obtain ⟨hc, hg⟩ := wcnt_lt hz
  refine ⟨(keys_ok c hc g hg).resolve_left hz, i.toInt.toNat, ?_, ?_, ?_⟩
  · rw [vp_in_iff] at h; omega
  · rw [vp_in_iff] at h
    have := wcnt_le c hc g hg
    exact (nI_e (by omega)).symm
  · rw [vp_in_iff] at h
    have := wcnt_le c hc g hg
    omega
theorem ad_e {bs : Nat} {a10 : Nat → Int32 → Nat} {c g : Nat} {i : Int32} (h : ¬ c = 10) : adW bs a10 c g i = bs + ix c g i := by
  unfold adW
  split
  · exact absurd rfl h
  · rfl
theorem wI_W (bs : Nat) (a10 : Nat → Int32 → Nat) : wI (adW bs a10) := by
  intro c g i c2 g2 i2 h h2 e
  obtain ⟨k1, n1, hn1, rfl, _⟩ := cell_k h
  obtain ⟨k2, n2, hn2, rfl, _⟩ := cell_k h2
  have q1 : ¬ c = 10 := not10 _ k1
  have q2 : ¬ c2 = 10 := not10 _ k2
  rw [ad_e q1, ad_e q2] at e
  have t1 : tbW[ix c g (nI n1)]? = some (c, g, n1) := tb_ok (c, g) k1 n1 hn1
  have t2 : tbW[ix c2 g2 (nI n2)]? = some (c2, g2, n2) := tb_ok (c2, g2) k2 n2 hn2
  rw [show ix c2 g2 (nI n2) = ix c g (nI n1) by omega, t1] at t2
  have q := Option.some.inj t2
  simp only [Prod.mk.injEq] at q
  obtain ⟨a, b, c⟩ := q
  exact ⟨a, b, by rw [c]⟩
theorem wA_W {bs : Nat} {a10 : Nat → Int32 → Nat} : ∀ q : Nat, wA (adW bs a10) q → bs ≤ q := by
  intro q ⟨c, g, i, hc, hi, e⟩
  rw [e, ad_e hc]; omega
