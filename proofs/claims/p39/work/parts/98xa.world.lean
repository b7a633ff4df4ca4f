/-! The world behind the first bytes -/
section STARTW
variable {D : va_G} {ta : wTa} {bs : Nat} {a10 : Nat → Int32 → Nat} {H : Heap}
theorem row_at {a t n : Nat} {f g : Nat → Option Nat} (h : va_at D wcl (a, .inl (ta t, n, .inr (.inr (.inr (.inr f))))) H) (e : ∀ j, j < n → f j = g j) : va_at D wcl (a, .inl (ta t, n, .inr (.inr (.inr (.inr g))))) H := by
  have h' : H[a]? = some (vp_cell (ta t) (n, .inr (.inr (.inr (.inr f))))) := h
  show H[a]? = some (vp_cell (ta t) (n, .inr (.inr (.inr (.inr g)))))
  rw [h', vp_cell_q, vp_cell_q]
  exact congrArg some (arrV_ext fun j hj => by rw [e j hj])
theorem num_at {a t n : Nat} {f g : Nat → Int32} (h : va_at D wcl (a, .inl (ta t, n, .inl f)) H) (e : ∀ j, j < n → f j = g j) : va_at D wcl (a, .inl (ta t, n, .inl g)) H := by
  have h' : H[a]? = some (vp_cell (ta t) (n, .inl f)) := h
  show H[a]? = some (vp_cell (ta t) (n, .inl g))
  rw [h', vp_cell_i, vp_cell_i]
  exact congrArg some (arrV_ext fun j hj => by rw [e j hj])
theorem all_cons {α : Type} {p : α → Prop} {a : α} {l : List α} (h : p a) (t : ∀ k, k ∈ l → p k) : ∀ k, k ∈ a :: l → p k := fun k hk => (List.mem_cons.mp hk).elim (fun e => e ▸ h) (t k)
theorem all_nil {α : Type} {p : α → Prop} : ∀ k : α, k ∈ ([] : List α) → p k := fun _ h => absurd h List.not_mem_nil
def cW (D : va_G) (ta : wTa) (bs : Nat) (a10 : Nat → Int32 → Nat) (H : Heap) (k : Nat × Nat) : Prop := ∀ n, n < wcnt k.1 k.2 → va_at D wcl (adW bs a10 k.1 k.2 (nI n), wcell ta (adW bs a10) k.1 k.2 (nI n) (M0 k.1 k.2 (nI n))) H
theorem cw_1_0 (h : gP D bs (Lw ta bs) H) : cW D ta bs a10 H (1, 0) := by
  intro n hn
  have hz : n = 0 := by have : n < 1 := hn; omega
  subst hz
  exact h.2 30 _ rfl
theorem cw_1_1 (h : gP D bs (Lw ta bs) H) : cW D ta bs a10 H (1, 1) := by
  intro n hn
  have hz : n = 0 := by have : n < 1 := hn; omega
  subst hz
  refine row_at (t := 2) (h.2 31 _ rfl) (fun j hj => ?_)
  rw [if_pos hj]
  show some (bs + 32 + j) = some (bs + (32 + (nI j).toNatClampNeg))
  rw [nI_clamp (by omega)]
  exact congrArg some (by omega)
theorem cw_1_2 (h : gP D bs (Lw ta bs) H) : cW D ta bs a10 H (1, 2) := by
  intro n hn
  have hz : n = 0 := by have : n < 1 := hn; omega
  subst hz
  exact h.2 37 _ rfl
theorem cw_1_3 (h : gP D bs (Lw ta bs) H) : cW D ta bs a10 H (1, 3) := by
  intro n hn
  have hz : n = 0 := by have : n < 1 := hn; omega
  subst hz
  exact h.2 38 _ rfl
theorem cw_1_4 (h : gP D bs (Lw ta bs) H) : cW D ta bs a10 H (1, 4) := by
  intro n hn
  have hz : n = 0 := by have : n < 1 := hn; omega
  subst hz
  exact h.2 39 _ rfl
theorem cw_1_5 (h : gP D bs (Lw ta bs) H) : cW D ta bs a10 H (1, 5) := by
  intro n hn
  have hz : n = 0 := by have : n < 1 := hn; omega
  subst hz
  exact h.2 40 _ rfl
theorem cw_1_6 (h : gP D bs (Lw ta bs) H) : cW D ta bs a10 H (1, 6) := by
  intro n hn
  have hz : n = 0 := by have : n < 1 := hn; omega
  subst hz
  exact h.2 41 _ rfl
theorem cw_1_7 (h : gP D bs (Lw ta bs) H) : cW D ta bs a10 H (1, 7) := by
  intro n hn
  have hz : n = 0 := by have : n < 1 := hn; omega
  subst hz
  exact h.2 42 _ rfl
theorem cw_1_8 (h : gP D bs (Lw ta bs) H) : cW D ta bs a10 H (1, 8) := by
  intro n hn
  match n, hn with
  | 0, _ => exact h.2 32 _ rfl
  | 1, _ => exact h.2 33 _ rfl
  | 2, _ => exact h.2 34 _ rfl
  | 3, _ => exact h.2 35 _ rfl
  | 4, _ => exact h.2 36 _ rfl
  | n + 5, hn => exact absurd hn (show ¬ n + 5 < 5 by omega)
theorem cw_2_0 (h : gP D bs (Lw ta bs) H) : cW D ta bs a10 H (2, 0) := by
  intro n hn
  have hz : n = 0 := by have : n < 1 := hn; omega
  subst hz
  exact h.2 106 _ rfl
theorem cw_2_1 (h : gP D bs (Lw ta bs) H) : cW D ta bs a10 H (2, 1) := by
  intro n hn
  have hz : n = 0 := by have : n < 1 := hn; omega
  subst hz
  exact h.2 107 _ rfl
theorem cw_2_2 (h : gP D bs (Lw ta bs) H) : cW D ta bs a10 H (2, 2) := by
  intro n hn
  have hz : n = 0 := by have : n < 1 := hn; omega
  subst hz
  exact h.2 108 _ rfl
theorem cw_2_5 (h : gP D bs (Lw ta bs) H) : cW D ta bs a10 H (2, 5) := by
  intro n hn
  have hz : n = 0 := by have : n < 1 := hn; omega
  subst hz
  exact h.2 109 _ rfl
theorem cw_2_6 (h : gP D bs (Lw ta bs) H) : cW D ta bs a10 H (2, 6) := by
  intro n hn
  have hz : n = 0 := by have : n < 1 := hn; omega
  subst hz
  exact h.2 110 _ rfl
theorem cw_4_0 (h : gP D bs (Lw ta bs) H) : cW D ta bs a10 H (4, 0) := by
  intro n hn
  have hz : n = 0 := by have : n < 1 := hn; omega
  subst hz
  exact h.2 43 _ rfl
theorem cw_4_1 (h : gP D bs (Lw ta bs) H) : cW D ta bs a10 H (4, 1) := by
  intro n hn
  have hz : n = 0 := by have : n < 1 := hn; omega
  subst hz
  refine row_at (t := 3) (h.2 44 _ rfl) (fun j hj => ?_)
  rw [if_pos hj]
  show some (bs + 45 + j) = some (bs + (45 + (nI j).toNatClampNeg))
  rw [nI_clamp (by omega)]
  exact congrArg some (by omega)
theorem cw_4_4 (h : gP D bs (Lw ta bs) H) : cW D ta bs a10 H (4, 4) := by
  intro n hn
  match n, hn with
  | 0, _ => exact h.2 45 _ rfl
  | 1, _ => exact h.2 46 _ rfl
  | 2, _ => exact h.2 47 _ rfl
  | 3, _ => exact h.2 48 _ rfl
  | 4, _ => exact h.2 49 _ rfl
  | 5, _ => exact h.2 50 _ rfl
  | 6, _ => exact h.2 51 _ rfl
  | 7, _ => exact h.2 52 _ rfl
  | 8, _ => exact h.2 53 _ rfl
  | 9, _ => exact h.2 54 _ rfl
  | 10, _ => exact h.2 55 _ rfl
  | 11, _ => exact h.2 56 _ rfl
  | 12, _ => exact h.2 57 _ rfl
  | 13, _ => exact h.2 58 _ rfl
  | 14, _ => exact h.2 59 _ rfl
  | 15, _ => exact h.2 60 _ rfl
  | 16, _ => exact h.2 61 _ rfl
  | 17, _ => exact h.2 62 _ rfl
  | 18, _ => exact h.2 63 _ rfl
  | 19, _ => exact h.2 64 _ rfl
  | 20, _ => exact h.2 65 _ rfl
  | 21, _ => exact h.2 66 _ rfl
  | 22, _ => exact h.2 67 _ rfl
  | 23, _ => exact h.2 68 _ rfl
  | 24, _ => exact h.2 69 _ rfl
  | 25, _ => exact h.2 70 _ rfl
  | 26, _ => exact h.2 71 _ rfl
  | 27, _ => exact h.2 72 _ rfl
  | 28, _ => exact h.2 73 _ rfl
  | 29, _ => exact h.2 74 _ rfl
  | 30, _ => exact h.2 75 _ rfl
  | 31, _ => exact h.2 76 _ rfl
  | 32, _ => exact h.2 77 _ rfl
  | 33, _ => exact h.2 78 _ rfl
  | 34, _ => exact h.2 79 _ rfl
  | 35, _ => exact h.2 80 _ rfl
  | 36, _ => exact h.2 81 _ rfl
  | 37, _ => exact h.2 82 _ rfl
  | 38, _ => exact h.2 83 _ rfl
  | 39, _ => exact h.2 84 _ rfl
  | 40, _ => exact h.2 85 _ rfl
  | 41, _ => exact h.2 86 _ rfl
  | 42, _ => exact h.2 87 _ rfl
  | 43, _ => exact h.2 88 _ rfl
  | 44, _ => exact h.2 89 _ rfl
  | 45, _ => exact h.2 90 _ rfl
  | 46, _ => exact h.2 91 _ rfl
  | 47, _ => exact h.2 92 _ rfl
  | 48, _ => exact h.2 93 _ rfl
  | 49, _ => exact h.2 94 _ rfl
  | 50, _ => exact h.2 95 _ rfl
  | 51, _ => exact h.2 96 _ rfl
  | 52, _ => exact h.2 97 _ rfl
  | 53, _ => exact h.2 98 _ rfl
  | 54, _ => exact h.2 99 _ rfl
  | 55, _ => exact h.2 100 _ rfl
  | 56, _ => exact h.2 101 _ rfl
  | 57, _ => exact h.2 102 _ rfl
  | 58, _ => exact h.2 103 _ rfl
  | 59, _ => exact h.2 104 _ rfl
  | n + 60, hn => exact absurd hn (show ¬ n + 60 < 60 by omega)
theorem cw_5_0 (h : gP D bs (Lw ta bs) H) : cW D ta bs a10 H (5, 0) := by
  intro n hn
  have hz : n = 0 := by have : n < 1 := hn; omega
  subst hz
  exact h.2 16 _ rfl
theorem cw_5_1 (h : gP D bs (Lw ta bs) H) : cW D ta bs a10 H (5, 1) := by
  intro n hn
  have hz : n = 0 := by have : n < 1 := hn; omega
  subst hz
  exact h.2 17 _ rfl
theorem cw_5_2 (h : gP D bs (Lw ta bs) H) : cW D ta bs a10 H (5, 2) := by
  intro n hn
  have hz : n = 0 := by have : n < 1 := hn; omega
  subst hz
  exact h.2 18 _ rfl
theorem cw_5_3 (h : gP D bs (Lw ta bs) H) : cW D ta bs a10 H (5, 3) := by
  intro n hn
  have hz : n = 0 := by have : n < 1 := hn; omega
  subst hz
  exact h.2 19 _ rfl
theorem cw_5_4 (h : gP D bs (Lw ta bs) H) : cW D ta bs a10 H (5, 4) := by
  intro n hn
  have hz : n = 0 := by have : n < 1 := hn; omega
  subst hz
  refine row_at (t := 2) (h.2 20 _ rfl) (fun j hj => ?_)
  rw [if_pos hj]
  show some (bs + 21 + j) = some (bs + (21 + (nI j).toNatClampNeg))
  rw [nI_clamp (by omega)]
  exact congrArg some (by omega)
theorem cw_5_5 (h : gP D bs (Lw ta bs) H) : cW D ta bs a10 H (5, 5) := by
  intro n hn
  have hz : n = 0 := by have : n < 1 := hn; omega
  subst hz
  refine row_at (t := 2) (h.2 25 _ rfl) (fun j hj => ?_)
  rw [if_pos hj]
  show some (bs + 26 + j) = some (bs + (26 + (nI j).toNatClampNeg))
  rw [nI_clamp (by omega)]
  exact congrArg some (by omega)
theorem cw_5_7 (h : gP D bs (Lw ta bs) H) : cW D ta bs a10 H (5, 7) := by
  intro n hn
  match n, hn with
  | 0, _ => exact h.2 21 _ rfl
  | 1, _ => exact h.2 22 _ rfl
  | 2, _ => exact h.2 23 _ rfl
  | 3, _ => exact h.2 24 _ rfl
  | n + 4, hn => exact absurd hn (show ¬ n + 4 < 4 by omega)
theorem cw_5_8 (h : gP D bs (Lw ta bs) H) : cW D ta bs a10 H (5, 8) := by
  intro n hn
  match n, hn with
  | 0, _ => exact h.2 26 _ rfl
  | 1, _ => exact h.2 27 _ rfl
  | 2, _ => exact h.2 28 _ rfl
  | 3, _ => exact h.2 29 _ rfl
  | n + 4, hn => exact absurd hn (show ¬ n + 4 < 4 by omega)
theorem cw_6_0 (h : gP D bs (Lw ta bs) H) : cW D ta bs a10 H (6, 0) := by
  intro n hn
  have hz : n = 0 := by have : n < 1 := hn; omega
  subst hz
  exact h.2 14 _ rfl
theorem cw_6_2 (h : gP D bs (Lw ta bs) H) : cW D ta bs a10 H (6, 2) := by
  intro n hn
  have hz : n = 0 := by have : n < 1 := hn; omega
  subst hz
  exact h.2 15 _ rfl
theorem cw_7_0 (h : gP D bs (Lw ta bs) H) : cW D ta bs a10 H (7, 0) := by
  intro n hn
  have hz : n = 0 := by have : n < 1 := hn; omega
  subst hz
  exact h.2 105 _ rfl
theorem cw_8_0 (h : gP D bs (Lw ta bs) H) : cW D ta bs a10 H (8, 0) := by
  intro n hn
  have hz : n = 0 := by have : n < 1 := hn; omega
  subst hz
  exact h.2 9 _ rfl
theorem cw_8_1 (h : gP D bs (Lw ta bs) H) : cW D ta bs a10 H (8, 1) := by
  intro n hn
  have hz : n = 0 := by have : n < 1 := hn; omega
  subst hz
  exact h.2 10 _ rfl
theorem cw_8_2 (h : gP D bs (Lw ta bs) H) : cW D ta bs a10 H (8, 2) := by
  intro n hn
  have hz : n = 0 := by have : n < 1 := hn; omega
  subst hz
  exact h.2 11 _ rfl
theorem cw_8_3 (h : gP D bs (Lw ta bs) H) : cW D ta bs a10 H (8, 3) := by
  intro n hn
  have hz : n = 0 := by have : n < 1 := hn; omega
  subst hz
  exact h.2 12 _ rfl
theorem cw_8_4 (h : gP D bs (Lw ta bs) H) : cW D ta bs a10 H (8, 4) := by
  intro n hn
  have hz : n = 0 := by have : n < 1 := hn; omega
  subst hz
  exact h.2 13 _ rfl
theorem cw_9_0 (h : gP D bs (Lw ta bs) H) : cW D ta bs a10 H (9, 0) := by
  intro n hn
  have hz : n = 0 := by have : n < 1 := hn; omega
  subst hz
  exact h.2 2 _ rfl
theorem cw_9_1 (h : gP D bs (Lw ta bs) H) : cW D ta bs a10 H (9, 1) := by
  intro n hn
  have hz : n = 0 := by have : n < 1 := hn; omega
  subst hz
  exact h.2 3 _ rfl
theorem cw_9_2 (h : gP D bs (Lw ta bs) H) : cW D ta bs a10 H (9, 2) := by
  intro n hn
  have hz : n = 0 := by have : n < 1 := hn; omega
  subst hz
  exact h.2 4 _ rfl
theorem cw_9_3 (h : gP D bs (Lw ta bs) H) : cW D ta bs a10 H (9, 3) := by
  intro n hn
  have hz : n = 0 := by have : n < 1 := hn; omega
  subst hz
  exact h.2 5 _ rfl
theorem cw_9_4 (h : gP D bs (Lw ta bs) H) : cW D ta bs a10 H (9, 4) := by
  intro n hn
  have hz : n = 0 := by have : n < 1 := hn; omega
  subst hz
  exact h.2 6 _ rfl
theorem cw_9_5 (h : gP D bs (Lw ta bs) H) : cW D ta bs a10 H (9, 5) := by
  intro n hn
  have hz : n = 0 := by have : n < 1 := hn; omega
  subst hz
  exact h.2 7 _ rfl
theorem cw_9_6 (h : gP D bs (Lw ta bs) H) : cW D ta bs a10 H (9, 6) := by
  intro n hn
  have hz : n = 0 := by have : n < 1 := hn; omega
  subst hz
  exact h.2 8 _ rfl
theorem cw_11_0 (h : gP D bs (Lw ta bs) H) : cW D ta bs a10 H (11, 0) := by
  intro n hn
  have hz : n = 0 := by have : n < 1 := hn; omega
  subst hz
  exact h.2 1 _ rfl
theorem cw_13_0 (h : gP D bs (Lw ta bs) H) : cW D ta bs a10 H (13, 0) := by
  intro n hn
  have hz : n = 0 := by have : n < 1 := hn; omega
  subst hz
  exact h.2 0 _ rfl
theorem cw_21_0 (h : gP D bs (Lw ta bs) H) : cW D ta bs a10 H (21, 0) := by
  intro n hn
  have hz : n = 0 := by have : n < 1 := hn; omega
  subst hz
  exact h.2 140 _ rfl
theorem cw_21_1 (h : gP D bs (Lw ta bs) H) : cW D ta bs a10 H (21, 1) := by
  intro n hn
  have hz : n = 0 := by have : n < 1 := hn; omega
  subst hz
  refine row_at (t := 2) (h.2 141 _ rfl) (fun j hj => ?_)
  rw [if_pos hj]
  show some (bs + 142 + j) = some (bs + (142 + (nI j).toNatClampNeg))
  rw [nI_clamp (by omega)]
  exact congrArg some (by omega)
theorem cw_21_2 (h : gP D bs (Lw ta bs) H) : cW D ta bs a10 H (21, 2) := by
  intro n hn
  have hz : n = 0 := by have : n < 1 := hn; omega
  subst hz
  exact h.2 147 _ rfl
theorem cw_21_3 (h : gP D bs (Lw ta bs) H) : cW D ta bs a10 H (21, 3) := by
  intro n hn
  have hz : n = 0 := by have : n < 1 := hn; omega
  subst hz
  exact h.2 148 _ rfl
theorem cw_21_4 (h : gP D bs (Lw ta bs) H) : cW D ta bs a10 H (21, 4) := by
  intro n hn
  have hz : n = 0 := by have : n < 1 := hn; omega
  subst hz
  exact h.2 149 _ rfl
theorem cw_21_5 (h : gP D bs (Lw ta bs) H) : cW D ta bs a10 H (21, 5) := by
  intro n hn
  have hz : n = 0 := by have : n < 1 := hn; omega
  subst hz
  exact h.2 150 _ rfl
theorem cw_21_6 (h : gP D bs (Lw ta bs) H) : cW D ta bs a10 H (21, 6) := by
  intro n hn
  have hz : n = 0 := by have : n < 1 := hn; omega
  subst hz
  exact h.2 151 _ rfl
theorem cw_21_7 (h : gP D bs (Lw ta bs) H) : cW D ta bs a10 H (21, 7) := by
  intro n hn
  have hz : n = 0 := by have : n < 1 := hn; omega
  subst hz
  exact h.2 152 _ rfl
theorem cw_21_8 (h : gP D bs (Lw ta bs) H) : cW D ta bs a10 H (21, 8) := by
  intro n hn
  match n, hn with
  | 0, _ => exact h.2 142 _ rfl
  | 1, _ => exact h.2 143 _ rfl
  | 2, _ => exact h.2 144 _ rfl
  | 3, _ => exact h.2 145 _ rfl
  | 4, _ => exact h.2 146 _ rfl
  | n + 5, hn => exact absurd hn (show ¬ n + 5 < 5 by omega)
theorem cw_22_0 (h : gP D bs (Lw ta bs) H) : cW D ta bs a10 H (22, 0) := by
  intro n hn
  have hz : n = 0 := by have : n < 1 := hn; omega
  subst hz
  exact h.2 216 _ rfl
theorem cw_22_1 (h : gP D bs (Lw ta bs) H) : cW D ta bs a10 H (22, 1) := by
  intro n hn
  have hz : n = 0 := by have : n < 1 := hn; omega
  subst hz
  exact h.2 217 _ rfl
theorem cw_22_2 (h : gP D bs (Lw ta bs) H) : cW D ta bs a10 H (22, 2) := by
  intro n hn
  have hz : n = 0 := by have : n < 1 := hn; omega
  subst hz
  exact h.2 218 _ rfl
theorem cw_22_5 (h : gP D bs (Lw ta bs) H) : cW D ta bs a10 H (22, 5) := by
  intro n hn
  have hz : n = 0 := by have : n < 1 := hn; omega
  subst hz
  exact h.2 219 _ rfl
theorem cw_22_6 (h : gP D bs (Lw ta bs) H) : cW D ta bs a10 H (22, 6) := by
  intro n hn
  have hz : n = 0 := by have : n < 1 := hn; omega
  subst hz
  exact h.2 220 _ rfl
theorem cw_24_0 (h : gP D bs (Lw ta bs) H) : cW D ta bs a10 H (24, 0) := by
  intro n hn
  have hz : n = 0 := by have : n < 1 := hn; omega
  subst hz
  exact h.2 153 _ rfl
theorem cw_24_1 (h : gP D bs (Lw ta bs) H) : cW D ta bs a10 H (24, 1) := by
  intro n hn
  have hz : n = 0 := by have : n < 1 := hn; omega
  subst hz
  refine row_at (t := 3) (h.2 154 _ rfl) (fun j hj => ?_)
  rw [if_pos hj]
  show some (bs + 155 + j) = some (bs + (155 + (nI j).toNatClampNeg))
  rw [nI_clamp (by omega)]
  exact congrArg some (by omega)
theorem cw_24_4 (h : gP D bs (Lw ta bs) H) : cW D ta bs a10 H (24, 4) := by
  intro n hn
  match n, hn with
  | 0, _ => exact h.2 155 _ rfl
  | 1, _ => exact h.2 156 _ rfl
  | 2, _ => exact h.2 157 _ rfl
  | 3, _ => exact h.2 158 _ rfl
  | 4, _ => exact h.2 159 _ rfl
  | 5, _ => exact h.2 160 _ rfl
  | 6, _ => exact h.2 161 _ rfl
  | 7, _ => exact h.2 162 _ rfl
  | 8, _ => exact h.2 163 _ rfl
  | 9, _ => exact h.2 164 _ rfl
  | 10, _ => exact h.2 165 _ rfl
  | 11, _ => exact h.2 166 _ rfl
  | 12, _ => exact h.2 167 _ rfl
  | 13, _ => exact h.2 168 _ rfl
  | 14, _ => exact h.2 169 _ rfl
  | 15, _ => exact h.2 170 _ rfl
  | 16, _ => exact h.2 171 _ rfl
  | 17, _ => exact h.2 172 _ rfl
  | 18, _ => exact h.2 173 _ rfl
  | 19, _ => exact h.2 174 _ rfl
  | 20, _ => exact h.2 175 _ rfl
  | 21, _ => exact h.2 176 _ rfl
  | 22, _ => exact h.2 177 _ rfl
  | 23, _ => exact h.2 178 _ rfl
  | 24, _ => exact h.2 179 _ rfl
  | 25, _ => exact h.2 180 _ rfl
  | 26, _ => exact h.2 181 _ rfl
  | 27, _ => exact h.2 182 _ rfl
  | 28, _ => exact h.2 183 _ rfl
  | 29, _ => exact h.2 184 _ rfl
  | 30, _ => exact h.2 185 _ rfl
  | 31, _ => exact h.2 186 _ rfl
  | 32, _ => exact h.2 187 _ rfl
  | 33, _ => exact h.2 188 _ rfl
  | 34, _ => exact h.2 189 _ rfl
  | 35, _ => exact h.2 190 _ rfl
  | 36, _ => exact h.2 191 _ rfl
  | 37, _ => exact h.2 192 _ rfl
  | 38, _ => exact h.2 193 _ rfl
  | 39, _ => exact h.2 194 _ rfl
  | 40, _ => exact h.2 195 _ rfl
  | 41, _ => exact h.2 196 _ rfl
  | 42, _ => exact h.2 197 _ rfl
  | 43, _ => exact h.2 198 _ rfl
  | 44, _ => exact h.2 199 _ rfl
  | 45, _ => exact h.2 200 _ rfl
  | 46, _ => exact h.2 201 _ rfl
  | 47, _ => exact h.2 202 _ rfl
  | 48, _ => exact h.2 203 _ rfl
  | 49, _ => exact h.2 204 _ rfl
  | 50, _ => exact h.2 205 _ rfl
  | 51, _ => exact h.2 206 _ rfl
  | 52, _ => exact h.2 207 _ rfl
  | 53, _ => exact h.2 208 _ rfl
  | 54, _ => exact h.2 209 _ rfl
  | 55, _ => exact h.2 210 _ rfl
  | 56, _ => exact h.2 211 _ rfl
  | 57, _ => exact h.2 212 _ rfl
  | 58, _ => exact h.2 213 _ rfl
  | 59, _ => exact h.2 214 _ rfl
  | n + 60, hn => exact absurd hn (show ¬ n + 60 < 60 by omega)
theorem cw_25_0 (h : gP D bs (Lw ta bs) H) : cW D ta bs a10 H (25, 0) := by
  intro n hn
  have hz : n = 0 := by have : n < 1 := hn; omega
  subst hz
  exact h.2 126 _ rfl
theorem cw_25_1 (h : gP D bs (Lw ta bs) H) : cW D ta bs a10 H (25, 1) := by
  intro n hn
  have hz : n = 0 := by have : n < 1 := hn; omega
  subst hz
  exact h.2 127 _ rfl
theorem cw_25_2 (h : gP D bs (Lw ta bs) H) : cW D ta bs a10 H (25, 2) := by
  intro n hn
  have hz : n = 0 := by have : n < 1 := hn; omega
  subst hz
  exact h.2 128 _ rfl
theorem cw_25_3 (h : gP D bs (Lw ta bs) H) : cW D ta bs a10 H (25, 3) := by
  intro n hn
  have hz : n = 0 := by have : n < 1 := hn; omega
  subst hz
  exact h.2 129 _ rfl
theorem cw_25_4 (h : gP D bs (Lw ta bs) H) : cW D ta bs a10 H (25, 4) := by
  intro n hn
  have hz : n = 0 := by have : n < 1 := hn; omega
  subst hz
  refine row_at (t := 2) (h.2 130 _ rfl) (fun j hj => ?_)
  rw [if_pos hj]
  show some (bs + 131 + j) = some (bs + (131 + (nI j).toNatClampNeg))
  rw [nI_clamp (by omega)]
  exact congrArg some (by omega)
theorem cw_25_5 (h : gP D bs (Lw ta bs) H) : cW D ta bs a10 H (25, 5) := by
  intro n hn
  have hz : n = 0 := by have : n < 1 := hn; omega
  subst hz
  refine row_at (t := 2) (h.2 135 _ rfl) (fun j hj => ?_)
  rw [if_pos hj]
  show some (bs + 136 + j) = some (bs + (136 + (nI j).toNatClampNeg))
  rw [nI_clamp (by omega)]
  exact congrArg some (by omega)
theorem cw_25_7 (h : gP D bs (Lw ta bs) H) : cW D ta bs a10 H (25, 7) := by
  intro n hn
  match n, hn with
  | 0, _ => exact h.2 131 _ rfl
  | 1, _ => exact h.2 132 _ rfl
  | 2, _ => exact h.2 133 _ rfl
  | 3, _ => exact h.2 134 _ rfl
  | n + 4, hn => exact absurd hn (show ¬ n + 4 < 4 by omega)
theorem cw_25_8 (h : gP D bs (Lw ta bs) H) : cW D ta bs a10 H (25, 8) := by
  intro n hn
  match n, hn with
  | 0, _ => exact h.2 136 _ rfl
  | 1, _ => exact h.2 137 _ rfl
  | 2, _ => exact h.2 138 _ rfl
  | 3, _ => exact h.2 139 _ rfl
  | n + 4, hn => exact absurd hn (show ¬ n + 4 < 4 by omega)
theorem cw_26_0 (h : gP D bs (Lw ta bs) H) : cW D ta bs a10 H (26, 0) := by
  intro n hn
  have hz : n = 0 := by have : n < 1 := hn; omega
  subst hz
  exact h.2 124 _ rfl
theorem cw_26_2 (h : gP D bs (Lw ta bs) H) : cW D ta bs a10 H (26, 2) := by
  intro n hn
  have hz : n = 0 := by have : n < 1 := hn; omega
  subst hz
  exact h.2 125 _ rfl
theorem cw_27_0 (h : gP D bs (Lw ta bs) H) : cW D ta bs a10 H (27, 0) := by
  intro n hn
  have hz : n = 0 := by have : n < 1 := hn; omega
  subst hz
  exact h.2 215 _ rfl
theorem cw_28_0 (h : gP D bs (Lw ta bs) H) : cW D ta bs a10 H (28, 0) := by
  intro n hn
  have hz : n = 0 := by have : n < 1 := hn; omega
  subst hz
  exact h.2 119 _ rfl
theorem cw_28_1 (h : gP D bs (Lw ta bs) H) : cW D ta bs a10 H (28, 1) := by
  intro n hn
  have hz : n = 0 := by have : n < 1 := hn; omega
  subst hz
  exact h.2 120 _ rfl
theorem cw_28_2 (h : gP D bs (Lw ta bs) H) : cW D ta bs a10 H (28, 2) := by
  intro n hn
  have hz : n = 0 := by have : n < 1 := hn; omega
  subst hz
  exact h.2 121 _ rfl
theorem cw_28_3 (h : gP D bs (Lw ta bs) H) : cW D ta bs a10 H (28, 3) := by
  intro n hn
  have hz : n = 0 := by have : n < 1 := hn; omega
  subst hz
  exact h.2 122 _ rfl
theorem cw_28_4 (h : gP D bs (Lw ta bs) H) : cW D ta bs a10 H (28, 4) := by
  intro n hn
  have hz : n = 0 := by have : n < 1 := hn; omega
  subst hz
  exact h.2 123 _ rfl
theorem cw_29_0 (h : gP D bs (Lw ta bs) H) : cW D ta bs a10 H (29, 0) := by
  intro n hn
  have hz : n = 0 := by have : n < 1 := hn; omega
  subst hz
  exact h.2 112 _ rfl
theorem cw_29_1 (h : gP D bs (Lw ta bs) H) : cW D ta bs a10 H (29, 1) := by
  intro n hn
  have hz : n = 0 := by have : n < 1 := hn; omega
  subst hz
  exact h.2 113 _ rfl
theorem cw_29_2 (h : gP D bs (Lw ta bs) H) : cW D ta bs a10 H (29, 2) := by
  intro n hn
  have hz : n = 0 := by have : n < 1 := hn; omega
  subst hz
  exact h.2 114 _ rfl
theorem cw_29_3 (h : gP D bs (Lw ta bs) H) : cW D ta bs a10 H (29, 3) := by
  intro n hn
  have hz : n = 0 := by have : n < 1 := hn; omega
  subst hz
  exact h.2 115 _ rfl
theorem cw_29_4 (h : gP D bs (Lw ta bs) H) : cW D ta bs a10 H (29, 4) := by
  intro n hn
  have hz : n = 0 := by have : n < 1 := hn; omega
  subst hz
  exact h.2 116 _ rfl
theorem cw_29_5 (h : gP D bs (Lw ta bs) H) : cW D ta bs a10 H (29, 5) := by
  intro n hn
  have hz : n = 0 := by have : n < 1 := hn; omega
  subst hz
  exact h.2 117 _ rfl
theorem cw_29_6 (h : gP D bs (Lw ta bs) H) : cW D ta bs a10 H (29, 6) := by
  intro n hn
  have hz : n = 0 := by have : n < 1 := hn; omega
  subst hz
  exact h.2 118 _ rfl
theorem cw_31_0 (h : gP D bs (Lw ta bs) H) : cW D ta bs a10 H (31, 0) := by
  intro n hn
  have hz : n = 0 := by have : n < 1 := hn; omega
  subst hz
  exact h.2 111 _ rfl
set_option maxRecDepth 20000 in
theorem cw_all (h : gP D bs (Lw ta bs) H) : ∀ k, k ∈ keysW → cW D ta bs a10 H k :=
  all_cons (cw_1_0 h) (all_cons (cw_1_1 h) (all_cons (cw_1_2 h) (all_cons (cw_1_3 h) (all_cons (cw_1_4 h) (all_cons (cw_1_5 h) (all_cons (cw_1_6 h) (all_cons (cw_1_7 h) (all_cons (cw_1_8 h) (all_cons (cw_2_0 h) (all_cons (cw_2_1 h) (all_cons (cw_2_2 h) (all_cons (cw_2_5 h) (all_cons (cw_2_6 h) (all_cons (cw_4_0 h) (all_cons (cw_4_1 h) (all_cons (cw_4_4 h) (all_cons (cw_5_0 h) (all_cons (cw_5_1 h) (all_cons (cw_5_2 h) (all_cons (cw_5_3 h) (all_cons (cw_5_4 h) (all_cons (cw_5_5 h) (all_cons (cw_5_7 h) (all_cons (cw_5_8 h) (all_cons (cw_6_0 h) (all_cons (cw_6_2 h) (all_cons (cw_7_0 h) (all_cons (cw_8_0 h) (all_cons (cw_8_1 h) (all_cons (cw_8_2 h) (all_cons (cw_8_3 h) (all_cons (cw_8_4 h) (all_cons (cw_9_0 h) (all_cons (cw_9_1 h) (all_cons (cw_9_2 h) (all_cons (cw_9_3 h) (all_cons (cw_9_4 h) (all_cons (cw_9_5 h) (all_cons (cw_9_6 h) (all_cons (cw_11_0 h) (all_cons (cw_13_0 h) (all_cons (cw_21_0 h) (all_cons (cw_21_1 h) (all_cons (cw_21_2 h) (all_cons (cw_21_3 h) (all_cons (cw_21_4 h) (all_cons (cw_21_5 h) (all_cons (cw_21_6 h) (all_cons (cw_21_7 h) (all_cons (cw_21_8 h) (all_cons (cw_22_0 h) (all_cons (cw_22_1 h) (all_cons (cw_22_2 h) (all_cons (cw_22_5 h) (all_cons (cw_22_6 h) (all_cons (cw_24_0 h) (all_cons (cw_24_1 h) (all_cons (cw_24_4 h) (all_cons (cw_25_0 h) (all_cons (cw_25_1 h) (all_cons (cw_25_2 h) (all_cons (cw_25_3 h) (all_cons (cw_25_4 h) (all_cons (cw_25_5 h) (all_cons (cw_25_7 h) (all_cons (cw_25_8 h) (all_cons (cw_26_0 h) (all_cons (cw_26_2 h) (all_cons (cw_27_0 h) (all_cons (cw_28_0 h) (all_cons (cw_28_1 h) (all_cons (cw_28_2 h) (all_cons (cw_28_3 h) (all_cons (cw_28_4 h) (all_cons (cw_29_0 h) (all_cons (cw_29_1 h) (all_cons (cw_29_2 h) (all_cons (cw_29_3 h) (all_cons (cw_29_4 h) (all_cons (cw_29_5 h) (all_cons (cw_29_6 h) (all_cons (cw_31_0 h) (all_nil)))))))))))))))))))))))))))))))))))))))))))))))))))))))))))))))))))))))))))))))))))
theorem wP_W (h : gP D bs (Lw ta bs) H) : wP D ta (adW bs a10) M0 H := by
  intro c g i hi
  obtain ⟨k, n, hn, rfl, _⟩ := cell_k hi
  exact cw_all h (c, g) k n hn
end STARTW
