/-! THE CLASS' CALLS as the law's methods see them: told by what is told of both objects -/
section CCL
variable {l : Launch} {D : va_G} {ta : wTa} {ad : wAd} {w : Int32 → Int32} {s s2 : ST} {M : Wm}
theorem RW.hb {Lb : Int} (h : RW Lb M) : ∀ j : Int32, vp_in j 4 → M 5 3 0 j = 0 ∨ M 5 3 0 j = 1 := fun j hj => by rw [(h.q.1 j hj).2.2]; exact h.q.2.2.2 j hj
theorem LW.fr {x : Int32 → Int32} {k : Int} {N : Wm} (e : ∀ c : Nat, c ≤ 12 → N c = M c) (h : LW x k M) : LW x k N := by
  unfold LW RW WQ0 J0 Ok7 at h ⊢
  rw [e 1 (by decide), e 2 (by decide), e 4 (by decide), e 5 (by decide), e 7 (by decide), e 8 (by decide), e 9 (by decide), e 12 (by decide)]
  exact h
theorem LW.fr2 {x : Int32 → Int32} {k : Int} {N : Wm} (e : ∀ c : Nat, 13 ≤ c → N c = M c) (h : LW x k (swM M)) : LW x k (swM N) := by
  unfold LW RW WQ0 J0 Ok7 at h ⊢
  rw [show swM N 1 = swM M 1 from e 21 (by decide), show swM N 2 = swM M 2 from e 22 (by decide), show swM N 4 = swM M 4 from e 24 (by decide), show swM N 5 = swM M 5 from e 25 (by decide), show swM N 7 = swM M 7 from e 27 (by decide), show swM N 8 = swM M 8 from e 28 (by decide), show swM N 9 = swM M 9 from e 29 (by decide), show swM N 12 = swM M 12 from e 32 (by decide)]
  exact h
theorem C_of {y : MethodName} {cc : ByteArray} {n : Nat} {ret : Option FieldType} {d u : Nat} {avs : List Value} {z : (Nat × Int32) × Wm} {r : (Nat × Int32) × Cm} {x' : Int32 → Int32} {k' : Int} (h : GM w s s2 M) (O : LOp x' k' z r) (hk : Gk M z.2) (hM : MX l D ta ad y cc n ret d u avs M (fxi z)) : ∃ M' : Wm, GM w (x', k', r.2) s2 M' ∧ MX l D ta ad y cc n ret d u avs M (fxi (r.1, M')) := by
  refine ⟨uW z.2 12 r.2, ⟨?_, ⟨uW_at _ _ _, O.2.2⟩, ?_, ?_⟩, MX_gh hM O.1 (fun h0 => by show some (Value.int z.1.2) = some (Value.int r.1.2); rw [O.2.1 h0]) (fun c hc => ?_)⟩
  · rw [uW_ne _ _ (by decide), hk 13 (by decide)]; exact h.1
  · show uW z.2 12 r.2 32 = _
    rw [uW_ne _ _ (by decide), hk 32 (by decide)]; exact h.2.2.1
  · exact h.2.2.2.fr2 (fun c hc => by rw [uW_ne _ _ (by omega), hk c (by omega)])
  · show z.2 c = uW z.2 12 r.2 c
    rw [uW_ne _ _ (fun e => hc (Or.inl e))]
theorem C_ask {y : MethodName} {cc : ByteArray} {n : Nat} {ret : Option FieldType} {d u : Nat} {avs : List Value} {z : (Nat × Int32) × Wm} {r : Nat × Int32} (h : GM w s s2 M) (O : LQ s.1 s.2.1 M z r) (hk : Gk M z.2) (hM : MX l D ta ad y cc n ret d u avs M (fxi z)) : ∃ M' : Wm, GM w s s2 M' ∧ MX l D ta ad y cc n ret d u avs M (fxi (r, M')) := by
  refine ⟨z.2, ⟨?_, ⟨O.2.2.2.trans h.2.1.1, O.2.2.1⟩, ?_, ?_⟩, MX_gh hM O.1 (fun h0 => by show some (Value.int z.1.2) = some (Value.int r.2); rw [O.2.1 h0]) (fun c _ => rfl)⟩
  · rw [hk 13 (by decide)]; exact h.1
  · exact (hk 32 (by decide)).trans h.2.2.1
  · exact h.2.2.2.fr2 (fun c hc => hk c (by omega))
def F_type (s : ST) (p1 : Int32) (p2 : Int32) : (Nat × Int32) × ST := ((Z12 1 2 s.2.2 (f12_type s.2.2 p1 p2)).1, (s.1, s.2.1, (Z12 1 2 s.2.2 (f12_type s.2.2 p1 p2)).2))
theorem C_type (hl : l.stackTraces = false) (h : GM w s s2 M) (p1 : Int32) (p2 : Int32) : ∃ M' : Wm, GM w (F_type s p1 p2).2 s2 M' ∧ MX l D ta ad yX11_type cX11_type 3 (some .int) 8 3 [.ref (ad 11 0 0), .int p1, .int p2] M (fxi ((F_type s p1 p2).1, M')) := by
  obtain ⟨a, b⟩ := h.2.1
  have O := O_type (p1 := p1) (p2 := p2) b
  rw [a] at O
  exact C_of h O gk_type (mc_X11_type l hl D ta ad M p1 p2 h.2.1.2.1.ln)
theorem D_type (hl : l.stackTraces = false) (h : GM w s s2 M) (p1 : Int32) (p2 : Int32) : ∃ M' : Wm, GM w s (F_type s2 p1 p2).2 M' ∧ MX l D ta ad yX11_type cX11_type 3 (some .int) 8 3 [.ref (ad 31 0 0), .int p1, .int p2] M (fxi ((F_type s2 p1 p2).1, M')) := by
  obtain ⟨N, g, hN⟩ := C_type (D := D) (ta := ta) (ad := adS ad) hl h.sw p1 p2
  exact ⟨swM N, g.sw, MX_sw hN⟩
def F_erase (s : ST) (p1 : Int32) (p2 : Int32) : (Nat × Int32) × ST := ((Z12 1 1 s.2.2 (f12_erase s.2.2 p1 p2)).1, (s.1, s.2.1, (Z12 1 1 s.2.2 (f12_erase s.2.2 p1 p2)).2))
theorem C_erase (hl : l.stackTraces = false) (h : GM w s s2 M) (p1 : Int32) (p2 : Int32) : ∃ M' : Wm, GM w (F_erase s p1 p2).2 s2 M' ∧ MX l D ta ad yX11_erase cX11_erase 3 (some .int) 8 2 [.ref (ad 11 0 0), .int p1, .int p2] M (fxi ((F_erase s p1 p2).1, M')) := by
  obtain ⟨a, b⟩ := h.2.1
  have O := O_erase (p1 := p1) (p2 := p2) b
  rw [a] at O
  exact C_of h O gk_erase (mc_X11_erase l hl D ta ad M p1 p2)
theorem D_erase (hl : l.stackTraces = false) (h : GM w s s2 M) (p1 : Int32) (p2 : Int32) : ∃ M' : Wm, GM w s (F_erase s2 p1 p2).2 M' ∧ MX l D ta ad yX11_erase cX11_erase 3 (some .int) 8 2 [.ref (ad 31 0 0), .int p1, .int p2] M (fxi ((F_erase s2 p1 p2).1, M')) := by
  obtain ⟨N, g, hN⟩ := C_erase (D := D) (ta := ta) (ad := adS ad) hl h.sw p1 p2
  exact ⟨swM N, g.sw, MX_sw hN⟩
def F_supply (s : ST) (p1 : Int32) (p2 : Int32) : (Nat × Int32) × ST := ((Z12 1 1 s.2.2 (f12_supply s.2.2 p1 p2)).1, (if (Z12 1 1 s.2.2 (f12_supply s.2.2 p1 p2)).1.1 = 0 then upx s.1 p1 p2 else s.1, s.2.1, (Z12 1 1 s.2.2 (f12_supply s.2.2 p1 p2)).2))
theorem C_supply (hl : l.stackTraces = false) (h : GM w s s2 M) (p1 : Int32) (p2 : Int32) (hx : (Z12 1 1 s.2.2 (f12_supply s.2.2 p1 p2)).1.1 = 0 → XB (upx s.1 p1 p2)) : ∃ M' : Wm, GM w (F_supply s p1 p2).2 s2 M' ∧ MX l D ta ad yX11_supply cX11_supply 3 (some .int) 8 2 [.ref (ad 11 0 0), .int p1, .int p2] M (fxi ((F_supply s p1 p2).1, M')) := by
  obtain ⟨a, b⟩ := h.2.1
  have hz : (f11_supply M p1 p2).1.1 = (Z12 1 1 s.2.2 (f12_supply s.2.2 p1 p2)).1.1 := by
    have H := R_supply (p1 := p1) (p2 := p2) b.1 (by decide)
    rw [← a]
    obtain ⟨e12, H | H⟩ := H
    · obtain ⟨h0, t0, _⟩ := H
      unfold Z12; rw [if_pos t0]; exact h0
    · obtain ⟨h0, ef, hkf, _⟩ := H
      have t0 : (f12_supply (M 12) p1 p2).2 0 0 0 = kfI 1 1 (f11_supply M p1 p2).1.1 := by rw [ef, u3_at]
      unfold Z12; rw [if_neg (by rw [t0]; exact hkf), t0]; exact ((k11 k_supply).resolve_left h0).symm
  have O := O_supply (p1 := p1) (p2 := p2) b (fun q => hx (hz.symm.trans q))
  rw [a, hz] at O
  exact C_of h O gk_supply (mc_X11_supply l hl D ta ad M p1 p2)
theorem D_supply (hl : l.stackTraces = false) (h : GM w s s2 M) (p1 : Int32) (p2 : Int32) (hx : (Z12 1 1 s2.2.2 (f12_supply s2.2.2 p1 p2)).1.1 = 0 → XB (upx s2.1 p1 p2)) : ∃ M' : Wm, GM w s (F_supply s2 p1 p2).2 M' ∧ MX l D ta ad yX11_supply cX11_supply 3 (some .int) 8 2 [.ref (ad 31 0 0), .int p1, .int p2] M (fxi ((F_supply s2 p1 p2).1, M')) := by
  obtain ⟨N, g, hN⟩ := C_supply (D := D) (ta := ta) (ad := adS ad) hl h.sw p1 p2 hx
  exact ⟨swM N, g.sw, MX_sw hN⟩
def F_giveRations (s : ST) (p1 : Int32) (p2 : Int32) : (Nat × Int32) × ST := ((Z12 1 1 s.2.2 (f12_giveRations s.2.2 p1 p2)).1, (s.1, s.2.1 + 1, (Z12 1 1 s.2.2 (f12_giveRations s.2.2 p1 p2)).2))
theorem C_giveRations (hl : l.stackTraces = false) (h : GM w s s2 M) (p1 : Int32) (p2 : Int32) (hk : s.2.1 < 10000) : ∃ M' : Wm, GM w (F_giveRations s p1 p2).2 s2 M' ∧ MX l D ta ad yX11_giveRations cX11_giveRations 3 (some .int) 8 2 [.ref (ad 11 0 0), .int p1, .int p2] M (fxi ((F_giveRations s p1 p2).1, M')) := by
  obtain ⟨a, b⟩ := h.2.1
  have O := O_giveRations (p1 := p1) (p2 := p2) b hk
  rw [a] at O
  exact C_of h O gk_giveRations (mc_X11_giveRations l hl D ta ad M p1 p2)
theorem D_giveRations (hl : l.stackTraces = false) (h : GM w s s2 M) (p1 : Int32) (p2 : Int32) (hk : s2.2.1 < 10000) : ∃ M' : Wm, GM w s (F_giveRations s2 p1 p2).2 M' ∧ MX l D ta ad yX11_giveRations cX11_giveRations 3 (some .int) 8 2 [.ref (ad 31 0 0), .int p1, .int p2] M (fxi ((F_giveRations s2 p1 p2).1, M')) := by
  obtain ⟨N, g, hN⟩ := C_giveRations (D := D) (ta := ta) (ad := adS ad) hl h.sw p1 p2 hk
  exact ⟨swM N, g.sw, MX_sw hN⟩
def F_setTariff (s : ST) (p1 : Int32) : (Nat × Int32) × ST := ((Z12 1 1 s.2.2 (f12_setTariff s.2.2 p1)).1, (s.1, s.2.1, (Z12 1 1 s.2.2 (f12_setTariff s.2.2 p1)).2))
theorem C_setTariff (hl : l.stackTraces = false) (h : GM w s s2 M) (p1 : Int32) : ∃ M' : Wm, GM w (F_setTariff s p1).2 s2 M' ∧ MX l D ta ad yX11_setTariff cX11_setTariff 2 (some .int) 8 1 [.ref (ad 11 0 0), .int p1] M (fxi ((F_setTariff s p1).1, M')) := by
  obtain ⟨a, b⟩ := h.2.1
  have O := O_setTariff (p1 := p1) b
  rw [a] at O
  exact C_of h O gk_setTariff (mc_X11_setTariff l hl D ta ad M p1)
theorem D_setTariff (hl : l.stackTraces = false) (h : GM w s s2 M) (p1 : Int32) : ∃ M' : Wm, GM w s (F_setTariff s2 p1).2 M' ∧ MX l D ta ad yX11_setTariff cX11_setTariff 2 (some .int) 8 1 [.ref (ad 31 0 0), .int p1] M (fxi ((F_setTariff s2 p1).1, M')) := by
  obtain ⟨N, g, hN⟩ := C_setTariff (D := D) (ta := ta) (ad := adS ad) hl h.sw p1
  exact ⟨swM N, g.sw, MX_sw hN⟩
def F_buy (s : ST) (p1 : Int32) (p2 : Int32) : (Nat × Int32) × ST := ((Z12 1 2 s.2.2 (f12_buy s.2.2 p1 p2)).1, (s.1, s.2.1, (Z12 1 2 s.2.2 (f12_buy s.2.2 p1 p2)).2))
theorem C_buy (hl : l.stackTraces = false) (h : GM w s s2 M) (p1 : Int32) (p2 : Int32) : ∃ M' : Wm, GM w (F_buy s p1 p2).2 s2 M' ∧ MX l D ta ad yX11_buy cX11_buy 3 (some .int) 8 3 [.ref (ad 11 0 0), .int p1, .int p2] M (fxi ((F_buy s p1 p2).1, M')) := by
  obtain ⟨a, b⟩ := h.2.1
  have O := O_buy (p1 := p1) (p2 := p2) b
  rw [a] at O
  exact C_of h O gk_buy (mc_X11_buy l hl D ta ad M p1 p2)
theorem D_buy (hl : l.stackTraces = false) (h : GM w s s2 M) (p1 : Int32) (p2 : Int32) : ∃ M' : Wm, GM w s (F_buy s2 p1 p2).2 M' ∧ MX l D ta ad yX11_buy cX11_buy 3 (some .int) 8 3 [.ref (ad 31 0 0), .int p1, .int p2] M (fxi ((F_buy s2 p1 p2).1, M')) := by
  obtain ⟨N, g, hN⟩ := C_buy (D := D) (ta := ta) (ad := adS ad) hl h.sw p1 p2
  exact ⟨swM N, g.sw, MX_sw hN⟩
def F_setBuying (s : ST) (p1 : Int32) (p2 : Bool) : (Nat × Int32) × ST := ((Z12 1 1 s.2.2 ((b2i (f12_setBuying s.2.2 p1 p2).1, (f12_setBuying s.2.2 p1 p2).2))).1, (s.1, s.2.1, (Z12 1 1 s.2.2 ((b2i (f12_setBuying s.2.2 p1 p2).1, (f12_setBuying s.2.2 p1 p2).2))).2))
theorem C_setBuying (hl : l.stackTraces = false) (h : GM w s s2 M) (p1 : Int32) (p2 : Bool) : ∃ M' : Wm, GM w (F_setBuying s p1 p2).2 s2 M' ∧ MX l D ta ad yX11_setBuying cX11_setBuying 3 (some .boolean) 8 1 [.ref (ad 11 0 0), .int p1, .int (b2i p2)] M (fxi ((F_setBuying s p1 p2).1, M')) := by
  obtain ⟨a, b⟩ := h.2.1
  have O := O_setBuying (p1 := p1) (b := p2) b
  rw [a] at O
  exact C_of h O gk_setBuying (mc_X11_setBuying l hl D ta ad M p1 p2 h.2.1.2.1.hb)
theorem D_setBuying (hl : l.stackTraces = false) (h : GM w s s2 M) (p1 : Int32) (p2 : Bool) : ∃ M' : Wm, GM w s (F_setBuying s2 p1 p2).2 M' ∧ MX l D ta ad yX11_setBuying cX11_setBuying 3 (some .boolean) 8 1 [.ref (ad 31 0 0), .int p1, .int (b2i p2)] M (fxi ((F_setBuying s2 p1 p2).1, M')) := by
  obtain ⟨N, g, hN⟩ := C_setBuying (D := D) (ta := ta) (ad := adS ad) hl h.sw p1 p2
  exact ⟨swM N, g.sw, MX_sw hN⟩
def F_setCredit (s : ST) (p1 : Int32) (p2 : Int32) (p3 : Int32) : (Nat × Int32) × ST := ((Z12 1 1 s.2.2 (f12_setCredit s.2.2 p1 p2 p3)).1, (s.1, s.2.1, (Z12 1 1 s.2.2 (f12_setCredit s.2.2 p1 p2 p3)).2))
theorem C_setCredit (hl : l.stackTraces = false) (h : GM w s s2 M) (p1 : Int32) (p2 : Int32) (p3 : Int32) : ∃ M' : Wm, GM w (F_setCredit s p1 p2 p3).2 s2 M' ∧ MX l D ta ad yX11_setCredit cX11_setCredit 4 (some .int) 8 3 [.ref (ad 11 0 0), .int p1, .int p2, .int p3] M (fxi ((F_setCredit s p1 p2 p3).1, M')) := by
  obtain ⟨a, b⟩ := h.2.1
  have O := O_setCredit (p1 := p1) (p2 := p2) (p3 := p3) b
  rw [a] at O
  exact C_of h O gk_setCredit (mc_X11_setCredit l hl D ta ad M p1 p2 p3)
theorem D_setCredit (hl : l.stackTraces = false) (h : GM w s s2 M) (p1 : Int32) (p2 : Int32) (p3 : Int32) : ∃ M' : Wm, GM w s (F_setCredit s2 p1 p2 p3).2 M' ∧ MX l D ta ad yX11_setCredit cX11_setCredit 4 (some .int) 8 3 [.ref (ad 31 0 0), .int p1, .int p2, .int p3] M (fxi ((F_setCredit s2 p1 p2 p3).1, M')) := by
  obtain ⟨N, g, hN⟩ := C_setCredit (D := D) (ta := ta) (ad := adS ad) hl h.sw p1 p2 p3
  exact ⟨swM N, g.sw, MX_sw hN⟩
def F_payBack (s : ST) (p1 : Int32) (p2 : Int32) (p3 : Int32) : (Nat × Int32) × ST := ((Z12 1 2 s.2.2 (f12_payBack s.2.2 p1 p2 p3)).1, (s.1, s.2.1, (Z12 1 2 s.2.2 (f12_payBack s.2.2 p1 p2 p3)).2))
theorem C_payBack (hl : l.stackTraces = false) (h : GM w s s2 M) (p1 : Int32) (p2 : Int32) (p3 : Int32) : ∃ M' : Wm, GM w (F_payBack s p1 p2 p3).2 s2 M' ∧ MX l D ta ad yX11_payBack cX11_payBack 4 (some .int) 8 4 [.ref (ad 11 0 0), .int p1, .int p2, .int p3] M (fxi ((F_payBack s p1 p2 p3).1, M')) := by
  obtain ⟨a, b⟩ := h.2.1
  have O := O_payBack (p1 := p1) (p2 := p2) (p3 := p3) b
  rw [a] at O
  exact C_of h O gk_payBack (mc_X11_payBack l hl D ta ad M p1 p2 p3)
theorem D_payBack (hl : l.stackTraces = false) (h : GM w s s2 M) (p1 : Int32) (p2 : Int32) (p3 : Int32) : ∃ M' : Wm, GM w s (F_payBack s2 p1 p2 p3).2 M' ∧ MX l D ta ad yX11_payBack cX11_payBack 4 (some .int) 8 4 [.ref (ad 31 0 0), .int p1, .int p2, .int p3] M (fxi ((F_payBack s2 p1 p2 p3).1, M')) := by
  obtain ⟨N, g, hN⟩ := C_payBack (D := D) (ta := ta) (ad := adS ad) hl h.sw p1 p2 p3
  exact ⟨swM N, g.sw, MX_sw hN⟩
def F_order (s : ST) (p1 : Int32) (p2 : Int32) (p3 : Int32) (p4 : Int32) : (Nat × Int32) × ST := ((Z12 1 2 s.2.2 (f12_order s.2.2 p1 p2 p3 p4)).1, (s.1, s.2.1, (Z12 1 2 s.2.2 (f12_order s.2.2 p1 p2 p3 p4)).2))
theorem C_order (hl : l.stackTraces = false) (h : GM w s s2 M) (p1 : Int32) (p2 : Int32) (p3 : Int32) (p4 : Int32) : ∃ M' : Wm, GM w (F_order s p1 p2 p3 p4).2 s2 M' ∧ MX l D ta ad yX11_order cX11_order 5 (some .int) 8 4 [.ref (ad 11 0 0), .int p1, .int p2, .int p3, .int p4] M (fxi ((F_order s p1 p2 p3 p4).1, M')) := by
  obtain ⟨a, b⟩ := h.2.1
  have O := O_order (p1 := p1) (p2 := p2) (p3 := p3) (p4 := p4) b
  rw [a] at O
  exact C_of h O gk_order (mc_X11_order l hl D ta ad M p1 p2 p3 p4 h.2.1.2.1.o.2.2.1.1)
theorem D_order (hl : l.stackTraces = false) (h : GM w s s2 M) (p1 : Int32) (p2 : Int32) (p3 : Int32) (p4 : Int32) : ∃ M' : Wm, GM w s (F_order s2 p1 p2 p3 p4).2 M' ∧ MX l D ta ad yX11_order cX11_order 5 (some .int) 8 4 [.ref (ad 31 0 0), .int p1, .int p2, .int p3, .int p4] M (fxi ((F_order s2 p1 p2 p3 p4).1, M')) := by
  obtain ⟨N, g, hN⟩ := C_order (D := D) (ta := ta) (ad := adS ad) hl h.sw p1 p2 p3 p4
  exact ⟨swM N, g.sw, MX_sw hN⟩
noncomputable def F_pass (s : ST) (p1 : Int32) : (Nat × Int32) × ST := ((Z12 1 2 s.2.2 (f12_pass s.2.2 p1)).1, (s.1, s.2.1, (Z12 1 2 s.2.2 (f12_pass s.2.2 p1)).2))
theorem C_pass (hl : l.stackTraces = false) (h : GM w s s2 M) (p1 : Int32) : ∃ M' : Wm, GM w (F_pass s p1).2 s2 M' ∧ MX l D ta ad yX11_pass cX11_pass 7 (some .int) 220 2 [.ref (ad 11 0 0), .int p1] M (fxi ((F_pass s p1).1, M')) := by
  obtain ⟨a, b⟩ := h.2.1
  have O := O_pass (p1 := p1) b
  rw [a] at O
  exact C_of h O gk_pass (mc_X11_pass l hl D ta ad M p1 (PaJ 1000 (M 12 0 0 10).toInt p1) (psJ_of h.2.1.2.1 (by decide)))
theorem D_pass (hl : l.stackTraces = false) (h : GM w s s2 M) (p1 : Int32) : ∃ M' : Wm, GM w s (F_pass s2 p1).2 M' ∧ MX l D ta ad yX11_pass cX11_pass 7 (some .int) 220 2 [.ref (ad 31 0 0), .int p1] M (fxi ((F_pass s2 p1).1, M')) := by
  obtain ⟨N, g, hN⟩ := C_pass (D := D) (ta := ta) (ad := adS ad) hl h.sw p1
  exact ⟨swM N, g.sw, MX_sw hN⟩
noncomputable def F_takeUp (s : ST) (p1 : Int32) (p2 : Int32) : (Nat × Int32) × ST := ((Z12 3 1 s.2.2 (f12_takeUp s.2.2 p1 p2)).1, (s.1, s.2.1 + 1, (Z12 3 1 s.2.2 (f12_takeUp s.2.2 p1 p2)).2))
theorem C_takeUp (hl : l.stackTraces = false) (h : GM w s s2 M) (p1 : Int32) (p2 : Int32) (hk : s.2.1 < 10000) : ∃ M' : Wm, GM w (F_takeUp s p1 p2).2 s2 M' ∧ MX l D ta ad yX11_takeUp cX11_takeUp 4 (some .int) 220 3 [.ref (ad 11 0 0), .int p1, .int p2] M (fxi ((F_takeUp s p1 p2).1, M')) := by
  obtain ⟨a, b⟩ := h.2.1
  have O := O_takeUp (p1 := p1) (p2 := p2) b hk
  rw [a] at O
  exact C_of h O gk_takeUp (mc_X11_takeUp l hl D ta ad M p1 p2 h.2.1.2.1.o.2.2.1.2 (fun a b => (show RWm 1000 M (M 12) from h.2.1.2.1).exp a b))
theorem D_takeUp (hl : l.stackTraces = false) (h : GM w s s2 M) (p1 : Int32) (p2 : Int32) (hk : s2.2.1 < 10000) : ∃ M' : Wm, GM w s (F_takeUp s2 p1 p2).2 M' ∧ MX l D ta ad yX11_takeUp cX11_takeUp 4 (some .int) 220 3 [.ref (ad 31 0 0), .int p1, .int p2] M (fxi ((F_takeUp s2 p1 p2).1, M')) := by
  obtain ⟨N, g, hN⟩ := C_takeUp (D := D) (ta := ta) (ad := adS ad) hl h.sw p1 p2 hk
  exact ⟨swM N, g.sw, MX_sw hN⟩
theorem C_length (hl : l.stackTraces = false) (h : GM w s s2 M) (p1 : Int32) : ∃ M' : Wm, GM w s s2 M' ∧ MX l D ta ad yX11_length cX11_length 2 (some .int) 8 1 [.ref (ad 11 0 0), .int p1] M (fxi (g_length s.2.2 p1, M')) := by
  obtain ⟨a, b⟩ := h.2.1
  have O := A_length (p1 := p1) b
  rw [a] at O
  exact C_ask h O (by rw [qm_length]; exact gk_r M) (mc_X11_length l hl D ta ad M p1)
theorem D_length (hl : l.stackTraces = false) (h : GM w s s2 M) (p1 : Int32) : ∃ M' : Wm, GM w s s2 M' ∧ MX l D ta ad yX11_length cX11_length 2 (some .int) 8 1 [.ref (ad 31 0 0), .int p1] M (fxi (g_length s2.2.2 p1, M')) := by
  obtain ⟨N, g, hN⟩ := C_length (D := D) (ta := ta) (ad := adS ad) hl h.sw p1
  exact ⟨swM N, g.sw, MX_sw hN⟩
theorem C_fault (hl : l.stackTraces = false) (h : GM w s s2 M) (p1 : Int32) : ∃ M' : Wm, GM w s s2 M' ∧ MX l D ta ad yX11_fault cX11_fault 2 (some .int) 8 1 [.ref (ad 11 0 0), .int p1] M (fxi (g_fault s.2.2 p1, M')) := by
  obtain ⟨a, b⟩ := h.2.1
  have O := A_fault (p1 := p1) b
  rw [a] at O
  exact C_ask h O gk_fault (mc_X11_fault l hl D ta ad M p1 h.2.1.2.1.ln)
theorem D_fault (hl : l.stackTraces = false) (h : GM w s s2 M) (p1 : Int32) : ∃ M' : Wm, GM w s s2 M' ∧ MX l D ta ad yX11_fault cX11_fault 2 (some .int) 8 1 [.ref (ad 31 0 0), .int p1] M (fxi (g_fault s2.2.2 p1, M')) := by
  obtain ⟨N, g, hN⟩ := C_fault (D := D) (ta := ta) (ad := adS ad) hl h.sw p1
  exact ⟨swM N, g.sw, MX_sw hN⟩
theorem C_expressions (hl : l.stackTraces = false) (h : GM w s s2 M) (p1 : Int32) : ∃ M' : Wm, GM w s s2 M' ∧ MX l D ta ad yX11_expressions cX11_expressions 2 (some .int) 8 2 [.ref (ad 11 0 0), .int p1] M (fxi (g_expressions s.2.2 p1, M')) := by
  obtain ⟨a, b⟩ := h.2.1
  have O := A_expressions (p1 := p1) b
  rw [a] at O
  exact C_ask h O gk_expressions (mc_X11_expressions l hl D ta ad M p1 h.2.1.2.1.ln)
theorem D_expressions (hl : l.stackTraces = false) (h : GM w s s2 M) (p1 : Int32) : ∃ M' : Wm, GM w s s2 M' ∧ MX l D ta ad yX11_expressions cX11_expressions 2 (some .int) 8 2 [.ref (ad 31 0 0), .int p1] M (fxi (g_expressions s2.2.2 p1, M')) := by
  obtain ⟨N, g, hN⟩ := C_expressions (D := D) (ta := ta) (ad := adS ad) hl h.sw p1
  exact ⟨swM N, g.sw, MX_sw hN⟩
theorem C_stock (hl : l.stackTraces = false) (h : GM w s s2 M) (p1 : Int32) (p2 : Int32) : ∃ M' : Wm, GM w s s2 M' ∧ MX l D ta ad yX11_stock cX11_stock 3 (some .int) 8 2 [.ref (ad 11 0 0), .int p1, .int p2] M (fxi (g_stock s.2.2 p1 p2, M')) := by
  obtain ⟨a, b⟩ := h.2.1
  have O := A_stock (p1 := p1) (p2 := p2) b
  rw [a] at O
  exact C_ask h O (by rw [qm_stock]; exact gk_r M) (mc_X11_stock l hl D ta ad M p1 p2)
theorem D_stock (hl : l.stackTraces = false) (h : GM w s s2 M) (p1 : Int32) (p2 : Int32) : ∃ M' : Wm, GM w s s2 M' ∧ MX l D ta ad yX11_stock cX11_stock 3 (some .int) 8 2 [.ref (ad 31 0 0), .int p1, .int p2] M (fxi (g_stock s2.2.2 p1 p2, M')) := by
  obtain ⟨N, g, hN⟩ := C_stock (D := D) (ta := ta) (ad := adS ad) hl h.sw p1 p2
  exact ⟨swM N, g.sw, MX_sw hN⟩
theorem C_stockByMoves (hl : l.stackTraces = false) (h : GM w s s2 M) (p1 : Int32) (p2 : Int32) : ∃ M' : Wm, GM w s s2 M' ∧ MX l D ta ad yX11_stockByMoves cX11_stockByMoves 3 (some .int) 8 2 [.ref (ad 11 0 0), .int p1, .int p2] M (fxi (g_stockByMoves s.2.2 p1 p2, M')) := by
  obtain ⟨a, b⟩ := h.2.1
  have O := A_stockByMoves (p1 := p1) (p2 := p2) b
  rw [a] at O
  exact C_ask h O (by rw [qm_stockByMoves]; exact gk_r M) (mc_X11_stockByMoves l hl D ta ad M p1 p2 h.2.1.2.1.b.2.1.1 h.2.1.2.1.b.2.1.2)
theorem D_stockByMoves (hl : l.stackTraces = false) (h : GM w s s2 M) (p1 : Int32) (p2 : Int32) : ∃ M' : Wm, GM w s s2 M' ∧ MX l D ta ad yX11_stockByMoves cX11_stockByMoves 3 (some .int) 8 2 [.ref (ad 31 0 0), .int p1, .int p2] M (fxi (g_stockByMoves s2.2.2 p1 p2, M')) := by
  obtain ⟨N, g, hN⟩ := C_stockByMoves (D := D) (ta := ta) (ad := adS ad) hl h.sw p1 p2
  exact ⟨swM N, g.sw, MX_sw hN⟩
theorem C_leftBy (hl : l.stackTraces = false) (h : GM w s s2 M) (p1 : Int32) (p2 : Int32) : ∃ M' : Wm, GM w s s2 M' ∧ MX l D ta ad yX11_leftBy cX11_leftBy 3 (some .int) 8 2 [.ref (ad 11 0 0), .int p1, .int p2] M (fxi (g_leftBy s.2.2 p1 p2, M')) := by
  obtain ⟨a, b⟩ := h.2.1
  have O := A_leftBy (p1 := p1) (p2 := p2) b
  rw [a] at O
  exact C_ask h O (by rw [qm_leftBy]; exact gk_r M) (mc_X11_leftBy l hl D ta ad M p1 p2 h.2.1.2.1.b.2.1.1 h.2.1.2.1.b.2.1.2)
theorem D_leftBy (hl : l.stackTraces = false) (h : GM w s s2 M) (p1 : Int32) (p2 : Int32) : ∃ M' : Wm, GM w s s2 M' ∧ MX l D ta ad yX11_leftBy cX11_leftBy 3 (some .int) 8 2 [.ref (ad 31 0 0), .int p1, .int p2] M (fxi (g_leftBy s2.2.2 p1 p2, M')) := by
  obtain ⟨N, g, hN⟩ := C_leftBy (D := D) (ta := ta) (ad := adS ad) hl h.sw p1 p2
  exact ⟨swM N, g.sw, MX_sw hN⟩
theorem C_fuel (hl : l.stackTraces = false) (h : GM w s s2 M) (p1 : Int32) : ∃ M' : Wm, GM w s s2 M' ∧ MX l D ta ad yX11_fuel cX11_fuel 2 (some .int) 8 1 [.ref (ad 11 0 0), .int p1] M (fxi (g_fuel s.2.2 p1, M')) := by
  obtain ⟨a, b⟩ := h.2.1
  have O := A_fuel (p1 := p1) b
  rw [a] at O
  exact C_ask h O (by rw [qm_fuel]; exact gk_r M) (mc_X11_fuel l hl D ta ad M p1)
theorem D_fuel (hl : l.stackTraces = false) (h : GM w s s2 M) (p1 : Int32) : ∃ M' : Wm, GM w s s2 M' ∧ MX l D ta ad yX11_fuel cX11_fuel 2 (some .int) 8 1 [.ref (ad 31 0 0), .int p1] M (fxi (g_fuel s2.2.2 p1, M')) := by
  obtain ⟨N, g, hN⟩ := C_fuel (D := D) (ta := ta) (ad := adS ad) hl h.sw p1
  exact ⟨swM N, g.sw, MX_sw hN⟩
theorem C_rations (hl : l.stackTraces = false) (h : GM w s s2 M) (p1 : Int32) : ∃ M' : Wm, GM w s s2 M' ∧ MX l D ta ad yX11_rations cX11_rations 2 (some .int) 8 1 [.ref (ad 11 0 0), .int p1] M (fxi (g_rations s.2.2 p1, M')) := by
  obtain ⟨a, b⟩ := h.2.1
  have O := A_rations (p1 := p1) b
  rw [a] at O
  exact C_ask h O (by rw [qm_rations]; exact gk_r M) (mc_X11_rations l hl D ta ad M p1)
theorem D_rations (hl : l.stackTraces = false) (h : GM w s s2 M) (p1 : Int32) : ∃ M' : Wm, GM w s s2 M' ∧ MX l D ta ad yX11_rations cX11_rations 2 (some .int) 8 1 [.ref (ad 31 0 0), .int p1] M (fxi (g_rations s2.2.2 p1, M')) := by
  obtain ⟨N, g, hN⟩ := C_rations (D := D) (ta := ta) (ad := adS ad) hl h.sw p1
  exact ⟨swM N, g.sw, MX_sw hN⟩
theorem C_debt (hl : l.stackTraces = false) (h : GM w s s2 M) (p1 : Int32) (p2 : Int32) : ∃ M' : Wm, GM w s s2 M' ∧ MX l D ta ad yX11_debt cX11_debt 3 (some .int) 8 2 [.ref (ad 11 0 0), .int p1, .int p2] M (fxi (g_debt s.2.2 p1 p2, M')) := by
  obtain ⟨a, b⟩ := h.2.1
  have O := A_debt (p1 := p1) (p2 := p2) b
  rw [a] at O
  exact C_ask h O (by rw [qm_debt]; exact gk_r M) (mc_X11_debt l hl D ta ad M p1 p2)
theorem D_debt (hl : l.stackTraces = false) (h : GM w s s2 M) (p1 : Int32) (p2 : Int32) : ∃ M' : Wm, GM w s s2 M' ∧ MX l D ta ad yX11_debt cX11_debt 3 (some .int) 8 2 [.ref (ad 31 0 0), .int p1, .int p2] M (fxi (g_debt s2.2.2 p1 p2, M')) := by
  obtain ⟨N, g, hN⟩ := C_debt (D := D) (ta := ta) (ad := adS ad) hl h.sw p1 p2
  exact ⟨swM N, g.sw, MX_sw hN⟩
theorem C_hour (hl : l.stackTraces = false) (h : GM w s s2 M) : ∃ M' : Wm, GM w s s2 M' ∧ MX l D ta ad yX11_hour cX11_hour 1 (some .int) 8 0 [.ref (ad 11 0 0)] M (fxi (g_hour s.2.2, M')) := by
  obtain ⟨a, b⟩ := h.2.1
  have O := A_hour b
  rw [a] at O
  exact C_ask h O (gk_r M) (mc_X11_hour l hl D ta ad M)
theorem D_hour (hl : l.stackTraces = false) (h : GM w s s2 M) : ∃ M' : Wm, GM w s s2 M' ∧ MX l D ta ad yX11_hour cX11_hour 1 (some .int) 8 0 [.ref (ad 31 0 0)] M (fxi (g_hour s2.2.2, M')) := by
  obtain ⟨N, g, hN⟩ := C_hour (D := D) (ta := ta) (ad := adS ad) hl h.sw
  exact ⟨swM N, g.sw, MX_sw hN⟩
theorem C_orders (hl : l.stackTraces = false) (h : GM w s s2 M) : ∃ M' : Wm, GM w s s2 M' ∧ MX l D ta ad yX11_orders cX11_orders 1 (some .int) 8 0 [.ref (ad 11 0 0)] M (fxi (g_orders s.2.2, M')) := by
  obtain ⟨a, b⟩ := h.2.1
  have O := A_orders b
  rw [a] at O
  exact C_ask h O (gk_r M) (mc_X11_orders l hl D ta ad M)
theorem D_orders (hl : l.stackTraces = false) (h : GM w s s2 M) : ∃ M' : Wm, GM w s s2 M' ∧ MX l D ta ad yX11_orders cX11_orders 1 (some .int) 8 0 [.ref (ad 31 0 0)] M (fxi (g_orders s2.2.2, M')) := by
  obtain ⟨N, g, hN⟩ := C_orders (D := D) (ta := ta) (ad := adS ad) hl h.sw
  exact ⟨swM N, g.sw, MX_sw hN⟩
theorem C_moves (hl : l.stackTraces = false) (h : GM w s s2 M) : ∃ M' : Wm, GM w s s2 M' ∧ MX l D ta ad yX11_moves cX11_moves 1 (some .int) 8 0 [.ref (ad 11 0 0)] M (fxi (g_moves s.2.2, M')) := by
  obtain ⟨a, b⟩ := h.2.1
  have O := A_moves b
  rw [a] at O
  exact C_ask h O (gk_r M) (mc_X11_moves l hl D ta ad M)
theorem D_moves (hl : l.stackTraces = false) (h : GM w s s2 M) : ∃ M' : Wm, GM w s s2 M' ∧ MX l D ta ad yX11_moves cX11_moves 1 (some .int) 8 0 [.ref (ad 31 0 0)] M (fxi (g_moves s2.2.2, M')) := by
  obtain ⟨N, g, hN⟩ := C_moves (D := D) (ta := ta) (ad := adS ad) hl h.sw
  exact ⟨swM N, g.sw, MX_sw hN⟩
theorem C_state (hl : l.stackTraces = false) (h : GM w s s2 M) (p1 : Int32) : ∃ M' : Wm, GM w s s2 M' ∧ MX l D ta ad yX11_state cX11_state 2 (some .int) 8 1 [.ref (ad 11 0 0), .int p1] M (fxi (g_state s.2.2 p1, M')) := by
  obtain ⟨a, b⟩ := h.2.1
  have O := A_state (p1 := p1) b
  rw [a] at O
  exact C_ask h O (by rw [qm_state]; exact gk_r M) (mc_X11_state l hl D ta ad M p1 h.2.1.2.1.o.2.2.1.2)
theorem D_state (hl : l.stackTraces = false) (h : GM w s s2 M) (p1 : Int32) : ∃ M' : Wm, GM w s s2 M' ∧ MX l D ta ad yX11_state cX11_state 2 (some .int) 8 1 [.ref (ad 31 0 0), .int p1] M (fxi (g_state s2.2.2 p1, M')) := by
  obtain ⟨N, g, hN⟩ := C_state (D := D) (ta := ta) (ad := adS ad) hl h.sw p1
  exact ⟨swM N, g.sw, MX_sw hN⟩
theorem C_why (hl : l.stackTraces = false) (h : GM w s s2 M) (p1 : Int32) : ∃ M' : Wm, GM w s s2 M' ∧ MX l D ta ad yX11_why cX11_why 2 (some .int) 8 1 [.ref (ad 11 0 0), .int p1] M (fxi (g_why s.2.2 p1, M')) := by
  obtain ⟨a, b⟩ := h.2.1
  have O := A_why (p1 := p1) b
  rw [a] at O
  exact C_ask h O (by rw [qm_why]; exact gk_r M) (mc_X11_why l hl D ta ad M p1 h.2.1.2.1.o.2.2.1.2)
theorem D_why (hl : l.stackTraces = false) (h : GM w s s2 M) (p1 : Int32) : ∃ M' : Wm, GM w s s2 M' ∧ MX l D ta ad yX11_why cX11_why 2 (some .int) 8 1 [.ref (ad 31 0 0), .int p1] M (fxi (g_why s2.2.2 p1, M')) := by
  obtain ⟨N, g, hN⟩ := C_why (D := D) (ta := ta) (ad := adS ad) hl h.sw p1
  exact ⟨swM N, g.sw, MX_sw hN⟩
theorem C_done (hl : l.stackTraces = false) (h : GM w s s2 M) (p1 : Int32) : ∃ M' : Wm, GM w s s2 M' ∧ MX l D ta ad yX11_done cX11_done 2 (some .int) 8 1 [.ref (ad 11 0 0), .int p1] M (fxi (g_done s.2.2 p1, M')) := by
  obtain ⟨a, b⟩ := h.2.1
  have O := A_done (p1 := p1) b
  rw [a] at O
  exact C_ask h O (by rw [qm_done]; exact gk_r M) (mc_X11_done l hl D ta ad M p1 h.2.1.2.1.o.2.2.1.2)
theorem D_done (hl : l.stackTraces = false) (h : GM w s s2 M) (p1 : Int32) : ∃ M' : Wm, GM w s s2 M' ∧ MX l D ta ad yX11_done cX11_done 2 (some .int) 8 1 [.ref (ad 31 0 0), .int p1] M (fxi (g_done s2.2.2 p1, M')) := by
  obtain ⟨N, g, hN⟩ := C_done (D := D) (ta := ta) (ad := adS ad) hl h.sw p1
  exact ⟨swM N, g.sw, MX_sw hN⟩
theorem C_value (hl : l.stackTraces = false) (h : GM w s s2 M) (p1 : Int32) : ∃ M' : Wm, GM w s s2 M' ∧ MX l D ta ad yX11_value cX11_value 2 (some .int) 8 1 [.ref (ad 11 0 0), .int p1] M (fxi (g_value s.2.2 p1, M')) := by
  obtain ⟨a, b⟩ := h.2.1
  have O := A_value (p1 := p1) b
  rw [a] at O
  exact C_ask h O (by rw [qm_value]; exact gk_r M) (mc_X11_value l hl D ta ad M p1 h.2.1.2.1.o.2.2.1.2)
theorem D_value (hl : l.stackTraces = false) (h : GM w s s2 M) (p1 : Int32) : ∃ M' : Wm, GM w s s2 M' ∧ MX l D ta ad yX11_value cX11_value 2 (some .int) 8 1 [.ref (ad 31 0 0), .int p1] M (fxi (g_value s2.2.2 p1, M')) := by
  obtain ⟨N, g, hN⟩ := C_value (D := D) (ta := ta) (ad := adS ad) hl h.sw p1
  exact ⟨swM N, g.sw, MX_sw hN⟩
theorem C_used (hl : l.stackTraces = false) (h : GM w s s2 M) (p1 : Int32) : ∃ M' : Wm, GM w s s2 M' ∧ MX l D ta ad yX11_used cX11_used 2 (some .int) 8 1 [.ref (ad 11 0 0), .int p1] M (fxi (g_used s.2.2 p1, M')) := by
  obtain ⟨a, b⟩ := h.2.1
  have O := A_used (p1 := p1) b
  rw [a] at O
  exact C_ask h O (by rw [qm_used]; exact gk_r M) (mc_X11_used l hl D ta ad M p1 h.2.1.2.1.o.2.2.1.2)
theorem D_used (hl : l.stackTraces = false) (h : GM w s s2 M) (p1 : Int32) : ∃ M' : Wm, GM w s s2 M' ∧ MX l D ta ad yX11_used cX11_used 2 (some .int) 8 1 [.ref (ad 31 0 0), .int p1] M (fxi (g_used s2.2.2 p1, M')) := by
  obtain ⟨N, g, hN⟩ := C_used (D := D) (ta := ta) (ad := adS ad) hl h.sw p1
  exact ⟨swM N, g.sw, MX_sw hN⟩
theorem C_hourOf (hl : l.stackTraces = false) (h : GM w s s2 M) (p1 : Int32) : ∃ M' : Wm, GM w s s2 M' ∧ MX l D ta ad yX11_hourOf cX11_hourOf 2 (some .int) 8 1 [.ref (ad 11 0 0), .int p1] M (fxi (g_hourOf s.2.2 p1, M')) := by
  obtain ⟨a, b⟩ := h.2.1
  have O := A_hourOf (p1 := p1) b
  rw [a] at O
  exact C_ask h O (by rw [qm_hourOf]; exact gk_r M) (mc_X11_hourOf l hl D ta ad M p1 h.2.1.2.1.o.2.2.1.2)
theorem D_hourOf (hl : l.stackTraces = false) (h : GM w s s2 M) (p1 : Int32) : ∃ M' : Wm, GM w s s2 M' ∧ MX l D ta ad yX11_hourOf cX11_hourOf 2 (some .int) 8 1 [.ref (ad 31 0 0), .int p1] M (fxi (g_hourOf s2.2.2 p1, M')) := by
  obtain ⟨N, g, hN⟩ := C_hourOf (D := D) (ta := ta) (ad := adS ad) hl h.sw p1
  exact ⟨swM N, g.sw, MX_sw hN⟩
theorem C_movedFrom (hl : l.stackTraces = false) (h : GM w s s2 M) (p1 : Int32) : ∃ M' : Wm, GM w s s2 M' ∧ MX l D ta ad yX11_movedFrom cX11_movedFrom 2 (some .int) 8 1 [.ref (ad 11 0 0), .int p1] M (fxi (g_movedFrom s.2.2 p1, M')) := by
  obtain ⟨a, b⟩ := h.2.1
  have O := A_movedFrom (p1 := p1) b
  rw [a] at O
  exact C_ask h O (by rw [qm_movedFrom]; exact gk_r M) (mc_X11_movedFrom l hl D ta ad M p1 h.2.1.2.1.b.2.1.2)
theorem D_movedFrom (hl : l.stackTraces = false) (h : GM w s s2 M) (p1 : Int32) : ∃ M' : Wm, GM w s s2 M' ∧ MX l D ta ad yX11_movedFrom cX11_movedFrom 2 (some .int) 8 1 [.ref (ad 31 0 0), .int p1] M (fxi (g_movedFrom s2.2.2 p1, M')) := by
  obtain ⟨N, g, hN⟩ := C_movedFrom (D := D) (ta := ta) (ad := adS ad) hl h.sw p1
  exact ⟨swM N, g.sw, MX_sw hN⟩
theorem C_movedTo (hl : l.stackTraces = false) (h : GM w s s2 M) (p1 : Int32) : ∃ M' : Wm, GM w s s2 M' ∧ MX l D ta ad yX11_movedTo cX11_movedTo 2 (some .int) 8 1 [.ref (ad 11 0 0), .int p1] M (fxi (g_movedTo s.2.2 p1, M')) := by
  obtain ⟨a, b⟩ := h.2.1
  have O := A_movedTo (p1 := p1) b
  rw [a] at O
  exact C_ask h O (by rw [qm_movedTo]; exact gk_r M) (mc_X11_movedTo l hl D ta ad M p1 h.2.1.2.1.b.2.1.2)
theorem D_movedTo (hl : l.stackTraces = false) (h : GM w s s2 M) (p1 : Int32) : ∃ M' : Wm, GM w s s2 M' ∧ MX l D ta ad yX11_movedTo cX11_movedTo 2 (some .int) 8 1 [.ref (ad 31 0 0), .int p1] M (fxi (g_movedTo s2.2.2 p1, M')) := by
  obtain ⟨N, g, hN⟩ := C_movedTo (D := D) (ta := ta) (ad := adS ad) hl h.sw p1
  exact ⟨swM N, g.sw, MX_sw hN⟩
theorem C_movedGood (hl : l.stackTraces = false) (h : GM w s s2 M) (p1 : Int32) : ∃ M' : Wm, GM w s s2 M' ∧ MX l D ta ad yX11_movedGood cX11_movedGood 2 (some .int) 8 1 [.ref (ad 11 0 0), .int p1] M (fxi (g_movedGood s.2.2 p1, M')) := by
  obtain ⟨a, b⟩ := h.2.1
  have O := A_movedGood (p1 := p1) b
  rw [a] at O
  exact C_ask h O (by rw [qm_movedGood]; exact gk_r M) (mc_X11_movedGood l hl D ta ad M p1 h.2.1.2.1.b.2.1.2)
theorem D_movedGood (hl : l.stackTraces = false) (h : GM w s s2 M) (p1 : Int32) : ∃ M' : Wm, GM w s s2 M' ∧ MX l D ta ad yX11_movedGood cX11_movedGood 2 (some .int) 8 1 [.ref (ad 31 0 0), .int p1] M (fxi (g_movedGood s2.2.2 p1, M')) := by
  obtain ⟨N, g, hN⟩ := C_movedGood (D := D) (ta := ta) (ad := adS ad) hl h.sw p1
  exact ⟨swM N, g.sw, MX_sw hN⟩
theorem C_movedAmount (hl : l.stackTraces = false) (h : GM w s s2 M) (p1 : Int32) : ∃ M' : Wm, GM w s s2 M' ∧ MX l D ta ad yX11_movedAmount cX11_movedAmount 2 (some .int) 8 1 [.ref (ad 11 0 0), .int p1] M (fxi (g_movedAmount s.2.2 p1, M')) := by
  obtain ⟨a, b⟩ := h.2.1
  have O := A_movedAmount (p1 := p1) b
  rw [a] at O
  exact C_ask h O (by rw [qm_movedAmount]; exact gk_r M) (mc_X11_movedAmount l hl D ta ad M p1 h.2.1.2.1.b.2.1.2)
theorem D_movedAmount (hl : l.stackTraces = false) (h : GM w s s2 M) (p1 : Int32) : ∃ M' : Wm, GM w s s2 M' ∧ MX l D ta ad yX11_movedAmount cX11_movedAmount 2 (some .int) 8 1 [.ref (ad 31 0 0), .int p1] M (fxi (g_movedAmount s2.2.2 p1, M')) := by
  obtain ⟨N, g, hN⟩ := C_movedAmount (D := D) (ta := ta) (ad := adS ad) hl h.sw p1
  exact ⟨swM N, g.sw, MX_sw hN⟩
theorem C_movedBy (hl : l.stackTraces = false) (h : GM w s s2 M) (p1 : Int32) : ∃ M' : Wm, GM w s s2 M' ∧ MX l D ta ad yX11_movedBy cX11_movedBy 2 (some .int) 8 1 [.ref (ad 11 0 0), .int p1] M (fxi (g_movedBy s.2.2 p1, M')) := by
  obtain ⟨a, b⟩ := h.2.1
  have O := A_movedBy (p1 := p1) b
  rw [a] at O
  exact C_ask h O (by rw [qm_movedBy]; exact gk_r M) (mc_X11_movedBy l hl D ta ad M p1 h.2.1.2.1.b.2.1.2)
theorem D_movedBy (hl : l.stackTraces = false) (h : GM w s s2 M) (p1 : Int32) : ∃ M' : Wm, GM w s s2 M' ∧ MX l D ta ad yX11_movedBy cX11_movedBy 2 (some .int) 8 1 [.ref (ad 31 0 0), .int p1] M (fxi (g_movedBy s2.2.2 p1, M')) := by
  obtain ⟨N, g, hN⟩ := C_movedBy (D := D) (ta := ta) (ad := adS ad) hl h.sw p1
  exact ⟨swM N, g.sw, MX_sw hN⟩
end CCL
