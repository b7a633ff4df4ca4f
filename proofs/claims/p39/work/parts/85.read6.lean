/-! READING: ahead of a run -/
section READ
variable {M N : Wm}
theorem read_st {m : Cm} {w p2 : Int32} (hk : Ok12 m) (hS : ∀ s : Int32, vp_in s 8 → SgS m s) (hF : FtK (M 8) m) (hN : f8_readChanged (st0 M w p2) = N) : (N 1 = M 1 ∧ N 2 = f2_clear (M 2) ∧ N 4 = M 4 ∧ N 5 = M 5 ∧ N 7 = st7 M w p2) ∧ FtK (N 8) m ∧ ∀ s : Int32, vp_in s 8 → N 8 3 0 s = f12_faultOf m s := by
  have c := changed_c hk hS 9 0 (st0 M w p2) (by decide) (by decide) (by decide) hF (fun j a b => by rw [t32_0] at b; omega)
  have e : f8_readChanged_lp2 9 (0, st0 M w p2) = N := hN
  rw [e] at c
  obtain ⟨z7, z2, z1, z4, z5⟩ := st0_c M w p2
  refine ⟨⟨(c.2.2 1 (by decide) (by decide) (by decide)).trans z1, (c.2.2 2 (by decide) (by decide) (by decide)).trans z2, (c.2.2 4 (by decide) (by decide) (by decide)).trans z4, (c.2.2 5 (by decide) (by decide) (by decide)).trans z5, (c.2.2 7 (by decide) (by decide) (by decide)).trans z7⟩, c.1, fun s hs => c.1.2 s hs (c.2.1 s hs)⟩
end READ
