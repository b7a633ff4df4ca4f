theorem okT_f12_finish {m0 m : Cm} (h : OkT m0 m) (a : Int32) (hd : 1 ≤ (m 0 0 45).toInt) : OkT m0 (f12_finish m a) := by
  have h0 := h.1.d0; have h1 := h.1.d1
  unfold f12_finish
  refine bnd_I (P := OkT m0) (fun m1 e1 => bnd_I (P := OkT m0) (fun m2 e2 => ?_))
  rw [e2, e1]
  refine okT_s45 (okT_put0 h (by decide)) ?_
  rw [i32subn (by rw [t32_1]; omega) (by rw [t32_1]; omega), t32_1]; omega
theorem okT_f12_bind {m0 m : Cm} (h : OkT m0 m) (a b : Int32) (ht : (m 0 0 49).toInt < 100) : OkT m0 (f12_bind m a b) := by
  have h0 := h.1.t0
  unfold f12_bind
  refine bnd_I (P := OkT m0) (fun m1 e1 => bnd_I (P := OkT m0) (fun m2 e2 => bnd_I (P := OkT m0) (fun m3 e3 => ?_)))
  rw [e3, e2, e1]
  refine okT_s49 (okT_putA (okT_putA h (by decide)) (by decide)) ?_
  rw [inc_t h0 (by omega)]; omega
