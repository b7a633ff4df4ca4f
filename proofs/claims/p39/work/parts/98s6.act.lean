/-! ONE ACT of the law: it throws nothing, and what it marks as thrown changes nothing that is told -/
section ACT
variable {s : ST} {M : Wm}
def AK (s : ST) (r : (Nat × Int32) × ST) : Prop := r.1.1 = 0 ∧ WK s (r.1.2, r.2)
theorem ak_w {z : Int32 × ST} (h : WK s z) : AK s (bnd z (fun r => ((0, r.1), r.2))) := ⟨rfl, h⟩
theorem ak_s {x : Int32 → Int32} {k n : Int} {p : Int32} {r : (Nat × Int32) × ST} (hx : x = s.1) (hk : k = s.2.1) (h : RS x k p n r) {g : (Nat × Int32) × ST → (Nat × Int32) × ST} : AK s (bnd r (fun r => if r.1.1 = 0 then ((0, r.1.2), r.2) else g r)) := by
  show AK s (if r.1.1 = 0 then ((0, r.1.2), r.2) else g r)
  rw [if_pos h.1]
  subst hx; subst hk
  exact ⟨rfl, h.2.2.1, h.2.2.2.1.1, ⟨by rw [h.2.2.2.1.2]; omega, by rw [h.2.2.2.1.2]; omega⟩, fun e => absurd e (n99 h.2.1)⟩
theorem act_all (h : OKS s) (hk : s.2.1 < 10000) (v : Int32) : AK s (fL_act s v) := by
  obtain ⟨M, hM⟩ := h
  unfold fL_act
  refine bnd_go (Q := AK s) ?_
  refine jn_go (fun _ : Bool => True) (fun v2 _ => ?_) (fun K hK => ?_)
  · refine jn_go (fun a : Int32 => v2 = false → vp_in a 8) (fun v5 h5 => ?_) (fun K hK => ?_)
    · refine jn_go (fun _ : Int32 => True) (fun v10 _ => ?_) (fun K hK => ?_)
      · refine bnd_go (Q := AK s) ?_
        by_cases c0 : fL_low v 20 = 0
        · rw [if_pos c0]
          refine jn_go (fun _ : Int32 => True) (fun a _ => ?_) (fun K hK => ?_)
          · exact ak_w (w_type hM)
          · repeat' (first | with_reducible exact hK _ trivial | (with_reducible refine bnd_go (Q := AK s) ?_) | split)
        · rw [if_neg c0]
          by_cases c1 : fL_low v 20 = 1
          · rw [if_pos c1]
            refine jn_go (fun _ : Int32 => True) (fun a _ => ?_) (fun K hK => ?_)
            · exact ak_w (w_erase hM)
            · repeat' (first | with_reducible exact hK _ trivial | (with_reducible refine bnd_go (Q := AK s) ?_) | split)
          · rw [if_neg c1]
            by_cases c2 : fL_low v 20 = 2
            · rw [if_pos c2]
              refine jn_go (fun _ : Int32 => True) (fun a _ => ?_) (fun K hK => ?_)
              · exact ak_w (w_giveRations hM hk)
              · repeat' (first | with_reducible exact hK _ trivial | (with_reducible refine bnd_go (Q := AK s) ?_) | split)
            · rw [if_neg c2]
              by_cases c3 : fL_low v 20 = 3
              · rw [if_pos c3]
                refine jn_go (fun _ : Int32 => True) (fun a _ => ?_) (fun K hK => ?_)
                · exact ak_w (w_buy hM)
                · repeat' (first | with_reducible exact hK _ trivial | (with_reducible refine bnd_go (Q := AK s) ?_) | split)
              · rw [if_neg c3]
                by_cases c4 : fL_low v 20 = 4
                · rw [if_pos c4]
                  refine jn_go (fun _ : Int32 => True) (fun a _ => ?_) (fun K hK => ?_)
                  · exact ak_w (w_setTariff hM)
                  · repeat' (first | with_reducible exact hK _ trivial | (with_reducible refine bnd_go (Q := AK s) ?_) | split)
                · rw [if_neg c4]
                  by_cases c5 : fL_low v 20 = 5
                  · rw [if_pos c5]
                    refine jn_go (fun _ : Bool => True) (fun a _ => ?_) (fun K hK => ?_)
                    · exact ak_w (w_setBuying hM)
                    · repeat' (first | with_reducible exact hK _ trivial | (with_reducible refine bnd_go (Q := AK s) ?_) | split)
                  · rw [if_neg c5]
                    by_cases c6 : fL_low v 20 = 6
                    · rw [if_pos c6]
                      refine bnd_go (Q := AK s) ?_
                      refine jn_go (fun _ : Int32 => True) (fun a _ => ?_) (fun K hK => ?_)
                      · exact ak_w (w_setCredit hM)
                      · repeat' (first | with_reducible exact hK _ trivial | (with_reducible refine bnd_go (Q := AK s) ?_) | split)
                    · rw [if_neg c6]
                      by_cases c7 : fL_low v 20 = 7
                      · rw [if_pos c7]
                        refine bnd_go (Q := AK s) ?_
                        refine bnd_go (Q := AK s) ?_
                        refine jn_go (fun _ : Int32 => True) (fun a _ => ?_) (fun K hK => ?_)
                        · exact ak_w (w_payBack hM)
                        · repeat' (first | with_reducible exact hK _ trivial | (with_reducible refine bnd_go (Q := AK s) ?_) | split)
                      · rw [if_neg c7]
                        by_cases c8 : fL_low v 20 = 8
                        · rw [if_pos c8]
                          refine jn_go (fun _ : Int32 => True) (fun a _ => ?_) (fun K hK => ?_)
                          · refine jn_go (fun _ : Int32 => True) (fun b _ => ?_) (fun K hK => ?_)
                            · exact ak_w (w_order hM)
                            · repeat' (first | with_reducible exact hK _ trivial | (with_reducible refine bnd_go (Q := AK s) ?_) | split)
                          · repeat' (first | with_reducible exact hK _ trivial | (with_reducible refine bnd_go (Q := AK s) ?_) | split)
                        · rw [if_neg c8]
                          by_cases c9 : fL_low v 20 = 9
                          · rw [if_pos c9]
                            refine jn_go (fun _ : Int32 => True) (fun a _ => ?_) (fun K hK => ?_)
                            · refine jn_go (fun _ : Int32 => True) (fun b _ => ?_) (fun K hK => ?_)
                              · exact ak_w (w_order hM)
                              · repeat' (first | with_reducible exact hK _ trivial | (with_reducible refine bnd_go (Q := AK s) ?_) | split)
                            · repeat' (first | with_reducible exact hK _ trivial | (with_reducible refine bnd_go (Q := AK s) ?_) | split)
                          · rw [if_neg c9]
                            by_cases c10 : fL_low v 20 = 10
                            · rw [if_pos c10]
                              refine jn_go (fun _ : Int32 => True) (fun a _ => ?_) (fun K hK => ?_)
                              · refine jn_go (fun _ : Int32 => True) (fun b _ => ?_) (fun K hK => ?_)
                                · exact ak_w (w_order hM)
                                · repeat' (first | with_reducible exact hK _ trivial | (with_reducible refine bnd_go (Q := AK s) ?_) | split)
                              · repeat' (first | with_reducible exact hK _ trivial | (with_reducible refine bnd_go (Q := AK s) ?_) | split)
                            · rw [if_neg c10]
                              by_cases c11 : fL_low v 20 = 11
                              · rw [if_pos c11]
                                refine jn_go (fun _ : Int32 => True) (fun a _ => ?_) (fun K hK => ?_)
                                · exact ak_w (w_pass hM)
                                · repeat' (first | with_reducible exact hK _ trivial | (with_reducible refine bnd_go (Q := AK s) ?_) | split)
                              · rw [if_neg c11]
                                by_cases c12 : fL_low v 20 = 12
                                · rw [if_pos c12]
                                  refine jn_go (fun _ : Int32 => True) (fun a _ => ?_) (fun K hK => ?_)
                                  · exact ak_w (w_pass hM)
                                  · repeat' (first | with_reducible exact hK _ trivial | (with_reducible refine bnd_go (Q := AK s) ?_) | split)
                                · rw [if_neg c12]
                                  by_cases c13 : fL_low v 20 = 13
                                  · rw [if_pos c13]
                                    refine jn_go (fun _ : Int32 => True) (fun a _ => ?_) (fun K hK => ?_)
                                    · refine jn_go (fun _ : Int32 => True) (fun b _ => ?_) (fun K hK => ?_)
                                      · exact ak_w (w_takeUp hM hk)
                                      · repeat' (first | with_reducible exact hK _ trivial | (with_reducible refine bnd_go (Q := AK s) ?_) | split)
                                    · repeat' (first | with_reducible exact hK _ trivial | (with_reducible refine bnd_go (Q := AK s) ?_) | split)
                                  · rw [if_neg c13]
                                    by_cases c : v2 = true
                                    · rw [if_pos c]; exact ak_w (w_type hM)
                                    · rw [if_neg c]; exact ak_s rfl rfl (say_all ⟨M, hM⟩ (h5 (by cases v2 <;> simp_all)) _)
      · repeat' (first | with_reducible exact hK _ trivial | (with_reducible refine bnd_go (Q := AK s) ?_) | split)
    · split
      · refine bnd_go (Q := AK s) ?_
        exact hK _ (fun e => by simp_all)
      · refine bnd_go (Q := AK s) ?_
        refine hK _ (fun _ => ?_)
        have := low_in (v >>> (4 &&& 31)) (m := 3) (N := 3) (by decide) (by decide)
        rw [vp_in_iff] at this ⊢; omega
  · split
    · exact hK _ trivial
    · exact hK _ trivial
end ACT
