/-! WHICH KINDS each call may throw -/
section KND
variable {M : Wm} {p1 p2 p3 p4 : Int32}
theorem isC_k (a : Int32) : f11_demandCompany a = 0 ∨ f11_demandCompany a = 1 := by rw [dC_e]; cases f12_isCompany a <;> simp
theorem isG_k (a : Int32) : f11_demandGood a = 0 ∨ f11_demandGood a = 1 := by rw [dG_e]; cases f12_isGood a <;> simp
theorem isS_k (a : Int32) : f11_demandScript a = 0 ∨ f11_demandScript a = 1 := by rw [dS_e]; cases f12_isScript a <;> simp
theorem isD_k (a : Bool) : f11_demand a = 0 ∨ f11_demand a = 1 := by cases a <;> simp [f11_demand]
theorem isT_k (a : Bool) : f11_demandState a = 0 ∨ f11_demandState a = 2 := by cases a <;> simp [f11_demandState]
theorem isO_k (a : Int32) : f11_demandOwner a = 0 ∨ f11_demandOwner a = 1 := by
  unfold f11_demandOwner
  simp only [bnd_e, jn_e]
  repeat' split
  all_goals first | exact Or.inl rfl | exact Or.inr rfl | exact isD_k _
theorem isI_k (a n : Int32) : f11_demandIndex a n = 0 ∨ f11_demandIndex a n = 3 := by unfold f11_demandIndex; split <;> first | (split <;> simp) | simp
theorem isE_k (a : Int32) : f11_existing M a = 0 ∨ f11_existing M a = 3 := by unfold f11_existing; simp only [bnd_e]; rcases isI_k a (M 4 0 0 1) with h | h <;> simp [h]
theorem k_type : (f11_type M p1 p2).1.1 = 0 ∨ (f11_type M p1 p2).1.1 = 1 ∨ (f11_type M p1 p2).1.1 = 2 := by
  unfold f11_type
  simp only [bnd_e, jn_e]
  repeat' split
  all_goals first | exact Or.inl rfl | exact Or.inr rfl | exact Or.inr (Or.inl rfl) | exact Or.inr (Or.inr rfl) | exact isO_k _ | exact isC_k _ | exact (isC_k _).elim Or.inl (fun h => Or.inr (Or.inl h)) | exact (isC_k _).elim Or.inl (fun h => Or.inr (Or.inr h)) | exact isG_k _ | exact (isG_k _).elim Or.inl (fun h => Or.inr (Or.inl h)) | exact (isG_k _).elim Or.inl (fun h => Or.inr (Or.inr h)) | exact isS_k _ | exact (isS_k _).elim Or.inl (fun h => Or.inr (Or.inl h)) | exact (isS_k _).elim Or.inl (fun h => Or.inr (Or.inr h)) | exact isD_k _ | exact (isD_k _).elim Or.inl (fun h => Or.inr (Or.inl h)) | exact (isD_k _).elim Or.inl (fun h => Or.inr (Or.inr h)) | exact isT_k _ | exact (isT_k _).elim Or.inl (fun h => Or.inr (Or.inl h)) | exact (isT_k _).elim Or.inl (fun h => Or.inr (Or.inr h)) | exact isI_k _ _ | exact (isI_k _ _).elim Or.inl (fun h => Or.inr (Or.inl h)) | exact (isI_k _ _).elim Or.inl (fun h => Or.inr (Or.inr h)) | exact isE_k _ | exact (isE_k _).elim Or.inl (fun h => Or.inr (Or.inl h)) | exact (isE_k _).elim Or.inl (fun h => Or.inr (Or.inr h))
theorem k_erase : (f11_erase M p1 p2).1.1 = 0 ∨ (f11_erase M p1 p2).1.1 = 1 := by
  unfold f11_erase
  simp only [bnd_e, jn_e]
  repeat' split
  all_goals first | exact Or.inl rfl | exact Or.inr rfl | exact Or.inr (Or.inl rfl) | exact Or.inr (Or.inr rfl) | exact isO_k _ | exact isC_k _ | exact (isC_k _).elim Or.inl (fun h => Or.inr (Or.inl h)) | exact (isC_k _).elim Or.inl (fun h => Or.inr (Or.inr h)) | exact isG_k _ | exact (isG_k _).elim Or.inl (fun h => Or.inr (Or.inl h)) | exact (isG_k _).elim Or.inl (fun h => Or.inr (Or.inr h)) | exact isS_k _ | exact (isS_k _).elim Or.inl (fun h => Or.inr (Or.inl h)) | exact (isS_k _).elim Or.inl (fun h => Or.inr (Or.inr h)) | exact isD_k _ | exact (isD_k _).elim Or.inl (fun h => Or.inr (Or.inl h)) | exact (isD_k _).elim Or.inl (fun h => Or.inr (Or.inr h)) | exact isT_k _ | exact (isT_k _).elim Or.inl (fun h => Or.inr (Or.inl h)) | exact (isT_k _).elim Or.inl (fun h => Or.inr (Or.inr h)) | exact isI_k _ _ | exact (isI_k _ _).elim Or.inl (fun h => Or.inr (Or.inl h)) | exact (isI_k _ _).elim Or.inl (fun h => Or.inr (Or.inr h)) | exact isE_k _ | exact (isE_k _).elim Or.inl (fun h => Or.inr (Or.inl h)) | exact (isE_k _).elim Or.inl (fun h => Or.inr (Or.inr h))
theorem k_length : (f11_length M p1).1.1 = 0 ∨ (f11_length M p1).1.1 = 1 := by
  unfold f11_length
  simp only [bnd_e, jn_e]
  repeat' split
  all_goals first | exact Or.inl rfl | exact Or.inr rfl | exact Or.inr (Or.inl rfl) | exact Or.inr (Or.inr rfl) | exact isO_k _ | exact isC_k _ | exact (isC_k _).elim Or.inl (fun h => Or.inr (Or.inl h)) | exact (isC_k _).elim Or.inl (fun h => Or.inr (Or.inr h)) | exact isG_k _ | exact (isG_k _).elim Or.inl (fun h => Or.inr (Or.inl h)) | exact (isG_k _).elim Or.inl (fun h => Or.inr (Or.inr h)) | exact isS_k _ | exact (isS_k _).elim Or.inl (fun h => Or.inr (Or.inl h)) | exact (isS_k _).elim Or.inl (fun h => Or.inr (Or.inr h)) | exact isD_k _ | exact (isD_k _).elim Or.inl (fun h => Or.inr (Or.inl h)) | exact (isD_k _).elim Or.inl (fun h => Or.inr (Or.inr h)) | exact isT_k _ | exact (isT_k _).elim Or.inl (fun h => Or.inr (Or.inl h)) | exact (isT_k _).elim Or.inl (fun h => Or.inr (Or.inr h)) | exact isI_k _ _ | exact (isI_k _ _).elim Or.inl (fun h => Or.inr (Or.inl h)) | exact (isI_k _ _).elim Or.inl (fun h => Or.inr (Or.inr h)) | exact isE_k _ | exact (isE_k _).elim Or.inl (fun h => Or.inr (Or.inl h)) | exact (isE_k _).elim Or.inl (fun h => Or.inr (Or.inr h))
theorem k_fault : (f11_fault M p1).1.1 = 0 ∨ (f11_fault M p1).1.1 = 1 := by
  unfold f11_fault
  simp only [bnd_e, jn_e]
  repeat' split
  all_goals first | exact Or.inl rfl | exact Or.inr rfl | exact Or.inr (Or.inl rfl) | exact Or.inr (Or.inr rfl) | exact isO_k _ | exact isC_k _ | exact (isC_k _).elim Or.inl (fun h => Or.inr (Or.inl h)) | exact (isC_k _).elim Or.inl (fun h => Or.inr (Or.inr h)) | exact isG_k _ | exact (isG_k _).elim Or.inl (fun h => Or.inr (Or.inl h)) | exact (isG_k _).elim Or.inl (fun h => Or.inr (Or.inr h)) | exact isS_k _ | exact (isS_k _).elim Or.inl (fun h => Or.inr (Or.inl h)) | exact (isS_k _).elim Or.inl (fun h => Or.inr (Or.inr h)) | exact isD_k _ | exact (isD_k _).elim Or.inl (fun h => Or.inr (Or.inl h)) | exact (isD_k _).elim Or.inl (fun h => Or.inr (Or.inr h)) | exact isT_k _ | exact (isT_k _).elim Or.inl (fun h => Or.inr (Or.inl h)) | exact (isT_k _).elim Or.inl (fun h => Or.inr (Or.inr h)) | exact isI_k _ _ | exact (isI_k _ _).elim Or.inl (fun h => Or.inr (Or.inl h)) | exact (isI_k _ _).elim Or.inl (fun h => Or.inr (Or.inr h)) | exact isE_k _ | exact (isE_k _).elim Or.inl (fun h => Or.inr (Or.inl h)) | exact (isE_k _).elim Or.inl (fun h => Or.inr (Or.inr h))
theorem k_expressions : (f11_expressions M p1).1.1 = 0 ∨ (f11_expressions M p1).1.1 = 1 ∨ (f11_expressions M p1).1.1 = 2 := by
  unfold f11_expressions
  simp only [bnd_e, jn_e]
  repeat' split
  all_goals first | exact Or.inl rfl | exact Or.inr rfl | exact Or.inr (Or.inl rfl) | exact Or.inr (Or.inr rfl) | exact isO_k _ | exact isC_k _ | exact (isC_k _).elim Or.inl (fun h => Or.inr (Or.inl h)) | exact (isC_k _).elim Or.inl (fun h => Or.inr (Or.inr h)) | exact isG_k _ | exact (isG_k _).elim Or.inl (fun h => Or.inr (Or.inl h)) | exact (isG_k _).elim Or.inl (fun h => Or.inr (Or.inr h)) | exact isS_k _ | exact (isS_k _).elim Or.inl (fun h => Or.inr (Or.inl h)) | exact (isS_k _).elim Or.inl (fun h => Or.inr (Or.inr h)) | exact isD_k _ | exact (isD_k _).elim Or.inl (fun h => Or.inr (Or.inl h)) | exact (isD_k _).elim Or.inl (fun h => Or.inr (Or.inr h)) | exact isT_k _ | exact (isT_k _).elim Or.inl (fun h => Or.inr (Or.inl h)) | exact (isT_k _).elim Or.inl (fun h => Or.inr (Or.inr h)) | exact isI_k _ _ | exact (isI_k _ _).elim Or.inl (fun h => Or.inr (Or.inl h)) | exact (isI_k _ _).elim Or.inl (fun h => Or.inr (Or.inr h)) | exact isE_k _ | exact (isE_k _).elim Or.inl (fun h => Or.inr (Or.inl h)) | exact (isE_k _).elim Or.inl (fun h => Or.inr (Or.inr h))
theorem k_supply : (f11_supply M p1 p2).1.1 = 0 ∨ (f11_supply M p1 p2).1.1 = 1 := by
  unfold f11_supply
  simp only [bnd_e, jn_e]
  repeat' split
  all_goals first | exact Or.inl rfl | exact Or.inr rfl | exact Or.inr (Or.inl rfl) | exact Or.inr (Or.inr rfl) | exact isO_k _ | exact isC_k _ | exact (isC_k _).elim Or.inl (fun h => Or.inr (Or.inl h)) | exact (isC_k _).elim Or.inl (fun h => Or.inr (Or.inr h)) | exact isG_k _ | exact (isG_k _).elim Or.inl (fun h => Or.inr (Or.inl h)) | exact (isG_k _).elim Or.inl (fun h => Or.inr (Or.inr h)) | exact isS_k _ | exact (isS_k _).elim Or.inl (fun h => Or.inr (Or.inl h)) | exact (isS_k _).elim Or.inl (fun h => Or.inr (Or.inr h)) | exact isD_k _ | exact (isD_k _).elim Or.inl (fun h => Or.inr (Or.inl h)) | exact (isD_k _).elim Or.inl (fun h => Or.inr (Or.inr h)) | exact isT_k _ | exact (isT_k _).elim Or.inl (fun h => Or.inr (Or.inl h)) | exact (isT_k _).elim Or.inl (fun h => Or.inr (Or.inr h)) | exact isI_k _ _ | exact (isI_k _ _).elim Or.inl (fun h => Or.inr (Or.inl h)) | exact (isI_k _ _).elim Or.inl (fun h => Or.inr (Or.inr h)) | exact isE_k _ | exact (isE_k _).elim Or.inl (fun h => Or.inr (Or.inl h)) | exact (isE_k _).elim Or.inl (fun h => Or.inr (Or.inr h))
theorem k_giveRations : (f11_giveRations M p1 p2).1.1 = 0 ∨ (f11_giveRations M p1 p2).1.1 = 1 := by
  unfold f11_giveRations
  simp only [bnd_e, jn_e]
  repeat' split
  all_goals first | exact Or.inl rfl | exact Or.inr rfl | exact Or.inr (Or.inl rfl) | exact Or.inr (Or.inr rfl) | exact isO_k _ | exact isC_k _ | exact (isC_k _).elim Or.inl (fun h => Or.inr (Or.inl h)) | exact (isC_k _).elim Or.inl (fun h => Or.inr (Or.inr h)) | exact isG_k _ | exact (isG_k _).elim Or.inl (fun h => Or.inr (Or.inl h)) | exact (isG_k _).elim Or.inl (fun h => Or.inr (Or.inr h)) | exact isS_k _ | exact (isS_k _).elim Or.inl (fun h => Or.inr (Or.inl h)) | exact (isS_k _).elim Or.inl (fun h => Or.inr (Or.inr h)) | exact isD_k _ | exact (isD_k _).elim Or.inl (fun h => Or.inr (Or.inl h)) | exact (isD_k _).elim Or.inl (fun h => Or.inr (Or.inr h)) | exact isT_k _ | exact (isT_k _).elim Or.inl (fun h => Or.inr (Or.inl h)) | exact (isT_k _).elim Or.inl (fun h => Or.inr (Or.inr h)) | exact isI_k _ _ | exact (isI_k _ _).elim Or.inl (fun h => Or.inr (Or.inl h)) | exact (isI_k _ _).elim Or.inl (fun h => Or.inr (Or.inr h)) | exact isE_k _ | exact (isE_k _).elim Or.inl (fun h => Or.inr (Or.inl h)) | exact (isE_k _).elim Or.inl (fun h => Or.inr (Or.inr h))
theorem k_setTariff : (f11_setTariff M p1).1.1 = 0 ∨ (f11_setTariff M p1).1.1 = 1 := by
  unfold f11_setTariff
  simp only [bnd_e, jn_e]
  repeat' split
  all_goals first | exact Or.inl rfl | exact Or.inr rfl | exact Or.inr (Or.inl rfl) | exact Or.inr (Or.inr rfl) | exact isO_k _ | exact isC_k _ | exact (isC_k _).elim Or.inl (fun h => Or.inr (Or.inl h)) | exact (isC_k _).elim Or.inl (fun h => Or.inr (Or.inr h)) | exact isG_k _ | exact (isG_k _).elim Or.inl (fun h => Or.inr (Or.inl h)) | exact (isG_k _).elim Or.inl (fun h => Or.inr (Or.inr h)) | exact isS_k _ | exact (isS_k _).elim Or.inl (fun h => Or.inr (Or.inl h)) | exact (isS_k _).elim Or.inl (fun h => Or.inr (Or.inr h)) | exact isD_k _ | exact (isD_k _).elim Or.inl (fun h => Or.inr (Or.inl h)) | exact (isD_k _).elim Or.inl (fun h => Or.inr (Or.inr h)) | exact isT_k _ | exact (isT_k _).elim Or.inl (fun h => Or.inr (Or.inl h)) | exact (isT_k _).elim Or.inl (fun h => Or.inr (Or.inr h)) | exact isI_k _ _ | exact (isI_k _ _).elim Or.inl (fun h => Or.inr (Or.inl h)) | exact (isI_k _ _).elim Or.inl (fun h => Or.inr (Or.inr h)) | exact isE_k _ | exact (isE_k _).elim Or.inl (fun h => Or.inr (Or.inl h)) | exact (isE_k _).elim Or.inl (fun h => Or.inr (Or.inr h))
theorem k_buy : (f11_buy M p1 p2).1.1 = 0 ∨ (f11_buy M p1 p2).1.1 = 1 ∨ (f11_buy M p1 p2).1.1 = 2 := by
  unfold f11_buy
  simp only [bnd_e, jn_e]
  repeat' split
  all_goals first | exact Or.inl rfl | exact Or.inr rfl | exact Or.inr (Or.inl rfl) | exact Or.inr (Or.inr rfl) | exact isO_k _ | exact isC_k _ | exact (isC_k _).elim Or.inl (fun h => Or.inr (Or.inl h)) | exact (isC_k _).elim Or.inl (fun h => Or.inr (Or.inr h)) | exact isG_k _ | exact (isG_k _).elim Or.inl (fun h => Or.inr (Or.inl h)) | exact (isG_k _).elim Or.inl (fun h => Or.inr (Or.inr h)) | exact isS_k _ | exact (isS_k _).elim Or.inl (fun h => Or.inr (Or.inl h)) | exact (isS_k _).elim Or.inl (fun h => Or.inr (Or.inr h)) | exact isD_k _ | exact (isD_k _).elim Or.inl (fun h => Or.inr (Or.inl h)) | exact (isD_k _).elim Or.inl (fun h => Or.inr (Or.inr h)) | exact isT_k _ | exact (isT_k _).elim Or.inl (fun h => Or.inr (Or.inl h)) | exact (isT_k _).elim Or.inl (fun h => Or.inr (Or.inr h)) | exact isI_k _ _ | exact (isI_k _ _).elim Or.inl (fun h => Or.inr (Or.inl h)) | exact (isI_k _ _).elim Or.inl (fun h => Or.inr (Or.inr h)) | exact isE_k _ | exact (isE_k _).elim Or.inl (fun h => Or.inr (Or.inl h)) | exact (isE_k _).elim Or.inl (fun h => Or.inr (Or.inr h))
theorem k_setBuying {p2 : Bool} : (f11_setBuying M p1 p2).1.1 = 0 ∨ (f11_setBuying M p1 p2).1.1 = 1 := by
  unfold f11_setBuying
  simp only [bnd_e, jn_e]
  repeat' split
  all_goals first | exact Or.inl rfl | exact Or.inr rfl | exact Or.inr (Or.inl rfl) | exact Or.inr (Or.inr rfl) | exact isO_k _ | exact isC_k _ | exact (isC_k _).elim Or.inl (fun h => Or.inr (Or.inl h)) | exact (isC_k _).elim Or.inl (fun h => Or.inr (Or.inr h)) | exact isG_k _ | exact (isG_k _).elim Or.inl (fun h => Or.inr (Or.inl h)) | exact (isG_k _).elim Or.inl (fun h => Or.inr (Or.inr h)) | exact isS_k _ | exact (isS_k _).elim Or.inl (fun h => Or.inr (Or.inl h)) | exact (isS_k _).elim Or.inl (fun h => Or.inr (Or.inr h)) | exact isD_k _ | exact (isD_k _).elim Or.inl (fun h => Or.inr (Or.inl h)) | exact (isD_k _).elim Or.inl (fun h => Or.inr (Or.inr h)) | exact isT_k _ | exact (isT_k _).elim Or.inl (fun h => Or.inr (Or.inl h)) | exact (isT_k _).elim Or.inl (fun h => Or.inr (Or.inr h)) | exact isI_k _ _ | exact (isI_k _ _).elim Or.inl (fun h => Or.inr (Or.inl h)) | exact (isI_k _ _).elim Or.inl (fun h => Or.inr (Or.inr h)) | exact isE_k _ | exact (isE_k _).elim Or.inl (fun h => Or.inr (Or.inl h)) | exact (isE_k _).elim Or.inl (fun h => Or.inr (Or.inr h))
theorem k_setCredit : (f11_setCredit M p1 p2 p3).1.1 = 0 ∨ (f11_setCredit M p1 p2 p3).1.1 = 1 := by
  unfold f11_setCredit
  simp only [bnd_e, jn_e]
  repeat' split
  all_goals first | exact Or.inl rfl | exact Or.inr rfl | exact Or.inr (Or.inl rfl) | exact Or.inr (Or.inr rfl) | exact isO_k _ | exact isC_k _ | exact (isC_k _).elim Or.inl (fun h => Or.inr (Or.inl h)) | exact (isC_k _).elim Or.inl (fun h => Or.inr (Or.inr h)) | exact isG_k _ | exact (isG_k _).elim Or.inl (fun h => Or.inr (Or.inl h)) | exact (isG_k _).elim Or.inl (fun h => Or.inr (Or.inr h)) | exact isS_k _ | exact (isS_k _).elim Or.inl (fun h => Or.inr (Or.inl h)) | exact (isS_k _).elim Or.inl (fun h => Or.inr (Or.inr h)) | exact isD_k _ | exact (isD_k _).elim Or.inl (fun h => Or.inr (Or.inl h)) | exact (isD_k _).elim Or.inl (fun h => Or.inr (Or.inr h)) | exact isT_k _ | exact (isT_k _).elim Or.inl (fun h => Or.inr (Or.inl h)) | exact (isT_k _).elim Or.inl (fun h => Or.inr (Or.inr h)) | exact isI_k _ _ | exact (isI_k _ _).elim Or.inl (fun h => Or.inr (Or.inl h)) | exact (isI_k _ _).elim Or.inl (fun h => Or.inr (Or.inr h)) | exact isE_k _ | exact (isE_k _).elim Or.inl (fun h => Or.inr (Or.inl h)) | exact (isE_k _).elim Or.inl (fun h => Or.inr (Or.inr h))
theorem k_payBack : (f11_payBack M p1 p2 p3).1.1 = 0 ∨ (f11_payBack M p1 p2 p3).1.1 = 1 ∨ (f11_payBack M p1 p2 p3).1.1 = 2 := by
  unfold f11_payBack
  simp only [bnd_e, jn_e]
  repeat' split
  all_goals first | exact Or.inl rfl | exact Or.inr rfl | exact Or.inr (Or.inl rfl) | exact Or.inr (Or.inr rfl) | exact isO_k _ | exact isC_k _ | exact (isC_k _).elim Or.inl (fun h => Or.inr (Or.inl h)) | exact (isC_k _).elim Or.inl (fun h => Or.inr (Or.inr h)) | exact isG_k _ | exact (isG_k _).elim Or.inl (fun h => Or.inr (Or.inl h)) | exact (isG_k _).elim Or.inl (fun h => Or.inr (Or.inr h)) | exact isS_k _ | exact (isS_k _).elim Or.inl (fun h => Or.inr (Or.inl h)) | exact (isS_k _).elim Or.inl (fun h => Or.inr (Or.inr h)) | exact isD_k _ | exact (isD_k _).elim Or.inl (fun h => Or.inr (Or.inl h)) | exact (isD_k _).elim Or.inl (fun h => Or.inr (Or.inr h)) | exact isT_k _ | exact (isT_k _).elim Or.inl (fun h => Or.inr (Or.inl h)) | exact (isT_k _).elim Or.inl (fun h => Or.inr (Or.inr h)) | exact isI_k _ _ | exact (isI_k _ _).elim Or.inl (fun h => Or.inr (Or.inl h)) | exact (isI_k _ _).elim Or.inl (fun h => Or.inr (Or.inr h)) | exact isE_k _ | exact (isE_k _).elim Or.inl (fun h => Or.inr (Or.inl h)) | exact (isE_k _).elim Or.inl (fun h => Or.inr (Or.inr h))
theorem k_stock : (f11_stock M p1 p2).1.1 = 0 ∨ (f11_stock M p1 p2).1.1 = 1 := by
  unfold f11_stock
  simp only [bnd_e, jn_e]
  repeat' split
  all_goals first | exact Or.inl rfl | exact Or.inr rfl | exact Or.inr (Or.inl rfl) | exact Or.inr (Or.inr rfl) | exact isO_k _ | exact isC_k _ | exact (isC_k _).elim Or.inl (fun h => Or.inr (Or.inl h)) | exact (isC_k _).elim Or.inl (fun h => Or.inr (Or.inr h)) | exact isG_k _ | exact (isG_k _).elim Or.inl (fun h => Or.inr (Or.inl h)) | exact (isG_k _).elim Or.inl (fun h => Or.inr (Or.inr h)) | exact isS_k _ | exact (isS_k _).elim Or.inl (fun h => Or.inr (Or.inl h)) | exact (isS_k _).elim Or.inl (fun h => Or.inr (Or.inr h)) | exact isD_k _ | exact (isD_k _).elim Or.inl (fun h => Or.inr (Or.inl h)) | exact (isD_k _).elim Or.inl (fun h => Or.inr (Or.inr h)) | exact isT_k _ | exact (isT_k _).elim Or.inl (fun h => Or.inr (Or.inl h)) | exact (isT_k _).elim Or.inl (fun h => Or.inr (Or.inr h)) | exact isI_k _ _ | exact (isI_k _ _).elim Or.inl (fun h => Or.inr (Or.inl h)) | exact (isI_k _ _).elim Or.inl (fun h => Or.inr (Or.inr h)) | exact isE_k _ | exact (isE_k _).elim Or.inl (fun h => Or.inr (Or.inl h)) | exact (isE_k _).elim Or.inl (fun h => Or.inr (Or.inr h))
theorem k_stockByMoves : (f11_stockByMoves M p1 p2).1.1 = 0 ∨ (f11_stockByMoves M p1 p2).1.1 = 1 := by
  unfold f11_stockByMoves
  simp only [bnd_e, jn_e]
  repeat' split
  all_goals first | exact Or.inl rfl | exact Or.inr rfl | exact Or.inr (Or.inl rfl) | exact Or.inr (Or.inr rfl) | exact isO_k _ | exact isC_k _ | exact (isC_k _).elim Or.inl (fun h => Or.inr (Or.inl h)) | exact (isC_k _).elim Or.inl (fun h => Or.inr (Or.inr h)) | exact isG_k _ | exact (isG_k _).elim Or.inl (fun h => Or.inr (Or.inl h)) | exact (isG_k _).elim Or.inl (fun h => Or.inr (Or.inr h)) | exact isS_k _ | exact (isS_k _).elim Or.inl (fun h => Or.inr (Or.inl h)) | exact (isS_k _).elim Or.inl (fun h => Or.inr (Or.inr h)) | exact isD_k _ | exact (isD_k _).elim Or.inl (fun h => Or.inr (Or.inl h)) | exact (isD_k _).elim Or.inl (fun h => Or.inr (Or.inr h)) | exact isT_k _ | exact (isT_k _).elim Or.inl (fun h => Or.inr (Or.inl h)) | exact (isT_k _).elim Or.inl (fun h => Or.inr (Or.inr h)) | exact isI_k _ _ | exact (isI_k _ _).elim Or.inl (fun h => Or.inr (Or.inl h)) | exact (isI_k _ _).elim Or.inl (fun h => Or.inr (Or.inr h)) | exact isE_k _ | exact (isE_k _).elim Or.inl (fun h => Or.inr (Or.inl h)) | exact (isE_k _).elim Or.inl (fun h => Or.inr (Or.inr h))
theorem k_fuel : (f11_fuel M p1).1.1 = 0 ∨ (f11_fuel M p1).1.1 = 1 := by
  unfold f11_fuel
  simp only [bnd_e, jn_e]
  repeat' split
  all_goals first | exact Or.inl rfl | exact Or.inr rfl | exact Or.inr (Or.inl rfl) | exact Or.inr (Or.inr rfl) | exact isO_k _ | exact isC_k _ | exact (isC_k _).elim Or.inl (fun h => Or.inr (Or.inl h)) | exact (isC_k _).elim Or.inl (fun h => Or.inr (Or.inr h)) | exact isG_k _ | exact (isG_k _).elim Or.inl (fun h => Or.inr (Or.inl h)) | exact (isG_k _).elim Or.inl (fun h => Or.inr (Or.inr h)) | exact isS_k _ | exact (isS_k _).elim Or.inl (fun h => Or.inr (Or.inl h)) | exact (isS_k _).elim Or.inl (fun h => Or.inr (Or.inr h)) | exact isD_k _ | exact (isD_k _).elim Or.inl (fun h => Or.inr (Or.inl h)) | exact (isD_k _).elim Or.inl (fun h => Or.inr (Or.inr h)) | exact isT_k _ | exact (isT_k _).elim Or.inl (fun h => Or.inr (Or.inl h)) | exact (isT_k _).elim Or.inl (fun h => Or.inr (Or.inr h)) | exact isI_k _ _ | exact (isI_k _ _).elim Or.inl (fun h => Or.inr (Or.inl h)) | exact (isI_k _ _).elim Or.inl (fun h => Or.inr (Or.inr h)) | exact isE_k _ | exact (isE_k _).elim Or.inl (fun h => Or.inr (Or.inl h)) | exact (isE_k _).elim Or.inl (fun h => Or.inr (Or.inr h))
theorem k_rations : (f11_rations M p1).1.1 = 0 ∨ (f11_rations M p1).1.1 = 1 := by
  unfold f11_rations
  simp only [bnd_e, jn_e]
  repeat' split
  all_goals first | exact Or.inl rfl | exact Or.inr rfl | exact Or.inr (Or.inl rfl) | exact Or.inr (Or.inr rfl) | exact isO_k _ | exact isC_k _ | exact (isC_k _).elim Or.inl (fun h => Or.inr (Or.inl h)) | exact (isC_k _).elim Or.inl (fun h => Or.inr (Or.inr h)) | exact isG_k _ | exact (isG_k _).elim Or.inl (fun h => Or.inr (Or.inl h)) | exact (isG_k _).elim Or.inl (fun h => Or.inr (Or.inr h)) | exact isS_k _ | exact (isS_k _).elim Or.inl (fun h => Or.inr (Or.inl h)) | exact (isS_k _).elim Or.inl (fun h => Or.inr (Or.inr h)) | exact isD_k _ | exact (isD_k _).elim Or.inl (fun h => Or.inr (Or.inl h)) | exact (isD_k _).elim Or.inl (fun h => Or.inr (Or.inr h)) | exact isT_k _ | exact (isT_k _).elim Or.inl (fun h => Or.inr (Or.inl h)) | exact (isT_k _).elim Or.inl (fun h => Or.inr (Or.inr h)) | exact isI_k _ _ | exact (isI_k _ _).elim Or.inl (fun h => Or.inr (Or.inl h)) | exact (isI_k _ _).elim Or.inl (fun h => Or.inr (Or.inr h)) | exact isE_k _ | exact (isE_k _).elim Or.inl (fun h => Or.inr (Or.inl h)) | exact (isE_k _).elim Or.inl (fun h => Or.inr (Or.inr h))
theorem k_debt : (f11_debt M p1 p2).1.1 = 0 ∨ (f11_debt M p1 p2).1.1 = 1 := by
  unfold f11_debt
  simp only [bnd_e, jn_e]
  repeat' split
  all_goals first | exact Or.inl rfl | exact Or.inr rfl | exact Or.inr (Or.inl rfl) | exact Or.inr (Or.inr rfl) | exact isO_k _ | exact isC_k _ | exact (isC_k _).elim Or.inl (fun h => Or.inr (Or.inl h)) | exact (isC_k _).elim Or.inl (fun h => Or.inr (Or.inr h)) | exact isG_k _ | exact (isG_k _).elim Or.inl (fun h => Or.inr (Or.inl h)) | exact (isG_k _).elim Or.inl (fun h => Or.inr (Or.inr h)) | exact isS_k _ | exact (isS_k _).elim Or.inl (fun h => Or.inr (Or.inl h)) | exact (isS_k _).elim Or.inl (fun h => Or.inr (Or.inr h)) | exact isD_k _ | exact (isD_k _).elim Or.inl (fun h => Or.inr (Or.inl h)) | exact (isD_k _).elim Or.inl (fun h => Or.inr (Or.inr h)) | exact isT_k _ | exact (isT_k _).elim Or.inl (fun h => Or.inr (Or.inl h)) | exact (isT_k _).elim Or.inl (fun h => Or.inr (Or.inr h)) | exact isI_k _ _ | exact (isI_k _ _).elim Or.inl (fun h => Or.inr (Or.inl h)) | exact (isI_k _ _).elim Or.inl (fun h => Or.inr (Or.inr h)) | exact isE_k _ | exact (isE_k _).elim Or.inl (fun h => Or.inr (Or.inl h)) | exact (isE_k _).elim Or.inl (fun h => Or.inr (Or.inr h))
theorem k_order : (f11_order M p1 p2 p3 p4).1.1 = 0 ∨ (f11_order M p1 p2 p3 p4).1.1 = 1 ∨ (f11_order M p1 p2 p3 p4).1.1 = 2 := by
  unfold f11_order
  simp only [bnd_e, jn_e]
  repeat' split
  all_goals first | exact Or.inl rfl | exact Or.inr rfl | exact Or.inr (Or.inl rfl) | exact Or.inr (Or.inr rfl) | exact isO_k _ | exact isC_k _ | exact (isC_k _).elim Or.inl (fun h => Or.inr (Or.inl h)) | exact (isC_k _).elim Or.inl (fun h => Or.inr (Or.inr h)) | exact isG_k _ | exact (isG_k _).elim Or.inl (fun h => Or.inr (Or.inl h)) | exact (isG_k _).elim Or.inl (fun h => Or.inr (Or.inr h)) | exact isS_k _ | exact (isS_k _).elim Or.inl (fun h => Or.inr (Or.inl h)) | exact (isS_k _).elim Or.inl (fun h => Or.inr (Or.inr h)) | exact isD_k _ | exact (isD_k _).elim Or.inl (fun h => Or.inr (Or.inl h)) | exact (isD_k _).elim Or.inl (fun h => Or.inr (Or.inr h)) | exact isT_k _ | exact (isT_k _).elim Or.inl (fun h => Or.inr (Or.inl h)) | exact (isT_k _).elim Or.inl (fun h => Or.inr (Or.inr h)) | exact isI_k _ _ | exact (isI_k _ _).elim Or.inl (fun h => Or.inr (Or.inl h)) | exact (isI_k _ _).elim Or.inl (fun h => Or.inr (Or.inr h)) | exact isE_k _ | exact (isE_k _).elim Or.inl (fun h => Or.inr (Or.inl h)) | exact (isE_k _).elim Or.inl (fun h => Or.inr (Or.inr h))
theorem k_state : (f11_state M p1).1.1 = 0 ∨ (f11_state M p1).1.1 = 3 := by
  unfold f11_state
  simp only [bnd_e, jn_e]
  repeat' split
  all_goals first | exact Or.inl rfl | exact Or.inr rfl | exact Or.inr (Or.inl rfl) | exact Or.inr (Or.inr rfl) | exact isO_k _ | exact isC_k _ | exact (isC_k _).elim Or.inl (fun h => Or.inr (Or.inl h)) | exact (isC_k _).elim Or.inl (fun h => Or.inr (Or.inr h)) | exact isG_k _ | exact (isG_k _).elim Or.inl (fun h => Or.inr (Or.inl h)) | exact (isG_k _).elim Or.inl (fun h => Or.inr (Or.inr h)) | exact isS_k _ | exact (isS_k _).elim Or.inl (fun h => Or.inr (Or.inl h)) | exact (isS_k _).elim Or.inl (fun h => Or.inr (Or.inr h)) | exact isD_k _ | exact (isD_k _).elim Or.inl (fun h => Or.inr (Or.inl h)) | exact (isD_k _).elim Or.inl (fun h => Or.inr (Or.inr h)) | exact isT_k _ | exact (isT_k _).elim Or.inl (fun h => Or.inr (Or.inl h)) | exact (isT_k _).elim Or.inl (fun h => Or.inr (Or.inr h)) | exact isI_k _ _ | exact (isI_k _ _).elim Or.inl (fun h => Or.inr (Or.inl h)) | exact (isI_k _ _).elim Or.inl (fun h => Or.inr (Or.inr h)) | exact isE_k _ | exact (isE_k _).elim Or.inl (fun h => Or.inr (Or.inl h)) | exact (isE_k _).elim Or.inl (fun h => Or.inr (Or.inr h))
theorem k_why : (f11_why M p1).1.1 = 0 ∨ (f11_why M p1).1.1 = 3 := by
  unfold f11_why
  simp only [bnd_e, jn_e]
  repeat' split
  all_goals first | exact Or.inl rfl | exact Or.inr rfl | exact Or.inr (Or.inl rfl) | exact Or.inr (Or.inr rfl) | exact isO_k _ | exact isC_k _ | exact (isC_k _).elim Or.inl (fun h => Or.inr (Or.inl h)) | exact (isC_k _).elim Or.inl (fun h => Or.inr (Or.inr h)) | exact isG_k _ | exact (isG_k _).elim Or.inl (fun h => Or.inr (Or.inl h)) | exact (isG_k _).elim Or.inl (fun h => Or.inr (Or.inr h)) | exact isS_k _ | exact (isS_k _).elim Or.inl (fun h => Or.inr (Or.inl h)) | exact (isS_k _).elim Or.inl (fun h => Or.inr (Or.inr h)) | exact isD_k _ | exact (isD_k _).elim Or.inl (fun h => Or.inr (Or.inl h)) | exact (isD_k _).elim Or.inl (fun h => Or.inr (Or.inr h)) | exact isT_k _ | exact (isT_k _).elim Or.inl (fun h => Or.inr (Or.inl h)) | exact (isT_k _).elim Or.inl (fun h => Or.inr (Or.inr h)) | exact isI_k _ _ | exact (isI_k _ _).elim Or.inl (fun h => Or.inr (Or.inl h)) | exact (isI_k _ _).elim Or.inl (fun h => Or.inr (Or.inr h)) | exact isE_k _ | exact (isE_k _).elim Or.inl (fun h => Or.inr (Or.inl h)) | exact (isE_k _).elim Or.inl (fun h => Or.inr (Or.inr h))
theorem k_done : (f11_done M p1).1.1 = 0 ∨ (f11_done M p1).1.1 = 3 := by
  unfold f11_done
  simp only [bnd_e, jn_e]
  repeat' split
  all_goals first | exact Or.inl rfl | exact Or.inr rfl | exact Or.inr (Or.inl rfl) | exact Or.inr (Or.inr rfl) | exact isO_k _ | exact isC_k _ | exact (isC_k _).elim Or.inl (fun h => Or.inr (Or.inl h)) | exact (isC_k _).elim Or.inl (fun h => Or.inr (Or.inr h)) | exact isG_k _ | exact (isG_k _).elim Or.inl (fun h => Or.inr (Or.inl h)) | exact (isG_k _).elim Or.inl (fun h => Or.inr (Or.inr h)) | exact isS_k _ | exact (isS_k _).elim Or.inl (fun h => Or.inr (Or.inl h)) | exact (isS_k _).elim Or.inl (fun h => Or.inr (Or.inr h)) | exact isD_k _ | exact (isD_k _).elim Or.inl (fun h => Or.inr (Or.inl h)) | exact (isD_k _).elim Or.inl (fun h => Or.inr (Or.inr h)) | exact isT_k _ | exact (isT_k _).elim Or.inl (fun h => Or.inr (Or.inl h)) | exact (isT_k _).elim Or.inl (fun h => Or.inr (Or.inr h)) | exact isI_k _ _ | exact (isI_k _ _).elim Or.inl (fun h => Or.inr (Or.inl h)) | exact (isI_k _ _).elim Or.inl (fun h => Or.inr (Or.inr h)) | exact isE_k _ | exact (isE_k _).elim Or.inl (fun h => Or.inr (Or.inl h)) | exact (isE_k _).elim Or.inl (fun h => Or.inr (Or.inr h))
theorem k_value : (f11_value M p1).1.1 = 0 ∨ (f11_value M p1).1.1 = 3 := by
  unfold f11_value
  simp only [bnd_e, jn_e]
  repeat' split
  all_goals first | exact Or.inl rfl | exact Or.inr rfl | exact Or.inr (Or.inl rfl) | exact Or.inr (Or.inr rfl) | exact isO_k _ | exact isC_k _ | exact (isC_k _).elim Or.inl (fun h => Or.inr (Or.inl h)) | exact (isC_k _).elim Or.inl (fun h => Or.inr (Or.inr h)) | exact isG_k _ | exact (isG_k _).elim Or.inl (fun h => Or.inr (Or.inl h)) | exact (isG_k _).elim Or.inl (fun h => Or.inr (Or.inr h)) | exact isS_k _ | exact (isS_k _).elim Or.inl (fun h => Or.inr (Or.inl h)) | exact (isS_k _).elim Or.inl (fun h => Or.inr (Or.inr h)) | exact isD_k _ | exact (isD_k _).elim Or.inl (fun h => Or.inr (Or.inl h)) | exact (isD_k _).elim Or.inl (fun h => Or.inr (Or.inr h)) | exact isT_k _ | exact (isT_k _).elim Or.inl (fun h => Or.inr (Or.inl h)) | exact (isT_k _).elim Or.inl (fun h => Or.inr (Or.inr h)) | exact isI_k _ _ | exact (isI_k _ _).elim Or.inl (fun h => Or.inr (Or.inl h)) | exact (isI_k _ _).elim Or.inl (fun h => Or.inr (Or.inr h)) | exact isE_k _ | exact (isE_k _).elim Or.inl (fun h => Or.inr (Or.inl h)) | exact (isE_k _).elim Or.inl (fun h => Or.inr (Or.inr h))
theorem k_used : (f11_used M p1).1.1 = 0 ∨ (f11_used M p1).1.1 = 3 := by
  unfold f11_used
  simp only [bnd_e, jn_e]
  repeat' split
  all_goals first | exact Or.inl rfl | exact Or.inr rfl | exact Or.inr (Or.inl rfl) | exact Or.inr (Or.inr rfl) | exact isO_k _ | exact isC_k _ | exact (isC_k _).elim Or.inl (fun h => Or.inr (Or.inl h)) | exact (isC_k _).elim Or.inl (fun h => Or.inr (Or.inr h)) | exact isG_k _ | exact (isG_k _).elim Or.inl (fun h => Or.inr (Or.inl h)) | exact (isG_k _).elim Or.inl (fun h => Or.inr (Or.inr h)) | exact isS_k _ | exact (isS_k _).elim Or.inl (fun h => Or.inr (Or.inl h)) | exact (isS_k _).elim Or.inl (fun h => Or.inr (Or.inr h)) | exact isD_k _ | exact (isD_k _).elim Or.inl (fun h => Or.inr (Or.inl h)) | exact (isD_k _).elim Or.inl (fun h => Or.inr (Or.inr h)) | exact isT_k _ | exact (isT_k _).elim Or.inl (fun h => Or.inr (Or.inl h)) | exact (isT_k _).elim Or.inl (fun h => Or.inr (Or.inr h)) | exact isI_k _ _ | exact (isI_k _ _).elim Or.inl (fun h => Or.inr (Or.inl h)) | exact (isI_k _ _).elim Or.inl (fun h => Or.inr (Or.inr h)) | exact isE_k _ | exact (isE_k _).elim Or.inl (fun h => Or.inr (Or.inl h)) | exact (isE_k _).elim Or.inl (fun h => Or.inr (Or.inr h))
theorem k_hourOf : (f11_hourOf M p1).1.1 = 0 ∨ (f11_hourOf M p1).1.1 = 3 := by
  unfold f11_hourOf
  simp only [bnd_e, jn_e]
  repeat' split
  all_goals first | exact Or.inl rfl | exact Or.inr rfl | exact Or.inr (Or.inl rfl) | exact Or.inr (Or.inr rfl) | exact isO_k _ | exact isC_k _ | exact (isC_k _).elim Or.inl (fun h => Or.inr (Or.inl h)) | exact (isC_k _).elim Or.inl (fun h => Or.inr (Or.inr h)) | exact isG_k _ | exact (isG_k _).elim Or.inl (fun h => Or.inr (Or.inl h)) | exact (isG_k _).elim Or.inl (fun h => Or.inr (Or.inr h)) | exact isS_k _ | exact (isS_k _).elim Or.inl (fun h => Or.inr (Or.inl h)) | exact (isS_k _).elim Or.inl (fun h => Or.inr (Or.inr h)) | exact isD_k _ | exact (isD_k _).elim Or.inl (fun h => Or.inr (Or.inl h)) | exact (isD_k _).elim Or.inl (fun h => Or.inr (Or.inr h)) | exact isT_k _ | exact (isT_k _).elim Or.inl (fun h => Or.inr (Or.inl h)) | exact (isT_k _).elim Or.inl (fun h => Or.inr (Or.inr h)) | exact isI_k _ _ | exact (isI_k _ _).elim Or.inl (fun h => Or.inr (Or.inl h)) | exact (isI_k _ _).elim Or.inl (fun h => Or.inr (Or.inr h)) | exact isE_k _ | exact (isE_k _).elim Or.inl (fun h => Or.inr (Or.inl h)) | exact (isE_k _).elim Or.inl (fun h => Or.inr (Or.inr h))
theorem k_leftBy : (f11_leftBy M p1 p2).1.1 = 0 ∨ (f11_leftBy M p1 p2).1.1 = 3 ∨ (f11_leftBy M p1 p2).1.1 = 1 := by
  unfold f11_leftBy
  simp only [bnd_e, jn_e]
  repeat' split
  all_goals first | exact Or.inl rfl | exact Or.inr rfl | exact Or.inr (Or.inl rfl) | exact Or.inr (Or.inr rfl) | exact isO_k _ | exact isC_k _ | exact (isC_k _).elim Or.inl (fun h => Or.inr (Or.inl h)) | exact (isC_k _).elim Or.inl (fun h => Or.inr (Or.inr h)) | exact isG_k _ | exact (isG_k _).elim Or.inl (fun h => Or.inr (Or.inl h)) | exact (isG_k _).elim Or.inl (fun h => Or.inr (Or.inr h)) | exact isS_k _ | exact (isS_k _).elim Or.inl (fun h => Or.inr (Or.inl h)) | exact (isS_k _).elim Or.inl (fun h => Or.inr (Or.inr h)) | exact isD_k _ | exact (isD_k _).elim Or.inl (fun h => Or.inr (Or.inl h)) | exact (isD_k _).elim Or.inl (fun h => Or.inr (Or.inr h)) | exact isT_k _ | exact (isT_k _).elim Or.inl (fun h => Or.inr (Or.inl h)) | exact (isT_k _).elim Or.inl (fun h => Or.inr (Or.inr h)) | exact isI_k _ _ | exact (isI_k _ _).elim Or.inl (fun h => Or.inr (Or.inl h)) | exact (isI_k _ _).elim Or.inl (fun h => Or.inr (Or.inr h)) | exact isE_k _ | exact (isE_k _).elim Or.inl (fun h => Or.inr (Or.inl h)) | exact (isE_k _).elim Or.inl (fun h => Or.inr (Or.inr h))
theorem k_movedFrom : (f11_movedFrom M p1).1.1 = 0 ∨ (f11_movedFrom M p1).1.1 = 3 := by
  unfold f11_movedFrom
  simp only [bnd_e, jn_e]
  repeat' split
  all_goals first | exact Or.inl rfl | exact Or.inr rfl | exact Or.inr (Or.inl rfl) | exact Or.inr (Or.inr rfl) | exact isO_k _ | exact isC_k _ | exact (isC_k _).elim Or.inl (fun h => Or.inr (Or.inl h)) | exact (isC_k _).elim Or.inl (fun h => Or.inr (Or.inr h)) | exact isG_k _ | exact (isG_k _).elim Or.inl (fun h => Or.inr (Or.inl h)) | exact (isG_k _).elim Or.inl (fun h => Or.inr (Or.inr h)) | exact isS_k _ | exact (isS_k _).elim Or.inl (fun h => Or.inr (Or.inl h)) | exact (isS_k _).elim Or.inl (fun h => Or.inr (Or.inr h)) | exact isD_k _ | exact (isD_k _).elim Or.inl (fun h => Or.inr (Or.inl h)) | exact (isD_k _).elim Or.inl (fun h => Or.inr (Or.inr h)) | exact isT_k _ | exact (isT_k _).elim Or.inl (fun h => Or.inr (Or.inl h)) | exact (isT_k _).elim Or.inl (fun h => Or.inr (Or.inr h)) | exact isI_k _ _ | exact (isI_k _ _).elim Or.inl (fun h => Or.inr (Or.inl h)) | exact (isI_k _ _).elim Or.inl (fun h => Or.inr (Or.inr h)) | exact isE_k _ | exact (isE_k _).elim Or.inl (fun h => Or.inr (Or.inl h)) | exact (isE_k _).elim Or.inl (fun h => Or.inr (Or.inr h))
theorem k_movedTo : (f11_movedTo M p1).1.1 = 0 ∨ (f11_movedTo M p1).1.1 = 3 := by
  unfold f11_movedTo
  simp only [bnd_e, jn_e]
  repeat' split
  all_goals first | exact Or.inl rfl | exact Or.inr rfl | exact Or.inr (Or.inl rfl) | exact Or.inr (Or.inr rfl) | exact isO_k _ | exact isC_k _ | exact (isC_k _).elim Or.inl (fun h => Or.inr (Or.inl h)) | exact (isC_k _).elim Or.inl (fun h => Or.inr (Or.inr h)) | exact isG_k _ | exact (isG_k _).elim Or.inl (fun h => Or.inr (Or.inl h)) | exact (isG_k _).elim Or.inl (fun h => Or.inr (Or.inr h)) | exact isS_k _ | exact (isS_k _).elim Or.inl (fun h => Or.inr (Or.inl h)) | exact (isS_k _).elim Or.inl (fun h => Or.inr (Or.inr h)) | exact isD_k _ | exact (isD_k _).elim Or.inl (fun h => Or.inr (Or.inl h)) | exact (isD_k _).elim Or.inl (fun h => Or.inr (Or.inr h)) | exact isT_k _ | exact (isT_k _).elim Or.inl (fun h => Or.inr (Or.inl h)) | exact (isT_k _).elim Or.inl (fun h => Or.inr (Or.inr h)) | exact isI_k _ _ | exact (isI_k _ _).elim Or.inl (fun h => Or.inr (Or.inl h)) | exact (isI_k _ _).elim Or.inl (fun h => Or.inr (Or.inr h)) | exact isE_k _ | exact (isE_k _).elim Or.inl (fun h => Or.inr (Or.inl h)) | exact (isE_k _).elim Or.inl (fun h => Or.inr (Or.inr h))
theorem k_movedGood : (f11_movedGood M p1).1.1 = 0 ∨ (f11_movedGood M p1).1.1 = 3 := by
  unfold f11_movedGood
  simp only [bnd_e, jn_e]
  repeat' split
  all_goals first | exact Or.inl rfl | exact Or.inr rfl | exact Or.inr (Or.inl rfl) | exact Or.inr (Or.inr rfl) | exact isO_k _ | exact isC_k _ | exact (isC_k _).elim Or.inl (fun h => Or.inr (Or.inl h)) | exact (isC_k _).elim Or.inl (fun h => Or.inr (Or.inr h)) | exact isG_k _ | exact (isG_k _).elim Or.inl (fun h => Or.inr (Or.inl h)) | exact (isG_k _).elim Or.inl (fun h => Or.inr (Or.inr h)) | exact isS_k _ | exact (isS_k _).elim Or.inl (fun h => Or.inr (Or.inl h)) | exact (isS_k _).elim Or.inl (fun h => Or.inr (Or.inr h)) | exact isD_k _ | exact (isD_k _).elim Or.inl (fun h => Or.inr (Or.inl h)) | exact (isD_k _).elim Or.inl (fun h => Or.inr (Or.inr h)) | exact isT_k _ | exact (isT_k _).elim Or.inl (fun h => Or.inr (Or.inl h)) | exact (isT_k _).elim Or.inl (fun h => Or.inr (Or.inr h)) | exact isI_k _ _ | exact (isI_k _ _).elim Or.inl (fun h => Or.inr (Or.inl h)) | exact (isI_k _ _).elim Or.inl (fun h => Or.inr (Or.inr h)) | exact isE_k _ | exact (isE_k _).elim Or.inl (fun h => Or.inr (Or.inl h)) | exact (isE_k _).elim Or.inl (fun h => Or.inr (Or.inr h))
theorem k_movedAmount : (f11_movedAmount M p1).1.1 = 0 ∨ (f11_movedAmount M p1).1.1 = 3 := by
  unfold f11_movedAmount
  simp only [bnd_e, jn_e]
  repeat' split
  all_goals first | exact Or.inl rfl | exact Or.inr rfl | exact Or.inr (Or.inl rfl) | exact Or.inr (Or.inr rfl) | exact isO_k _ | exact isC_k _ | exact (isC_k _).elim Or.inl (fun h => Or.inr (Or.inl h)) | exact (isC_k _).elim Or.inl (fun h => Or.inr (Or.inr h)) | exact isG_k _ | exact (isG_k _).elim Or.inl (fun h => Or.inr (Or.inl h)) | exact (isG_k _).elim Or.inl (fun h => Or.inr (Or.inr h)) | exact isS_k _ | exact (isS_k _).elim Or.inl (fun h => Or.inr (Or.inl h)) | exact (isS_k _).elim Or.inl (fun h => Or.inr (Or.inr h)) | exact isD_k _ | exact (isD_k _).elim Or.inl (fun h => Or.inr (Or.inl h)) | exact (isD_k _).elim Or.inl (fun h => Or.inr (Or.inr h)) | exact isT_k _ | exact (isT_k _).elim Or.inl (fun h => Or.inr (Or.inl h)) | exact (isT_k _).elim Or.inl (fun h => Or.inr (Or.inr h)) | exact isI_k _ _ | exact (isI_k _ _).elim Or.inl (fun h => Or.inr (Or.inl h)) | exact (isI_k _ _).elim Or.inl (fun h => Or.inr (Or.inr h)) | exact isE_k _ | exact (isE_k _).elim Or.inl (fun h => Or.inr (Or.inl h)) | exact (isE_k _).elim Or.inl (fun h => Or.inr (Or.inr h))
theorem k_movedBy : (f11_movedBy M p1).1.1 = 0 ∨ (f11_movedBy M p1).1.1 = 3 := by
  unfold f11_movedBy
  simp only [bnd_e, jn_e]
  repeat' split
  all_goals first | exact Or.inl rfl | exact Or.inr rfl | exact Or.inr (Or.inl rfl) | exact Or.inr (Or.inr rfl) | exact isO_k _ | exact isC_k _ | exact (isC_k _).elim Or.inl (fun h => Or.inr (Or.inl h)) | exact (isC_k _).elim Or.inl (fun h => Or.inr (Or.inr h)) | exact isG_k _ | exact (isG_k _).elim Or.inl (fun h => Or.inr (Or.inl h)) | exact (isG_k _).elim Or.inl (fun h => Or.inr (Or.inr h)) | exact isS_k _ | exact (isS_k _).elim Or.inl (fun h => Or.inr (Or.inl h)) | exact (isS_k _).elim Or.inl (fun h => Or.inr (Or.inr h)) | exact isD_k _ | exact (isD_k _).elim Or.inl (fun h => Or.inr (Or.inl h)) | exact (isD_k _).elim Or.inl (fun h => Or.inr (Or.inr h)) | exact isT_k _ | exact (isT_k _).elim Or.inl (fun h => Or.inr (Or.inl h)) | exact (isT_k _).elim Or.inl (fun h => Or.inr (Or.inr h)) | exact isI_k _ _ | exact (isI_k _ _).elim Or.inl (fun h => Or.inr (Or.inl h)) | exact (isI_k _ _).elim Or.inl (fun h => Or.inr (Or.inr h)) | exact isE_k _ | exact (isE_k _).elim Or.inl (fun h => Or.inr (Or.inl h)) | exact (isE_k _).elim Or.inl (fun h => Or.inr (Or.inr h))
theorem k_pass (h : ∀ (k : Nat) (x : Int32 × Int32 × Wm), (f11_pass_lp37 p1 k x).1.1 = 0) : (f11_pass M p1).1.1 = 0 ∨ (f11_pass M p1).1.1 = 1 ∨ (f11_pass M p1).1.1 = 2 := by
  rw [pass11_e]
  split
  · split
    · exact Or.inl (h _ _)
    · exact Or.inr (Or.inr rfl)
  · exact Or.inr (Or.inl rfl)
theorem lp67_k {v : Int32} {K : Int32 × Wm → (Nat × Int32) × Wm} (hK : ∀ y, (K y).1.1 = 0) : ∀ (k : Nat) (x : Int32 × Int32 × Wm), (f11_pass_lp67 v K k x).1.1 = 0 := by
  intro k
  induction k with
  | zero => intro x; rfl
  | succ k ih =>
    intro x
    rw [f11_pass_lp67_s]
    simp only [bnd_e, jn_e]
    split
    · exact hK _
    · split
      · split
        · exact ih _
        · exact ih _
      · exact ih _
theorem lp37_k : ∀ (k : Nat) (x : Int32 × Int32 × Wm), (f11_pass_lp37 p1 k x).1.1 = 0 := by
  intro k
  induction k with
  | zero => intro x; rfl
  | succ k ih =>
    intro x
    rw [f11_pass_lp37_s]
    simp only [bnd_e, jn_e]
    split
    · rfl
    · exact lp67_k (fun y => ih _) _ _
theorem k_takeUp (h0 : 0 ≤ (M 4 0 0 1).toInt) : (f11_takeUp M p1 p2).1.1 = 0 ∨ (f11_takeUp M p1 p2).1.1 = 3 ∨ (f11_takeUp M p1 p2).1.1 = 1 ∨ (f11_takeUp M p1 p2).1.1 = 2 := by
  rw [take11_e h0]
  split
  · split
    · split
      · exact Or.inl rfl
      · exact Or.inr (Or.inr (Or.inr rfl))
    · exact Or.inr (Or.inr (Or.inl rfl))
  · exact Or.inr (Or.inl rfl)
theorem z1_setBuying {b : Bool} (h : ∀ j : Int32, vp_in j 4 → M 5 3 0 j = 0 ∨ M 5 3 0 j = 1) : (f11_setBuying M p1 b).1.2 = 0 ∨ (f11_setBuying M p1 b).1.2 = 1 := by
  unfold f11_setBuying
  simp only [bnd_e, jn_e]
  repeat' split
  all_goals first | exact Or.inl rfl | skip
  all_goals (cases (f5_changeBuying (M 5) p1 b).1 <;> first | exact Or.inl rfl | exact Or.inr rfl)
end KND
