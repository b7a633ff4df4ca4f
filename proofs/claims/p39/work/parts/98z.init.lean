/-! BOTH as they are made stand alike -/
section INIT
theorem z32 : (0 : Int32).toInt = 0 := by decide
theorem Ok12_0 : Ok12 (M0 12) := by
  have z : ∀ {n k : Nat}, 0 < k → rIn n k (fun _ => 0) := fun {n k} h j _ => by
    show vp_in (0 : Int32) k
    rw [vp_in_iff, z32]; omega
  refine ⟨fun j _ => ⟨by show 0 ≤ (0 : Int32).toInt; decide, by show (0 : Int32).toInt ≤ 120; decide⟩, ?_, ⟨z (by decide), z (by decide), z (by decide), z (by decide), z (by decide), fun j _ => ⟨by show 0 ≤ (0 : Int32).toInt; decide, by show (0 : Int32).toInt ≤ _; decide⟩, fun j _ => ⟨by show 0 ≤ (0 : Int32).toInt; decide, by show (0 : Int32).toInt ≤ _; decide⟩⟩, ⟨z (by decide), z (by decide), z (by decide)⟩, ⟨z (by decide), z (by decide)⟩, ⟨z (by decide), z (by decide)⟩⟩
  show oB (fun j => if j = 9 then 10 else 0)
  unfold oB vp_in
  decide
theorem RW_0 : RW 0 M0 := by
  have m1 : (-1 : Int32).toInt = -1 := by decide
  refine ⟨⟨fun s hs => ⟨rfl, fun p a b => absurd b (by show ¬ p.toInt < (0 : Int32).toInt; rw [z32]; omega)⟩, fun s hs p a b => absurd b (by show ¬ p.toInt < (0 : Int32).toInt; rw [z32]; omega), fun s hs hz => absurd rfl hz⟩, ⟨?_, ⟨?_, ?_, ?_⟩, ?_, ?_, Ok12_0, ?_⟩, ?_, ?_⟩
  · exact ⟨fun c hc => ⟨rfl, rfl, rfl⟩, fun a b _ _ => ⟨rfl, rfl⟩, by decide, fun c _ => Or.inl rfl⟩
  · exact ⟨by decide, ⟨by decide, by decide⟩, fun j a b => absurd b (by rw [show (M0 1 0 0 7).toInt = 0 by decide]; omega), fun w g _ _ => rfl⟩
  · intro r g _ _
    rw [show (M0 1 0 0 7).toInt.toNat = 0 by decide]
    show (0 : Int32) = if r = 0 then 0 else 0
    split <;> rfl
  · intro g _
    refine ⟨fun r _ => ?_, ?_⟩
    · show 0 ≤ (0 : Int32).toInt; decide
    · show (0 : Int32).toInt + (0 : Int32).toInt + (0 : Int32).toInt + (0 : Int32).toInt + (0 : Int32).toInt ≤ 0; decide
  · exact ⟨by decide, by decide, ⟨by decide, by decide⟩, fun i a b => absurd b (by rw [show (M0 4 0 0 1).toInt = 0 by decide]; omega), fun i _ _ => ⟨⟨rfl, rfl, rfl, rfl, rfl⟩, rfl, rfl, rfl⟩⟩
  · exact ⟨by decide, by decide⟩
  · exact fun j _ => ⟨rfl, rfl, rfl⟩
  · exact fun i a b => absurd b (by rw [show (M0 12 0 0 11).toInt = 0 by decide]; omega)
  · refine ⟨vin_lit (by decide), by decide, by decide, by decide, by decide, by decide, by decide, by decide, by decide, fun j _ => ⟨show vp_in ((0 : Int32) + 1) 5 from vin_lit (by decide), show vp_in ((0 : Int32) + 1) 5 from vin_lit (by decide), show vp_in (0 : Int32) 8 from vin_lit (by decide)⟩, by decide, by decide⟩
theorem sM0 : ∀ c : Nat, c ≤ 12 → swM M0 c = M0 c := by
  intro c h
  have : c = 0 ∨ c = 1 ∨ c = 2 ∨ c = 3 ∨ c = 4 ∨ c = 5 ∨ c = 6 ∨ c = 7 ∨ c = 8 ∨ c = 9 ∨ c = 10 ∨ c = 11 ∨ c = 12 := by omega
  rcases this with e | e | e | e | e | e | e | e | e | e | e | e | e <;> subst e
  all_goals rfl
theorem LW_0 : LW (fun _ => 0) 0 M0 := by
  refine ⟨?_, ⟨?_, ?_, ⟨by decide, by decide⟩, ?_, rfl⟩, fun g _ => ⟨by show 0 ≤ (0 : Int32).toInt; decide, by show (0 : Int32).toInt ≤ 1000; decide⟩, by decide, by decide⟩
  · obtain ⟨h1, ⟨q1, ⟨q2, q3, q4⟩, q5⟩, h3, h4⟩ := RW_0
    exact ⟨h1, ⟨q1, ⟨q2, q3, q4.mono (by decide)⟩, q5⟩, h3, h4⟩
  · refine ⟨⟨by decide, by decide⟩, fun c _ => ⟨by show 0 ≤ (0 : Int32).toInt; decide, by show 0 ≤ (0 : Int32).toInt; decide⟩, fun a b _ _ => ⟨by show 0 ≤ (0 : Int32).toInt; decide, by show 0 ≤ (0 : Int32).toInt; decide⟩, fun a _ => rfl, by decide, by decide⟩
  · exact ⟨⟨by decide, by decide⟩, ⟨by decide, by decide⟩, fun i a b => absurd b (by rw [show (M0 4 0 0 1).toInt = 0 by decide]; omega), fun i _ a b => absurd b (by rw [show (M0 4 0 0 1).toInt = 0 by decide]; omega), fun i _ _ => ⟨rfl, rfl, rfl, rfl⟩⟩
  · exact fun j a b => absurd b (by rw [show (M0 1 0 0 7).toInt = 0 by decide]; omega)
end INIT
