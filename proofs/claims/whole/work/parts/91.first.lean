/-! both new: they hold the same -/
def b48f : Nat → Int32 := fun h => if h < 48 then b48.getD h 0 else -1
theorem bf_b48 : Bf b48f 48 := by
  refine ⟨by decide, ?_, fun h hh => if_neg (by omega)⟩
  have z : ∀ h, h < 48 → b48f h = nI (b48f h).toNatClampNeg ∧ (b48f h).toNatClampNeg < 256 := by decide +kernel
  exact fun h hh => ⟨_, (z h hh).2, (z h hh).1⟩
theorem txt_b48 : txt b48f = .inr ([-1], [-2, 1, -15], [1]) := by decide +kernel
def κ00 : CS := (0, fun _ => 0, fun _ => 0, fun _ => 0, fun _ => 0, fun _ => 0, 255, 0, 0)
theorem IC_00 : IC κ00 := by
  exact ⟨by decide, fun _ => (by decide : (0 : Nat) < 256), by decide, fun _ _ _ => (by decide : (0 &&& 0 : Nat) = 0), fun _ => (by decide : (0 &&& 255 : Nat) = 0), fun _ _ => rfl⟩
theorem first_rel {R : S0} {cf : Nat → Int32} {M : S0} (hR : R 0 1 = 0) (hcf : ∀ i, i < 5 → cf i = [(-1 : Int32), -2, 1, -15, 1].getD i 0) (hM : New6 M) : ∃ (tv : TV) (κ : CS), Rel tv 1 κ (ln69, 1) (X5i R cf) M := by
  obtain ⟨m1, m2, m3, m4⟩ := hM
  have mz : ∀ k j, k ≠ 1 → k ≠ 2 → (k ≠ 0 ∨ j ≠ 3) → M k j = M6i k j := fun k j a b c => m1 k j (Or.inl a) (Or.inl b) c
  have hB : RO (fun _ _ _ => 0) 0 κ00 (fun _ => 0, 0) (fun k j => if k = 1 then 0 else if k = 2 then 0 else X5i R cf k j) (fun k j => if k = 0 ∧ j = 3 then 0 else M k j) := by
    refine ⟨fun r hr => absurd hr (Nat.not_lt_zero r), fun r hr => absurd hr (Nat.not_lt_zero r), by decide, rfl, rfl, rfl, fun t => rfl, ?_, Or.inl ⟨rfl, ?_⟩, ⟨0, by decide, ?_, ?_, fun j hj => absurd hj (Nat.not_lt_zero j)⟩, fun i hi => Or.inl ⟨?_, ?_⟩, fun p hp => absurd hp (Nat.not_lt_zero p)⟩
    · exact mz 0 28 (by decide) (by decide) (by decide)
    · exact mz 0 34 (by decide) (by decide) (by decide)
    · exact hR
    · exact mz 0 6 (by decide) (by decide) (by decide)
    · rcases (by omega : i = 0 ∨ i = 1 ∨ i = 2 ∨ i = 3) with rfl | rfl | rfl | rfl <;> rfl
    · exact mz 8 i (by decide) (by decide) (Or.inl (by decide))
  refine ⟨_, κ00, ⟨rfl, rfl, rfl, rfl, fun p hp => rfl, fun p hp => absurd hp (Nat.not_lt_zero p)⟩, ⟨?_, ?_, ?_, ?_, fun p hp => absurd hp (Nat.not_lt_zero p)⟩, IC_00, ⟨by decide, by decide⟩, by decide, hB.txN (L := 5) (by decide) bf_b48 txt_b48 rfl ⟨rfl, by decide, hcf, rfl, rfl, rfl⟩ (fun t => ?_) rfl rfl (fun k h1 h2 => ?_) (fun k j a b c d => ?_) m4 (fun j hj => ?_) m3 ⟨0, by decide, hR, ?_, fun j hj => absurd hj (Nat.not_lt_zero j)⟩⟩
  · exact mz 0 11 (by decide) (by decide) (by decide)
  · exact mz 0 8 (by decide) (by decide) (by decide)
  · exact mz 0 7 (by decide) (by decide) (by decide)
  · exact mz 0 4 (by decide) (by decide) (by decide)
  · rfl
  · funext j
    show X5i R cf k j = if k = 1 then 0 else if k = 2 then 0 else X5i R cf k j
    rw [if_neg (by omega), if_neg (by omega)]
  · show M k j = if k = 0 ∧ j = 3 then 0 else M k j
    rw [if_neg (by omega)]
  · rw [show 160 * 0 + j = j by omega, m2 j hj]
    show _ = if j < 48 then b48.getD j 0 else -1
    rw [if_pos hj]
  · exact mz 0 6 (by decide) (by decide) (by decide)
