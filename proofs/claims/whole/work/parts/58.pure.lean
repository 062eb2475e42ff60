/-! Pure: at the start -/
theorem rel_0 : RELA (fun _ _ => 0) (fun _ => 0) (fun _ => 0) (fun _ _ => 0) (fun _ => false) (fun _ => 0) := by
  refine ⟨0, 0, 0, ⟨by decide, by decide, by decide⟩, ⟨⟨rfl, rfl⟩, ⟨rfl, rfl⟩, ⟨rfl, rfl⟩, rfl, rfl, 0, by decide, rfl⟩, ⟨fun k hk => absurd hk (by omega), fun _ _ => ⟨rfl, rfl⟩, fun k hk => absurd hk (by omega)⟩, ⟨fun _ => 0, ⟨fun i hi => absurd hi (by omega), fun _ _ => rfl⟩, fun i hi => absurd hi (by omega), fun _ _ => Nat.le_refl 0, fun _ _ => ⟨rfl, rfl⟩⟩, ⟨fun k hk => absurd hk (by omega), fun k hk => absurd hk (by omega), fun k b _ _ q => ?_, fun _ => 0, fun k hk => absurd hk (by omega)⟩, rfl⟩
  cases q
