/-! THE BEGINNING, and the whole law -/
theorem y1_84 : ∀ g, z q_s1 84 g = 0 := fun _ => rfl
theorem y1_Bas : Bas 0 16 29 110 116 0 q_s1 := by
  refine ⟨⟨q_E1, by decide +kernel⟩, ⟨by decide +kernel, by decide +kernel, Or.inl ⟨rfl, rfl⟩⟩, by decide +kernel, ⟨?_, ?_⟩, y1_84, Or.inl (by decide +kernel), ⟨by decide +kernel, by decide, by decide +kernel, fun j hj => absurd hj (by omega)⟩, ⟨⟨⟨Or.inl rfl, by decide +kernel, by decide +kernel, by decide +kernel, by decide +kernel, by decide +kernel, by decide +kernel⟩, q_E1⟩, ⟨Or.inr rfl, by decide +kernel, by decide +kernel, by decide +kernel, by decide +kernel, by decide +kernel, by decide +kernel⟩, by decide⟩, by decide +kernel, ⟨by decide +kernel, by decide +kernel⟩, Or.inl ⟨by decide +kernel, by decide +kernel, by decide +kernel, by decide +kernel, by decide +kernel, by decide +kernel, by decide +kernel, by decide +kernel⟩⟩
  · unfold WD; decide +kernel
  · unfold WD; decide +kernel
theorem y1_Ex1 : Ex1 16 q_s1 := by
  refine ⟨⟨?_, ?_, ?_⟩, ⟨by decide +kernel, by decide +kernel, by decide +kernel, by decide +kernel⟩, by decide +kernel, by decide +kernel, by decide +kernel, Or.inl ⟨by decide +kernel, by decide +kernel⟩⟩
  · unfold b256; decide +kernel
  · unfold n16; decide +kernel
  · unfold b256; decide +kernel
theorem y_goal : q_goal := lw_all2 (I := Inv) ⟨16, 29, 110, 116, 0, y1_Bas, y1_Ex1⟩ (fun c σ h => by obtain ⟨p, q, s, u, m, hB, -⟩ := h; exact hB.1.1) (fun ω c σ j hc h => Inv_oks hc h)
