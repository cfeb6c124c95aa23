/-! CALLS THAT CHANGE, 10: end -/
theorem zInv_tape {A A' : Nat → Int → Int} (hI : zInv A) (ht : zTp A') (ec : ∀ c, c ≠ 1 → c ≠ 2 → c ≠ 185 → c ≠ 191 → c ≠ 192 → A' c = A c) (e5 : ∀ j, j = 6 ∨ j = 7 ∨ j = 14 → A' 185 j = A 185 j) : zInv A' := by
  obtain ⟨⟨b1, b2⟩, ⟨L, b3, b4, b5⟩, -, ha, h6, h7, h8⟩ := hI
  have s : ∀ c, (c = 0 ∨ (3 ≤ c ∧ c < 185)) ∨ c = 186 ∨ c = 187 ∨ c = 190 → A' c = A c := fun c hc => ec c (by omega) (by omega) (by omega) (by omega) (by omega)
  refine ⟨⟨by rw [s 186 (by omega)]; exact b1, ?_⟩, ⟨L, zLawC_same b3 (fun c h1 h2 => s c (by omega)), by rw [s 186 (by omega)]; exact b4, by rw [s 186 (by omega), s 12 (by omega)]; exact b5⟩, ht, zActs_same ha (by rw [s 186 (by omega)]) (fun c hc => s c (by omega)) (e5 7 (by omega)), ?_, ?_, ?_⟩
  · rw [s 186 (by omega)]; exact zHR_same (fun c h1 h2 => s c (by omega)) b1 b2
  · obtain ⟨a1, a2, a3⟩ := h6
    unfold zImg
    rw [s 0 (by omega), e5 6 (by omega), s 187 (by omega)]
    refine ⟨a1, a2, fun hk => ?_⟩
    obtain ⟨c1, c2, L', c3, c4, c5⟩ := a3 hk
    exact ⟨c1, zHR_same (fun c h1 h2 => s c (by omega)) c1 c2, L', zLawC_same c3 (fun c h1 h2 => s c (by omega)), c4, by rw [s 138 (by omega)]; exact c5⟩
  · rw [s 0 (by omega), e5 14 (by omega)]; exact h7
  · rw [s 176 (by omega)]; exact h8
