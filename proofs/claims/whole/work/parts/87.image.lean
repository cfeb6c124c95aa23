/-! CALLS THAT CHANGE, 8: image, back -/
section IMAGE
variable {ar : Nat → Nat × (Nat → Int32)} {d t : Nat} {K : Nat → Nat → Option Nat} {A : Nat → Int → Int} {O : Nat → Int64}
theorem c_lawCopy {a b : Nat} (ha : isLaw a) (hb : isLaw b) (hab : b + 6 < a ∨ a + 6 < b) (h0 : A b 0 = 0 ∨ A b 0 = 1) {L : zLines} (hL : zLawC A b L) : ∃ C, mGd ar (d) 59 0 [.ref a, .ref b] [] (zW K A O t) = some (.inl none, zW K C O t) ∧ zLawC C a L ∧ C a 0 = A b 0 ∧ ∀ c, ¬ (a ≤ c ∧ c ≤ a + 4) → C c = A c := by
  obtain ⟨l1, l2, l3, l4, l5⟩ := hL
  rw [i59_0 ha hb h0]
  refine ⟨_, rfl, ⟨?_, l2, l3, l4, zLwC_of (A := A) (b := b) (fun i h1 h2 => ?_) (fun i h1 h2 => ?_) (fun i h1 h2 => ?_) (fun i h1 h2 => ?_) L 0 0 (by omega) (by omega) (by omega) (by omega) l5⟩, ?_, fun c hc => ?_⟩
  · rw [← l1]; simp (disch := first | assumption | omega) only [zC_r, zU_at, zU_c, zU_s, zU_r]
  all_goals simp (disch := first | assumption | omega) only [zC_r, zC_in, zC_out, Nat.add_assoc, Nat.reduceAdd, Int.sub_zero, Int.zero_add, zU_at, zU_c, zU_s, zU_r]
end IMAGE
