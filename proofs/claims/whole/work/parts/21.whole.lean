/-! THE SMALL MACHINE IS THE MACHINE, 11: the whole -/
theorem mThr_lt {M pc k x : Nat} (h : mThr M pc k = some (.ret x)) : x < 5 := by
  unfold mThr at h
  split at h
  · rename_i E' ik ix ic wd he
    split at h
    · cases h
      have hm := List.all_eq_true.mp mTh_c _ (mThf_mem he)
      simp only [Bool.and_eq_true] at hm
      have h3 := List.contains_iff_mem.mp hm.1.2
      simp only [mXl, List.mem_cons, List.not_mem_nil, or_false, Prod.mk.injEq] at h3
      omega
    · cases h
  · cases h
theorem mGo_x {ar : Nat → Nat × (Nat → Int32)} : ∀ {n d M pc : Nat} {l st : List Value} {w w' : mW} {x : Nat}, mGo ar n d M pc l st w = some (.inr x, w') → x < 5
  | 0, _, _, _, _, _, _, _, _, h => by unfold mGo at h; cases h
  | n + 1, d, M, pc, l, st, w, w', x, h => by
    obtain ⟨i, len, hf, h1 | h1 | h1 | h1 | h1⟩ := mGo_cases h
    · obtain ⟨-, y, ty, -, -, -, h1, -⟩ := h1; cases h1
    · obtain ⟨-, -, -, h1, -⟩ := h1; cases h1
    · obtain ⟨y, rfl, -, h1, -⟩ := h1
      cases h1
      rcases mF_ok hf with h2 | ⟨ir, -, -, h2⟩
      · cases h2
      · obtain ⟨k, -, h3⟩ := mN_th h2
        exact mThr_lt h3
    · obtain ⟨M', k, d', -, -, -, h1 | h1⟩ := h1
      · obtain ⟨v, w1, -, h2⟩ := h1
        exact mGo_x h2
      · obtain ⟨y, w1, h2, -, h3 | h3⟩ := h1
        · obtain ⟨pc', j, -, -, h4⟩ := h3
          exact mGo_x h4
        · obtain ⟨-, h4, -⟩ := h3
          cases h4
          exact mGo_x h2
    · obtain ⟨z, -, h2⟩ := h1
      exact mGo_x h2
theorem mSound_all : ∀ n, mSound n := by
  intro n
  induction n with
  | zero => intro d M pc l st w w' E G hgo; unfold mGo at hgo; cases hgo
  | succ n ih =>
    intro d M pc l st w w' E G hgo p l0 e R s m args below meth c H locs cells slots Q ls c0 s0 hF htr hI hl hll hcap hR kR kX
    obtain ⟨i, len, hf, hc⟩ := mGo_cases hgo
    rcases mF_ok hf with rfl | ⟨ir, hd, hlen, hn⟩
    · exfalso
      rcases hc with h | h | h | h | h
      · exact absurd h.1 (by intro h; cases h)
      · exact absurd h.1 (by intro h; cases h)
      · obtain ⟨x, h, -⟩ := h; cases h
      · obtain ⟨M', k, d', h, -⟩ := h; cases h
      · obtain ⟨z, h, -⟩ := h; cases h
    have hmo := mGo_mono hgo
    have i4 := hI.2.2.2.1
    have i5 := hI.2.2.2.2.1
    rcases hc with h | h | h | h | h
    · obtain ⟨rfl, x, ty, rfl, h2, h3, rfl, rfl⟩ := h
      obtain rfl := mN_ir hn
      have hlen : 1 = len := hlen
      subst hlen
      exact kR (some (.int x)) rfl pc ls H locs cells slots hI (fun h => by cases h) (fun y hy => by cases hy; exact ⟨hd, x, ty, rfl, h2, h3⟩)
    · obtain ⟨rfl, rfl, h2, rfl, rfl⟩ := h
      obtain rfl := mN_rt hn
      have hlen : 1 = len := hlen
      subst hlen
      exact kR none rfl pc ls H locs cells slots hI (fun _ => ⟨h2, hd⟩) (fun y hy => by cases hy)
    · obtain ⟨x, rfl, h8, rfl, rfl⟩ := h
      obtain ⟨k, rfl, ht⟩ := mN_th hn
      have hlen : 3 = len := hlen
      subst hlen
      obtain ⟨Qc, XC, mc, ms, rfl, hX, hmc, hms⟩ := kX x rfl
      have e1 : mNc (w.1, w.2.1, w.2.2.1, w.2.2.2 + 1) = mNc w + 1 := rfl
      have e2 : mNs (w.1, w.2.1, w.2.2.1, w.2.2.2 + 1) = mNs w + 6 := by
        show w.2.2.1 + 6 * (w.2.2.2 + 1) = w.2.2.1 + 6 * w.2.2.2 + 6
        omega
      rw [e1] at hmc hcap
      rw [e2] at hms hcap
      exact mS_throw hF htr hd ht hI hl hll h8 ⟨by omega, by omega⟩ ⟨by omega, by omega⟩ ⟨by omega, by omega⟩ hX
    · obtain ⟨M', k, d', hcal, rfl, hok, hr⟩ := h
      have hE1 : ∃ E1 w1, mGo (gA G) n d' M' 0 (mLoc M' (mArgs k st)) [] w = some (E1, w1) ∧ (∀ v, E1 = .inl v → mGo (gA G) n (d' + 1) M (pc + len) l (v.toList ++ st.drop k) w1 = some (E, w')) ∧
          (∀ x, E1 = .inr x → mTk i = true ∧ ((∃ pc' j, mHd M pc x = some (pc', j) ∧ j < l.length ∧ mGo (gA G) n (d' + 1) M pc' (l.set j (.double 0)) [] w1 = some (E, w')) ∨ (mHd M pc x = none ∧ E = .inr x ∧ w' = w1))) := by
        rcases hr with ⟨v, w1, h1, h2⟩ | ⟨x, w1, h1, h2, h3⟩
        · exact ⟨_, w1, h1, fun v' hv => (by cases hv; exact h2), fun x hx => (by cases hx)⟩
        · exact ⟨_, w1, h1, fun v' hv => (by cases hv), fun x' hx => (by cases hx; exact ⟨h2, h3⟩)⟩
      obtain ⟨E1, w1, hg1, hgR, hgX⟩ := hE1
      have hw1 : mNc w1 ≤ mNc w' ∧ mNs w1 ≤ mNs w' := by
        cases E1 with
        | inl v => exact mGo_mono (hgR v rfl)
        | inr x =>
          rcases (hgX x rfl).2 with ⟨pc', j, -, -, h⟩ | ⟨-, -, rfl⟩
          · exact mGo_mono h
          · exact ⟨Nat.le_refl _, Nat.le_refl _⟩
      have hC : mCx l0 R s cells slots G n d' M' k c0 s0 st w w1 E1 := ⟨ih, htr, hok, hg1, ⟨by omega, by omega⟩, hR⟩
      have kr : len = 3 → mKr p l0 e R s m args below meth c Q G c0 s0 pc k ls st w1 E1 := fun h3 v hE H1 locs1 cells1 slots1 hI1 => by
        subst h3
        exact ih (hgR v hE) hF htr hI1 hl hll hcap hR kR kX
      have kx : mKx p l0 e R s m args below meth c Q G c0 s0 pc k ls st w1 E1 := fun x hE H1 locs1 cells1 slots1 q ce hI1 a1 a2 a3 => by
        subst hE
        rcases (hgX x rfl).2 with ⟨pc', j, h1, h2, h3⟩ | ⟨h1, rfl, rfl⟩
        · exact mCaught hF h1 hl h2 a1 a2 a3 (fun ls1 hl1 => ih h3 hF htr hI1 hl1 (by rw [List.length_set]; exact hll) hcap hR kR kX)
        · obtain ⟨Qc, XC, mc, ms, rfl, hX, hmc, hms⟩ := kX x rfl
          have j4 := hI1.2.2.2.1
          have j5 := hI1.2.2.2.2.1
          exact mOutside hF (mGo_x hg1) h1 hI1 a1 a2 a3 hX (by omega) (by omega)
      cases i with
      | invokestatic a =>
        cases hcal
        obtain ⟨idx, rfl, hm⟩ := mN_st hn
        have hlen : 3 = len := hlen
        subst hlen
        exact mC_static hC hF hd hm rfl hI hl hll (kr rfl) kx
      | invokespecial a =>
        obtain ⟨idx, rfl, hm⟩ := mN_sp hn
        have hlen : 3 = len := hlen
        subst hlen
        simp only [mCal] at hcal
        split at hcal
        · rename_i b hb
          cases hcal
          cases E1 with
          | inl v => exact mC_special hC hF hd hm rfl hb hI hl hll (kr rfl)
          | inr x => have := (hgX x rfl).1; cases this
        · cases hcal
      | invokedynamic a =>
        obtain ⟨idx, rfl, hm⟩ := mN_dy hn
        have hlen : 3 = len := hlen
        subst hlen
        simp only [mCal] at hcal
        split at hcal
        · rename_i b hb
          by_cases hk : b < 31
          · rw [if_pos hk] at hcal
            cases hcal
            exact mC_dyn hC hF hd hm rfl hb hk hI hl hll (kr rfl) kx
          · rw [if_neg hk] at hcal; cases hcal
        · cases hcal
      | invokeinterface v a =>
        obtain ⟨idx, rfl, hm, -⟩ := mN_if hn
        have hlen : 3 = len := hlen
        subst hlen
        simp only [mCal] at hcal
        split at hcal
        · rename_i b hb
          split at hcal
          · rename_i ci fs hcell
            split at hcal
            · rename_i M2 hM2
              by_cases hk : mNa M2 = a + 1
              · rw [if_pos hk] at hcal
                cases hcal
                refine mC_virt hC hF hd hm hk.symm (by rw [hk]; exact hb) hcell hM2 ?_ hI hl hll (kr rfl) kx
                cases E1 with
                | inl z => exact Or.inl ⟨z, rfl⟩
                | inr x =>
                  right
                  have h := (hgX x rfl).1
                  simp only [mTk, Bool.not_eq_true'] at h
                  exact h
              · rw [if_neg hk] at hcal; cases hcal
            · cases hcal
          · cases hcal
        · cases hcal
      | _ => cases hcal
    · obtain ⟨z, hs, hg⟩ := h
      have hz := mGo_mono hg
      exact mStep hF hd hlen hn hs hI hl hll ⟨by omega, by omega⟩ ⟨by omega, by omega⟩ (fun H1 locs1 ls1 cells1 slots1 hI1 hl1 hll1 => ih hg hF htr hI1 hl1 hll1 hcap hR kR kX)
