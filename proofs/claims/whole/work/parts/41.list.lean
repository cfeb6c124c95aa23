/-! CONTRACTS, 2: rows of ints as lists; sorting; middles -/
def zLst (g : Int → Int) : Int → Nat → List Int
  | _, 0 => []
  | p, m + 1 => g p :: zLst g (p + 1) m
theorem zLst_len {g : Int → Int} : ∀ {m : Nat} {p : Int}, (zLst g p m).length = m
  | 0, _ => rfl
  | m + 1, p => congrArg Nat.succ (zLst_len (m := m) (p := p + 1))
theorem zLst_ext {g g' : Int → Int} : ∀ {m : Nat} {p p' : Int}, (∀ j : Nat, j < m → g (p + j) = g' (p' + j)) → zLst g p m = zLst g' p' m
  | 0, _, _, _ => rfl
  | m + 1, p, p', h => by
    show g p :: zLst g (p + 1) m = g' p' :: zLst g' (p' + 1) m
    have h0 := h 0 (by omega)
    simp only [Int.natCast_zero, Int.add_zero] at h0
    rw [h0, zLst_ext (m := m) (p := p + 1) (p' := p' + 1) (fun j hj => by
      have := h (j + 1) (by omega)
      rw [show p + 1 + (j : Int) = p + ((j + 1 : Nat) : Int) by omega, show p' + 1 + (j : Int) = p' + ((j + 1 : Nat) : Int) by omega]
      exact this)]
theorem zLst_add {g : Int → Int} : ∀ {m n : Nat} {p : Int}, zLst g p (m + n) = zLst g p m ++ zLst g (p + m) n
  | 0, n, p => by simp [zLst]
  | m + 1, n, p => by
    rw [show m + 1 + n = (m + n) + 1 by omega]
    show g p :: zLst g (p + 1) (m + n) = g p :: (zLst g (p + 1) m ++ _)
    rw [zLst_add (m := m) (n := n) (p := p + 1), show p + 1 + (m : Int) = p + ((m + 1 : Nat) : Int) by omega]
theorem zLst_mem {g : Int → Int} {x : Int} : ∀ {m : Nat} {p : Int}, x ∈ zLst g p m ↔ ∃ i, p ≤ i ∧ i < p + m ∧ g i = x
  | 0, p => by
    constructor
    · intro h; cases h
    · rintro ⟨i, h1, h2, -⟩; omega
  | m + 1, p => by
    show x ∈ g p :: zLst g (p + 1) m ↔ _
    rw [List.mem_cons, zLst_mem (m := m) (p := p + 1)]
    constructor
    · rintro (h | ⟨i, h1, h2, h3⟩)
      · exact ⟨p, by omega, by omega, h.symm⟩
      · exact ⟨i, by omega, by omega, h3⟩
    · rintro ⟨i, h1, h2, h3⟩
      by_cases h : i = p
      · left; rw [← h]; exact h3.symm
      · right; exact ⟨i, by omega, by omega, h3⟩
theorem zLst_pair {g : Int → Int} : ∀ {m : Nat} {p : Int}, (zLst g p m).Pairwise (· ≤ ·) ↔ ∀ i j, p ≤ i → i < j → j < p + m → g i ≤ g j
  | 0, p => by
    constructor
    · intro _ i j h1 h2 h3; omega
    · intro _; exact List.Pairwise.nil
  | m + 1, p => by
    show (g p :: zLst g (p + 1) m).Pairwise (· ≤ ·) ↔ _
    rw [List.pairwise_cons, zLst_pair (m := m) (p := p + 1)]
    constructor
    · rintro ⟨h1, h2⟩ i j hi hj hm
      by_cases h : i = p
      · rw [h]; exact h1 _ (zLst_mem.mpr ⟨j, by omega, by omega, rfl⟩)
      · exact h2 i j (by omega) hj (by omega)
    · intro h
      refine ⟨fun x hx => ?_, fun i j hi hj hm => h i j (by omega) hj (by omega)⟩
      obtain ⟨j, h1, h2, h3⟩ := zLst_mem.mp hx
      rw [← h3]
      exact h p j (by omega) (by omega) (by omega)
def zAt (L : List Int) (i : Int) : Int := L.getD i.toNat 0
theorem zLst_at {g : Int → Int} {L : List Int} : ∀ {m : Nat} {p i : Int}, p ≤ i → i < p + m → zAt (zLst g p m) (i - p) = g i
  | 0, p, i, h1, h2 => by omega
  | m + 1, p, i, h1, h2 => by
    show (g p :: zLst g (p + 1) m).getD (i - p).toNat 0 = g i
    by_cases h : i = p
    · rw [h, show (p - p).toNat = 0 by omega]; rfl
    · rw [show (i - p).toNat = (i - (p + 1)).toNat + 1 by omega]
      exact zLst_at (L := L) (m := m) (p := p + 1) (by omega) (by omega)
theorem zLst_at0 {g : Int → Int} {L : List Int} {m : Nat} {i : Int} (h : zLst g 0 m = L) (h1 : 0 ≤ i) (h2 : i < m) : g i = zAt L i := by
  have := zLst_at (L := L) (g := g) (m := m) (p := 0) (i := i) h1 (by omega)
  rw [← this, h, Int.sub_zero]
def zIns (v : Int) : List Int → List Int
  | [] => [v]
  | x :: L => if v < x then v :: x :: L else x :: zIns v L
theorem zIns_app {v : Int} : ∀ {L1 L2 : List Int}, (∀ x ∈ L1, x ≤ v) → (∀ x ∈ L2, v < x) → zIns v (L1 ++ L2) = L1 ++ v :: L2
  | [], [], _, _ => rfl
  | [], x :: L2, _, h2 => by
    show (if v < x then v :: x :: L2 else _) = _
    rw [if_pos (h2 x List.mem_cons_self)]; rfl
  | x :: L1, L2, h1, h2 => by
    show (if v < x then _ else x :: zIns v (L1 ++ L2)) = _
    have := h1 x List.mem_cons_self
    rw [if_neg (by omega), zIns_app (fun y hy => h1 y (List.mem_cons_of_mem _ hy)) h2]; rfl
theorem zIns_comm {v w : Int} : ∀ {L : List Int}, zIns v (zIns w L) = zIns w (zIns v L)
  | [] => by
    simp only [zIns]
    by_cases h1 : v < w
    · rw [if_pos h1, if_neg (by omega)]
    · rw [if_neg h1]
      by_cases h2 : w < v
      · rw [if_pos h2]
      · rw [if_neg h2, show v = w by omega]
  | x :: L => by
    have ih := zIns_comm (v := v) (w := w) (L := L)
    simp only [zIns]
    by_cases h1 : v < x <;> by_cases h2 : w < x <;> simp only [h1, h2, if_true, if_false, zIns]
    · by_cases h3 : v < w
      · rw [if_pos h3, if_neg (by omega)]
      · rw [if_neg h3]
        by_cases h4 : w < v
        · rw [if_pos h4]
        · rw [if_neg h4, show v = w by omega]
    · rw [if_neg (by omega)]
    · rw [if_neg (by omega)]
    · rw [ih]
theorem zIns_mem {v x : Int} : ∀ {L : List Int}, x ∈ zIns v L ↔ x = v ∨ x ∈ L
  | [] => by simp [zIns]
  | y :: L => by
    simp only [zIns]
    by_cases h : v < y
    · rw [if_pos h, List.mem_cons]
    · rw [if_neg h, List.mem_cons, zIns_mem (L := L), List.mem_cons]
      constructor
      · rintro (h | h | h) <;> simp [h]
      · rintro (h | h | h) <;> simp [h]
theorem zIns_sorted {v : Int} : ∀ {L : List Int}, L.Pairwise (· ≤ ·) → (zIns v L).Pairwise (· ≤ ·)
  | [], _ => List.pairwise_singleton _ _
  | y :: L, h => by
    obtain ⟨h1, h2⟩ := List.pairwise_cons.mp h
    simp only [zIns]
    by_cases hv : v < y
    · rw [if_pos hv]
      refine List.pairwise_cons.mpr ⟨fun x hx => ?_, h⟩
      rcases List.mem_cons.mp hx with rfl | hx
      · omega
      · have := h1 x hx; omega
    · rw [if_neg hv]
      refine List.pairwise_cons.mpr ⟨fun x hx => ?_, zIns_sorted h2⟩
      rcases zIns_mem.mp hx with rfl | hx
      · omega
      · exact h1 x hx
theorem zIns_len {v : Int} : ∀ {L : List Int}, (zIns v L).length = L.length + 1
  | [] => rfl
  | y :: L => by
    simp only [zIns]
    by_cases hv : v < y
    · rw [if_pos hv]; rfl
    · rw [if_neg hv, List.length_cons, zIns_len (L := L)]; rfl
theorem zIns_perm {v : Int} : ∀ {L : List Int}, (zIns v L).Perm (v :: L)
  | [] => List.Perm.refl _
  | y :: L => by
    simp only [zIns]
    by_cases hv : v < y
    · rw [if_pos hv]
    · rw [if_neg hv]
      exact ((zIns_perm (L := L)).cons y).trans (List.Perm.swap v y L)
def zSort : List Int → List Int
  | [] => []
  | x :: L => zIns x (zSort L)
theorem zSort_sorted : ∀ {L : List Int}, (zSort L).Pairwise (· ≤ ·)
  | [] => List.Pairwise.nil
  | _ :: L => zIns_sorted (zSort_sorted (L := L))
theorem zSort_len : ∀ {L : List Int}, (zSort L).length = L.length
  | [] => rfl
  | x :: L => by
    show (zIns x (zSort L)).length = L.length + 1
    rw [zIns_len, zSort_len]
theorem zSort_perm : ∀ {L : List Int}, (zSort L).Perm L
  | [] => List.Perm.refl _
  | x :: L => (zIns_perm (v := x) (L := zSort L)).trans ((zSort_perm (L := L)).cons x)
theorem zSort_mem {x : Int} {L : List Int} : x ∈ zSort L ↔ x ∈ L := zSort_perm.mem_iff
theorem zSort_of_perm {L L' : List Int} (h : L.Perm L') : zSort L = zSort L' := by
  induction h with
  | nil => rfl
  | cons x _ ih => show zIns x _ = zIns x _; rw [ih]
  | swap x y L => exact zIns_comm
  | trans _ _ h1 h2 => exact h1.trans h2
theorem zSort_id : ∀ {L : List Int}, L.Pairwise (· ≤ ·) → zSort L = L
  | [], _ => rfl
  | x :: L, h => by
    obtain ⟨h1, h2⟩ := List.pairwise_cons.mp h
    show zIns x (zSort L) = x :: L
    rw [zSort_id h2]
    cases L with
    | nil => rfl
    | cons y L =>
      have h3 := h1 y List.mem_cons_self
      by_cases h4 : x < y
      · show (if x < y then _ else _) = _
        rw [if_pos h4]
      · have h5 : x = y := by omega
        subst h5
        have ht : ∀ (L : List Int) (z : Int), (∀ w ∈ L, z ≤ w) → L.Pairwise (· ≤ ·) → zIns z L = z :: L := by
          intro L
          induction L with
          | nil => intro z _ _; rfl
          | cons w L ih =>
            intro z hz hp
            have hw := hz w List.mem_cons_self
            by_cases hzw : z < w
            · show (if z < w then _ else _) = _
              rw [if_pos hzw]
            · have : z = w := by omega
              subst this
              show (if z < z then _ else z :: zIns z L) = _
              rw [if_neg (by omega), ih z (List.pairwise_cons.mp hp).1 (List.pairwise_cons.mp hp).2]
        exact ht (x :: L) x (fun w hw => by rcases List.mem_cons.mp hw with rfl | hw
                                            · omega
                                            · exact (List.pairwise_cons.mp h2).1 w hw) h2
/-- two sorted rows with the same members are one -/
theorem zSorted_eq {L L' : List Int} (h : L.Pairwise (· ≤ ·)) (h' : L'.Pairwise (· ≤ ·)) (hp : L.Perm L') : L = L' := by
  rw [← zSort_id h, ← zSort_id h', zSort_of_perm hp]
/-- a row into which a number was put at its place -/
theorem zIns_arr {g g' : Int → Int} {m q : Nat} {v : Int} (hq : q ≤ m) (hs : ∀ i j, 0 ≤ i → i < j → j < (m : Int) → g i ≤ g j) (h1 : 0 < q → g ((q : Int) - 1) ≤ v) (h2 : ∀ i, (q : Int) ≤ i → i < m → v < g i) (e1 : ∀ i, 0 ≤ i → i < (q : Int) → g' i = g i) (e2 : g' q = v) (e3 : ∀ i, (q : Int) ≤ i → i < m → g' (i + 1) = g i) : zLst g' 0 (m + 1) = zIns v (zLst g 0 m) := by
  have a1 : zLst g 0 m = zLst g 0 q ++ zLst g q (m - q) := by
    rw [show m = q + (m - q) by omega, zLst_add, show q + (m - q) - q = m - q by omega, Int.zero_add]
  have a2 : zLst g' 0 (m + 1) = zLst g 0 q ++ v :: zLst g q (m - q) := by
    rw [show m + 1 = q + (1 + (m - q)) by omega, zLst_add, zLst_add, Int.zero_add]
    congr 1
    · exact zLst_ext (fun j hj => by rw [Int.zero_add]; exact e1 _ (by omega) (by omega))
    · show [g' q] ++ _ = [v] ++ _
      rw [e2]
      congr 1
      exact zLst_ext (fun j hj => by
        rw [show (q : Int) + ((1 : Nat) : Int) + (j : Int) = ((q : Int) + j) + 1 by omega]
        exact e3 _ (by omega) (by omega))
  rw [a1, a2]
  refine (zIns_app (fun x hx => ?_) (fun x hx => ?_)).symm
  · obtain ⟨i, hi1, hi2, rfl⟩ := zLst_mem.mp hx
    by_cases hi : i = (q : Int) - 1
    · rw [hi]; exact h1 (by omega)
    · have := hs i ((q : Int) - 1) (by omega) (by omega) (by omega)
      have := h1 (by omega)
      omega
  · obtain ⟨i, hi1, hi2, rfl⟩ := zLst_mem.mp hx
    exact h2 i (by omega) (by omega)
/-- the commonest, of several the least -/
def zIsCom (L : List Int) (x : Int) : Prop := x ∈ L ∧ (∀ y, L.count y ≤ L.count x) ∧ ∀ y, y < x → L.count y < L.count x
theorem zIsCom_uniq {L : List Int} {x y : Int} (h : zIsCom L x) (h' : zIsCom L y) : x = y := by
  have a1 := h.2.1 y
  have a2 := h'.2.1 x
  by_cases h1 : x < y
  · have := h'.2.2 x h1; omega
  · by_cases h2 : y < x
    · have := h.2.2 y h2; omega
    · omega
noncomputable def zCom (L : List Int) : Int := @dite _ (∃ x, zIsCom L x) (Classical.propDecidable _) (fun h => h.choose) (fun _ => 0)
theorem zCom_eq {L : List Int} {x : Int} (h : zIsCom L x) : zCom L = x := by
  unfold zCom
  have hx : ∃ x, zIsCom L x := ⟨x, h⟩
  rw [dif_pos hx]
  exact zIsCom_uniq hx.choose_spec h
def zS1 (P : List (Int × Int)) : Int := (P.map fun q => q.1).sum
def zS2 (P : List (Int × Int)) : Int := (P.map fun q => q.2).sum
def zS3 (P : List (Int × Int)) : Int := (P.map fun q => q.1 * q.2).sum
def zV (P : List (Int × Int)) : List Int := zSort (P.map fun q => q.1)
noncomputable def zMid (r : Int) (P : List (Int × Int)) : Int :=
  if r = 0 then zS1 P / P.length else if r = 1 then zAt (zV P) (((P.length : Int) - 1) / 2) else if r = 2 then zAt (zV P) ((P.length : Int) / 2) else if r = 3 then (zAt (zV P) 0 + zAt (zV P) ((P.length : Int) - 1)) / 2 else if r = 4 then zCom (zV P) else zS3 P / zS2 P
theorem zSum_perm {L L' : List Int} (h : L.Perm L') : L.sum = L'.sum := by
  induction h with
  | nil => rfl
  | cons x _ ih => rw [List.sum_cons, List.sum_cons, ih]
  | swap x y L => rw [List.sum_cons, List.sum_cons, List.sum_cons, List.sum_cons]; omega
  | trans _ _ h1 h2 => exact h1.trans h2
theorem zMid_perm {r : Int} {P Q : List (Int × Int)} (h : P.Perm Q) : zMid r P = zMid r Q := by
  unfold zMid zV zS1 zS2 zS3
  rw [zSum_perm (h.map fun q => q.1), zSum_perm (h.map fun q => q.2), zSum_perm (h.map fun q => q.1 * q.2), zSort_of_perm (h.map fun q => q.1), h.length_eq]
def zOkP (P : List (Int × Int)) : Prop := P.length ≤ 8 ∧ ∀ q ∈ P, (0 ≤ q.1 ∧ q.1 ≤ 99) ∧ (1 ≤ q.2 ∧ q.2 ≤ 9)
theorem zOk_sums : ∀ {P : List (Int × Int)}, (∀ q ∈ P, (0 ≤ q.1 ∧ q.1 ≤ 99) ∧ (1 ≤ q.2 ∧ q.2 ≤ 9)) → (0 ≤ zS1 P ∧ zS1 P ≤ 99 * P.length) ∧ ((P.length : Int) ≤ zS2 P ∧ zS2 P ≤ 9 * P.length) ∧ (0 ≤ zS3 P ∧ zS3 P ≤ 99 * zS2 P)
  | [], _ => by decide
  | q :: P, h => by
    obtain ⟨h1, h2, h3⟩ := zOk_sums (P := P) (fun q hq => h q (List.mem_cons_of_mem _ hq))
    have hq := h q List.mem_cons_self
    have e1 : zS1 (q :: P) = q.1 + zS1 P := by simp [zS1]
    have e2 : zS2 (q :: P) = q.2 + zS2 P := by simp [zS2]
    have e3 : zS3 (q :: P) = q.1 * q.2 + zS3 P := by simp [zS3]
    have e4 : 0 ≤ q.1 * q.2 := Int.mul_nonneg hq.1.1 (by omega)
    have e5 : q.1 * q.2 ≤ 99 * q.2 := Int.mul_le_mul_of_nonneg_right hq.1.2 (by omega)
    rw [e1, e2, e3, List.length_cons]
    omega
