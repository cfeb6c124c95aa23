/-! TEXTS, 2: the things of a text -/
def zSk (T : Int → Int) (lo hi : Int) : Nat → Int → Int
  | 0, p => p
  | m + 1, p => if lo ≤ T p ∧ T p ≤ hi then zSk T lo hi m (p + 1) else p
theorem zSk_rng {T : Int → Int} {lo hi : Int} : ∀ {m : Nat} {p : Int}, p ≤ zSk T lo hi m p ∧ zSk T lo hi m p ≤ p + m
  | 0, p => by show p ≤ p ∧ p ≤ p + ((0 : Nat) : Int); omega
  | m + 1, p => by
    show p ≤ (if lo ≤ T p ∧ T p ≤ hi then zSk T lo hi m (p + 1) else p) ∧ (if lo ≤ T p ∧ T p ≤ hi then zSk T lo hi m (p + 1) else p) ≤ p + ((m + 1 : Nat) : Int)
    have := zSk_rng (T := T) (lo := lo) (hi := hi) (m := m) (p := p + 1)
    split <;> omega
/-- where a run of bytes of a kind ends -/
def zR (T : Int → Int) (n lo hi p : Int) : Int := zSk T lo hi (n - p).toNat p
theorem zR_rng {T : Int → Int} {n lo hi p : Int} (h : p ≤ n) : p ≤ zR T n lo hi p ∧ zR T n lo hi p ≤ n := by
  unfold zR
  have := zSk_rng (T := T) (lo := lo) (hi := hi) (m := (n - p).toNat) (p := p)
  omega
theorem zR_n {T : Int → Int} {n lo hi : Int} : zR T n lo hi n = n := by
  unfold zR
  rw [show (n - n).toNat = 0 by omega]; rfl
theorem zR_step {T : Int → Int} {n lo hi p : Int} (h : p < n) (hc : lo ≤ T p ∧ T p ≤ hi) : zR T n lo hi p = zR T n lo hi (p + 1) := by
  unfold zR
  obtain ⟨m, hm⟩ : ∃ m : Nat, (n - p).toNat = m + 1 := ⟨(n - p).toNat - 1, by omega⟩
  rw [hm, show (n - (p + 1)).toNat = m by omega]
  exact if_pos hc
theorem zR_stop {T : Int → Int} {n lo hi p : Int} (h : p ≤ n) (hc : p < n → ¬ (lo ≤ T p ∧ T p ≤ hi)) : zR T n lo hi p = p := by
  by_cases hp : p = n
  · rw [hp]; exact zR_n
  · unfold zR
    obtain ⟨m, hm⟩ : ∃ m : Nat, (n - p).toNat = m + 1 := ⟨(n - p).toNat - 1, by omega⟩
    rw [hm]
    exact if_neg (hc (by omega))
theorem zR_end {T : Int → Int} {n lo hi : Int} : ∀ (m : Nat) (p : Int), p + m = n → zR T n lo hi p < n → ¬ (lo ≤ T (zR T n lo hi p) ∧ T (zR T n lo hi p) ≤ hi)
  | 0, p, hm, h => by
    have : p = n := by omega
    rw [this, zR_n] at h
    omega
  | m + 1, p, hm, h => by
    by_cases hc : lo ≤ T p ∧ T p ≤ hi
    · rw [zR_step (by omega) hc] at h ⊢
      exact zR_end m (p + 1) (by omega) h
    · rw [zR_stop (by omega) (fun _ => hc)]
      exact hc
theorem zR_in {T : Int → Int} {n lo hi : Int} : ∀ (m : Nat) (p : Int), p + m = n → ∀ i, p ≤ i → i < zR T n lo hi p → lo ≤ T i ∧ T i ≤ hi
  | 0, p, hm, i, h1, h2 => by
    have : p = n := by omega
    rw [this, zR_n] at h2
    omega
  | m + 1, p, hm, i, h1, h2 => by
    by_cases hc : lo ≤ T p ∧ T p ≤ hi
    · rw [zR_step (by omega) hc] at h2
      by_cases he : i = p
      · rw [he]; exact hc
      · exact zR_in m (p + 1) (by omega) i (by omega) h2
    · rw [zR_stop (by omega) (fun _ => hc)] at h2
      omega
def zBg (T : Int → Int) (n p : Int) : Int := zR T n 32 32 p
def zWe (T : Int → Int) (n p : Int) : Int := zR T n 97 122 (zBg T n p)
def zDe (T : Int → Int) (n p : Int) : Int := zR T n 48 57 (zBg T n p)
def zKd (T : Int → Int) (n p : Int) : Int := if zBg T n p < zWe T n p then 1 else if zBg T n p < zDe T n p then 2 else if zBg T n p < n then 3 else 0
def zBh (T : Int → Int) (n p : Int) : Int := if zBg T n p < zWe T n p then zWe T n p else if zBg T n p < zDe T n p then zDe T n p else if zBg T n p < n then zBg T n p + 1 else zBg T n p
def zNv (T : Int → Int) (b : Int) : Nat → Int
  | 0 => 0
  | m + 1 => if m < 3 then 10 * zNv T b m + T (b + m) - 48 else -1
def zVl (T : Int → Int) (n p : Int) : Int := if zBg T n p < zWe T n p then 0 else zNv T (zBg T n p) (zDe T n p - zBg T n p).toNat
theorem zBg_rng {T : Int → Int} {n p : Int} (h : p ≤ n) : p ≤ zBg T n p ∧ zBg T n p ≤ n := zR_rng h
theorem zWe_rng {T : Int → Int} {n p : Int} (h : p ≤ n) : zBg T n p ≤ zWe T n p ∧ zWe T n p ≤ n := zR_rng (zBg_rng h).2
theorem zDe_rng {T : Int → Int} {n p : Int} (h : p ≤ n) : zBg T n p ≤ zDe T n p ∧ zDe T n p ≤ n := zR_rng (zBg_rng h).2
theorem zBh_rng {T : Int → Int} {n p : Int} (h : p ≤ n) : zBg T n p ≤ zBh T n p ∧ zBh T n p ≤ n := by
  have h1 := zBg_rng (T := T) h
  have h2 := zWe_rng (T := T) h
  have h3 := zDe_rng (T := T) h
  unfold zBh
  repeat' split
  all_goals omega
theorem zBg_bg {T : Int → Int} {n p : Int} (h : p ≤ n) : zBg T n (zBg T n p) = zBg T n p := by
  have h1 := zBg_rng (T := T) h
  exact zR_stop h1.2 (fun hl => by
    by_cases h0 : 0 ≤ n - p
    · have := zR_end (T := T) (n := n) (lo := 32) (hi := 32) (n - p).toNat p (by omega) hl
      exact this
    · omega)
theorem zNv_rng {T : Int → Int} {b : Int} : ∀ m : Nat, (∀ i, b ≤ i → i < b + m → 48 ≤ T i ∧ T i ≤ 57) → -1 ≤ zNv T b m ∧ zNv T b m ≤ 999 ∧ (m ≤ 3 → 0 ≤ zNv T b m) ∧ (m ≤ 2 → zNv T b m ≤ 99) ∧ (m ≤ 1 → zNv T b m ≤ 9) ∧ (m = 0 → zNv T b m = 0)
  | 0, _ => by show -1 ≤ (0 : Int) ∧ (0 : Int) ≤ 999 ∧ (0 ≤ 3 → (0 : Int) ≤ 0) ∧ (0 ≤ 2 → (0 : Int) ≤ 99) ∧ (0 ≤ 1 → (0 : Int) ≤ 9) ∧ (0 = 0 → (0 : Int) = 0); omega
  | m + 1, h => by
    have ih := zNv_rng (T := T) (b := b) m (fun i h1 h2 => h i h1 (by omega))
    have hc := h (b + m) (by omega) (by omega)
    rw [show zNv T b (m + 1) = if m < 3 then 10 * zNv T b m + T (b + m) - 48 else -1 from rfl]
    split <;> omega
theorem zVl_rng {T : Int → Int} {n p : Int} (h : p ≤ n) : -1 ≤ zVl T n p ∧ zVl T n p ≤ 999 := by
  unfold zVl
  split
  · omega
  · have h3 := zDe_rng (T := T) h
    have h1 := zBg_rng (T := T) h
    have := zNv_rng (T := T) (b := zBg T n p) (zDe T n p - zBg T n p).toNat (fun i a1 a2 => zR_in (T := T) (n := n) (lo := 48) (hi := 57) (n - zBg T n p).toNat (zBg T n p) (by omega) i a1 (by
      show i < zDe T n p
      omega))
    omega
/-- the text in the class; in the reference; the thing at which the class is -/
def zTx (A : Nat → Int → Int) (T : Int → Int) (n : Int) : Prop := (0 ≤ n ∧ n ≤ 400) ∧ A 1 1 = n ∧ ∀ i, 0 ≤ i → i < n → A 2 i = T i ∧ 0 ≤ T i ∧ T i ≤ 255
def zTr (B : Nat → Int → Int) (T : Int → Int) (n : Int) : Prop := (0 ≤ n ∧ n ≤ 400) ∧ B 185 11 = n ∧ ∀ i, 0 ≤ i → i < n → B 191 i = zSb (T i) ∧ 0 ≤ T i ∧ T i ≤ 255
def zTk (A : Nat → Int → Int) (T : Int → Int) (n p : Int) : Prop := A 1 3 = zBg T n p ∧ A 1 4 = zBh T n p ∧ A 1 2 = zKd T n p ∧ A 1 5 = zVl T n p
theorem zTk_bg {A : Nat → Int → Int} {T : Int → Int} {n p : Int} (h : p ≤ n) (hk : zTk A T n p) : zTk A T n (zBg T n p) := by
  have e := zBg_bg (T := T) h
  unfold zTk zBh zKd zVl zWe zDe at hk ⊢
  rw [e]
  exact hk
theorem zU_id {A : Nat → Int → Int} {a : Nat} {i v : Int} (h : A a i = v) : zU A a i v = A := by
  funext c j
  unfold zU
  split
  · next hc => rw [hc.1, hc.2, h]
  · rfl
theorem zTx_u {A A' : Nat → Int → Int} {T : Int → Int} {n : Int} (h : zTx A T n) (h1 : A' 1 1 = A 1 1) (h2 : A' 2 = A 2) : zTx A' T n := by
  unfold zTx
  rw [h1, h2]; exact h
section LEX
variable {ar : Nat → Nat × (Nat → Int32)} {d t : Nat} {K : Nat → Nat → Option Nat} {A : Nat → Int → Int} {O : Nat → Int64}
theorem adv_a {T : Int → Int} {n : Int} : ∀ (m : Nat) (p : Int) (B : Nat → Int → Int), p + m = n → 0 ≤ p → zTx B T n → B 1 4 = p → mGd ar (d) 68 0 [.ref 1] [] (zW K B O t) = mGd ar (d) 68 38 [.ref 1] [] (zW K (zU B 1 4 (zR T n 32 32 p)) O t) := by
  intro m
  induction m with
  | zero =>
    intro p B hm p0 hx h4
    have : p = n := by omega
    obtain ⟨hn, h1, -⟩ := hx
    rw [this, zR_n, zU_id (by omega), i68_0 (by omega) (by omega), if_pos (by omega)]
  | succ m ih =>
    intro p B hm p0 hx h4
    obtain ⟨hn, h1, hi⟩ := hx
    obtain ⟨e, t0, t1⟩ := hi p p0 (by omega)
    rw [i68_0 (by omega) (by omega), if_neg (by omega), i68_11 (by omega) (by rw [h4]; omega), h4, e]
    by_cases hc : T p = 32
    · rw [if_pos hc, i68_25, h4, zR_step (by omega) (by omega), ih (p + 1) (zU B 1 4 (p + 1)) (by omega) (by omega) (zTx_u ⟨hn, h1, hi⟩ (zU_s (by decide)) (zU_r (by decide))) zU_at, zU_uu]
    · rw [if_neg hc, zR_stop (by omega) (fun _ => by omega), zU_id h4]
theorem adv_b {T : Int → Int} {n : Int} : ∀ (m : Nat) (p : Int) (B : Nat → Int → Int), p + m = n → 0 ≤ p → zTx B T n → B 1 4 = p → mGd ar (d) 68 46 [.ref 1] [] (zW K B O t) = mGd ar (d) 68 98 [.ref 1] [] (zW K (zU B 1 4 (zR T n 97 122 p)) O t) := by
  intro m
  induction m with
  | zero =>
    intro p B hm p0 hx h4
    have : p = n := by omega
    obtain ⟨hn, h1, -⟩ := hx
    rw [this, zR_n, zU_id (by omega), i68_46 (by omega) (by omega), if_pos (by omega)]
  | succ m ih =>
    intro p B hm p0 hx h4
    obtain ⟨hn, h1, hi⟩ := hx
    obtain ⟨e, t0, t1⟩ := hi p p0 (by omega)
    rw [i68_46 (by omega) (by omega), if_neg (by omega), i68_57 (by omega) (by rw [h4]; omega), h4, e]
    by_cases hc : T p < 97
    · rw [if_pos hc, zR_stop (by omega) (fun _ => by omega), zU_id h4]
    · rw [if_neg hc, i68_71 (by omega) (by rw [h4]; omega), h4, e]
      by_cases hc2 : 122 < T p
      · rw [if_pos hc2, zR_stop (by omega) (fun _ => by omega), zU_id h4]
      · rw [if_neg hc2, i68_85, h4, zR_step (by omega) (by omega), ih (p + 1) (zU B 1 4 (p + 1)) (by omega) (by omega) (zTx_u ⟨hn, h1, hi⟩ (zU_s (by decide)) (zU_r (by decide))) zU_at, zU_uu]
theorem adv_c {T : Int → Int} {n b : Int} (hb : 0 ≤ b) : ∀ (m k : Nat) (B : Nat → Int → Int), b + k + m = n → zTx B T n → (∀ i, b ≤ i → i < b + k → 48 ≤ T i ∧ T i ≤ 57) → B 1 3 = b → B 1 4 = b + k → B 1 2 = (if k = 0 then 0 else 2) → B 1 5 = zNv T b k → (∀ j, j ≠ 2 → j ≠ 4 → j ≠ 5 → B 1 j = A 1 j) → (∀ c, c ≠ 1 → B c = A c) → ∃ C, mGd ar (d) 68 123 [.ref 1] [] (zW K B O t) = mGd ar (d) 68 229 [.ref 1] [] (zW K C O t) ∧ C 1 4 = zR T n 48 57 (b + k) ∧ C 1 2 = (if zR T n 48 57 (b + k) = b then 0 else 2) ∧ C 1 5 = zNv T b (zR T n 48 57 (b + k) - b).toNat ∧ (∀ j, j ≠ 2 → j ≠ 4 → j ≠ 5 → C 1 j = A 1 j) ∧ (∀ c, c ≠ 1 → C c = A c) := by
  intro m
  have fin : ∀ (k : Nat) (B : Nat → Int → Int), zR T n 48 57 (b + k) = b + k → B 1 4 = b + k → B 1 2 = (if k = 0 then 0 else 2) → B 1 5 = zNv T b k → B 1 4 = zR T n 48 57 (b + k) ∧ B 1 2 = (if zR T n 48 57 (b + k) = b then 0 else 2) ∧ B 1 5 = zNv T b (zR T n 48 57 (b + k) - b).toNat := fun k B e h4 h2 h5 => by
    rw [e]
    refine ⟨h4, ?_, ?_⟩
    · rw [h2]
      by_cases hk : k = 0
      · rw [if_pos hk, if_pos (by omega)]
      · rw [if_neg hk, if_neg (by omega)]
    · rw [h5, show (b + (k : Int) - b).toNat = k by omega]
  induction m with
  | zero =>
    intro k B hm hx hd h3 h4 h2 h5 hj hc
    obtain ⟨hn, h1, hi⟩ := hx
    have hk : b + (k : Int) = n := by omega
    have q := fin k B (by rw [hk]; exact zR_n) h4 h2 h5
    have r2 : B 1 2 = 0 ∨ B 1 2 = 2 := by rw [h2]; split <;> omega
    refine ⟨B, ?_, q.1, q.2.1, q.2.2, hj, hc⟩
    rw [i68_123 (by omega), if_neg (by omega), i68_131 (by omega) (by omega), if_pos (by omega)]
  | succ m ih =>
    intro k B hm hx hd h3 h4 h2 h5 hj hc
    obtain ⟨hn, h1, hi⟩ := hx
    obtain ⟨e, t0, t1⟩ := hi (b + k) (by omega) (by omega)
    have r2 : B 1 2 = 0 ∨ B 1 2 = 2 := by rw [h2]; split <;> omega
    have st : mGd ar (d) 68 123 [.ref 1] [] (zW K B O t) = if T (b + k) < 48 then mGd ar (d) 68 229 [.ref 1] [] (zW K B O t) else mGd ar (d) 68 156 [.ref 1] [] (zW K B O t) := by
      rw [i68_123 (by omega), if_neg (by omega), i68_131 (by omega) (by omega), if_neg (by omega), i68_142 (by omega) (by rw [h4]; omega), h4, e]
    rw [st]
    by_cases c1 : T (b + k) < 48
    · have q := fin k B (zR_stop (by omega) (fun _ => by omega)) h4 h2 h5
      exact ⟨B, by rw [if_pos c1], q.1, q.2.1, q.2.2, hj, hc⟩
    · rw [if_neg c1, i68_156 (by omega) (by rw [h4]; omega), h4, e]
      by_cases c2 : 57 < T (b + k)
      · have q := fin k B (zR_stop (by omega) (fun _ => by omega)) h4 h2 h5
        exact ⟨B, by rw [if_pos c2], q.1, q.2.1, q.2.2, hj, hc⟩
      · have e4 : (zU B 1 2 2) 1 4 = b + k := by rw [zU_s (by decide), h4]
        have e3 : (zU B 1 2 2) 1 3 = b := by rw [zU_s (by decide), h3]
        have e5 : (zU B 1 2 2) 1 5 = zNv T b k := by rw [zU_s (by decide), h5]
        have e2 : (zU B 1 2 2) 2 (b + k) = T (b + k) := by rw [zU_r (by decide), e]
        have st2 : mGd ar (d) 68 170 [.ref 1] [] (zW K B O t) = mGd ar (d) 68 123 [.ref 1] [] (zW K (zU (zU (zU B 1 2 2) 1 5 (zNv T b (k + 1))) 1 4 (b + k + 1)) O t) := by
          rw [i68_170 (by rw [e4, e3]; omega), e4, e3, show zNv T b (k + 1) = if k < 3 then 10 * zNv T b k + T (b + k) - 48 else -1 from rfl]
          by_cases k3 : k < 3
          · rw [if_neg (by omega), if_pos k3, i68_189 (by omega), e4, e5, e2, i68_213, zU_s (by decide), e4]
          · rw [if_pos (by omega), if_neg k3, i68_212, i68_213, zU_s (by decide), e4]
        have hst := zR_step (T := T) (n := n) (lo := 48) (hi := 57) (p := b + k) (by omega) (by omega)
        obtain ⟨C, q⟩ := ih (k + 1) (zU (zU (zU B 1 2 2) 1 5 (zNv T b (k + 1))) 1 4 (b + k + 1)) (by omega) (zTx_u ⟨hn, h1, hi⟩ (by simp (disch := first | assumption | omega) only [zU_at, zU_c, zU_s, zU_r]) (by simp (disch := first | assumption | omega) only [zU_at, zU_c, zU_s, zU_r])) (fun i a1 a2 => by
          by_cases hi : i = b + k
          · rw [hi]; omega
          · exact hd i a1 (by omega)) (by simp (disch := first | assumption | omega) only [h3, zU_at, zU_c, zU_s, zU_r]) (by rw [zU_at]; omega) (by rw [if_neg (by omega)]; simp (disch := first | assumption | omega) only [zU_at, zU_c, zU_s, zU_r]) (by simp (disch := first | assumption | omega) only [zU_at, zU_c, zU_s, zU_r]) (fun j j2 j4 j5 => by rw [zU_s j4, zU_s j5, zU_s j2, hj j j2 j4 j5]) (fun c h => by rw [zU_r h, zU_r h, zU_r h, hc c h])
        rw [show b + ((k + 1 : Nat) : Int) = b + k + 1 by omega, ← hst] at q
        refine ⟨C, ?_, q.2⟩
        rw [if_neg c2, st2, q.1]
theorem c_advance {T : Int → Int} {n p : Int} (hx : zTx A T n) (h4 : A 1 4 = p) (hp : 0 ≤ p ∧ p ≤ n) : ∃ C, mGd ar (d) 68 0 [.ref 1] [] (zW K A O t) = some (.inl none, zW K C O t) ∧ zTk C T n p ∧ zTx C T n ∧ (∀ j, j ≠ 2 → j ≠ 3 → j ≠ 4 → j ≠ 5 → C 1 j = A 1 j) ∧ ∀ c, c ≠ 1 → C c = A c := by
  have hn := hx.1
  have h1 := hx.2.1
  have hb := zBg_rng (T := T) hp.2
  have hw := zWe_rng (T := T) hp.2
  have hd := zDe_rng (T := T) hp.2
  have a1 := adv_a (d := d) (K := K) (O := O) (t := t) (ar := ar) (n - p).toNat p A (by omega) hp.1 hx h4
  have e4 : (zU A 1 4 (zR T n 32 32 p)) 1 4 = zBg T n p := zU_at
  have hx2 : zTx (zU (zU A 1 4 (zBg T n p)) 1 3 (zBg T n p)) T n := zTx_u hx (by simp (disch := first | assumption | omega) only [zU_at, zU_c, zU_s, zU_r]) (by simp (disch := first | assumption | omega) only [zU_at, zU_c, zU_s, zU_r])
  have a2 := adv_b (d := d) (K := K) (O := O) (t := t) (ar := ar) (n - zBg T n p).toNat (zBg T n p) (zU (zU A 1 4 (zBg T n p)) 1 3 (zBg T n p)) (by omega) (by omega) hx2 (by simp (disch := first | assumption | omega) only [zU_at, zU_c, zU_s, zU_r])
  have st : mGd ar (d) 68 0 [.ref 1] [] (zW K A O t) = mGd ar (d) 68 98 [.ref 1] [] (zW K (zU (zU (zU A 1 4 (zBg T n p)) 1 3 (zBg T n p)) 1 4 (zWe T n p)) O t) := by
    rw [a1, i68_38, e4]
    exact a2
  generalize hB : zU (zU (zU A 1 4 (zBg T n p)) 1 3 (zBg T n p)) 1 4 (zWe T n p) = B at st
  have b4 : B 1 4 = zWe T n p := by rw [← hB]; simp (disch := first | assumption | omega) only [zU_at, zU_c, zU_s, zU_r]
  have b3 : B 1 3 = zBg T n p := by rw [← hB]; simp (disch := first | assumption | omega) only [zU_at, zU_c, zU_s, zU_r]
  have bj : ∀ j, j ≠ 3 → j ≠ 4 → B 1 j = A 1 j := fun j j3 j4 => by rw [← hB, zU_s j4, zU_s j3, zU_s j4]
  have bc : ∀ c, c ≠ 1 → B c = A c := fun c h => by rw [← hB, zU_r h, zU_r h, zU_r h]
  rw [st, i68_98 (by omega) (by omega), b4, b3]
  by_cases hW : zBg T n p < zWe T n p
  · rw [if_neg (by omega), i68_110, i68_115]
    have f2 : (zU (zU B 1 2 1) 1 5 0) 1 2 = 1 := by simp (disch := first | assumption | omega) only [zU_at, zU_c, zU_s, zU_r]
    rw [i68_123 (by omega), if_pos f2, i68_229 (by omega), if_neg (by omega), i68_262]
    refine ⟨_, rfl, ⟨?_, ?_, ?_, ?_⟩, zTx_u hx (by rw [zU_s (by decide), zU_s (by decide), bj 1 (by decide) (by decide)]) (by rw [zU_r (by decide), zU_r (by decide), bc 2 (by decide)]), fun j j2 j3 j4 j5 => by rw [zU_s j5, zU_s j2, bj j j3 j4], fun c h => by rw [zU_r h, zU_r h, bc c h]⟩
    · simp (disch := first | assumption | omega) only [b3, zU_at, zU_c, zU_s, zU_r]
    · unfold zBh; rw [if_pos hW]; simp (disch := first | assumption | omega) only [b4, zU_at, zU_c, zU_s, zU_r]
    · unfold zKd; rw [if_pos hW]; simp (disch := first | assumption | omega) only [zU_at, zU_c, zU_s, zU_r]
    · unfold zVl; rw [if_pos hW]; simp (disch := first | assumption | omega) only [zU_at, zU_c, zU_s, zU_r]
  · have we : zWe T n p = zBg T n p := by omega
    rw [if_pos (by omega), i68_114, i68_115]
    have hx3 : zTx (zU (zU B 1 2 0) 1 5 0) T n := zTx_u hx (by rw [zU_s (by decide), zU_s (by decide), bj 1 (by decide) (by decide)]) (by rw [zU_r (by decide), zU_r (by decide), bc 2 (by decide)])
    obtain ⟨C, q1, q2, q3, q4, q5, q6⟩ := adv_c (d := d) (K := K) (O := O) (t := t) (ar := ar) (A := zU (zU B 1 2 0) 1 5 0) (T := T) (n := n) (b := zBg T n p) (by omega) (n - zBg T n p).toNat 0 (zU (zU B 1 2 0) 1 5 0) (by omega) hx3 (fun i a1 a2 => by omega) (by simp (disch := first | assumption | omega) only [b3, zU_at, zU_c, zU_s, zU_r]) (by rw [zU_s (by decide), zU_s (by decide), b4]; omega) (by rw [if_pos rfl]; simp (disch := first | assumption | omega) only [zU_at, zU_c, zU_s, zU_r]) (by simp (disch := first | assumption | omega) only [zU_at, zU_c, zU_s, zU_r]; rfl) (fun _ _ _ _ => rfl) (fun _ _ => rfl)
    rw [show zBg T n p + ((0 : Nat) : Int) = zBg T n p by omega] at q2 q3 q4
    have hde : zR T n 48 57 (zBg T n p) = zDe T n p := rfl
    rw [hde] at q2 q3 q4
    have c3 : C 1 3 = zBg T n p := by rw [q5 3 (by decide) (by decide) (by decide)]; simp (disch := first | assumption | omega) only [b3, zU_at, zU_c, zU_s, zU_r]
    have c1 : C 1 1 = n := by rw [q5 1 (by decide) (by decide) (by decide), zU_s (by decide), zU_s (by decide), bj 1 (by decide) (by decide), h1]
    have cj : ∀ j, j ≠ 2 → j ≠ 3 → j ≠ 4 → j ≠ 5 → C 1 j = A 1 j := fun j j2 j3 j4 j5 => by rw [q5 j j2 j4 j5, zU_s j5, zU_s j2, bj j j3 j4]
    have cc : ∀ c, c ≠ 1 → C c = A c := fun c h => by rw [q6 c h, zU_r h, zU_r h, bc c h]
    rw [q1]
    by_cases hD : zBg T n p < zDe T n p
    · rw [if_neg (by omega)] at q3
      rw [i68_229 (by omega), if_neg (by omega), i68_262]
      refine ⟨C, rfl, ⟨c3, ?_, ?_, ?_⟩, zTx_u hx (by rw [c1, h1]) (cc 2 (by decide)), cj, cc⟩
      · unfold zBh; rw [if_neg hW, if_pos hD, q2]
      · unfold zKd; rw [if_neg hW, if_pos hD, q3]
      · unfold zVl; rw [if_neg hW, q4]
    · have de : zDe T n p = zBg T n p := by omega
      rw [if_pos de] at q3
      rw [i68_229 (by omega), if_pos q3, i68_236 (by omega) (by omega)]
      by_cases hE : zBg T n p < n
      · rw [if_neg (by omega), i68_247, i68_262]
        refine ⟨_, rfl, ⟨?_, ?_, ?_, ?_⟩, zTx_u hx (by rw [zU_s (by decide), zU_s (by decide), c1, h1]) (by rw [zU_r (by decide), zU_r (by decide), cc 2 (by decide)]), fun j j2 j3 j4 j5 => by rw [zU_s j4, zU_s j2, cj j j2 j3 j4 j5], fun c h => by rw [zU_r h, zU_r h, cc c h]⟩
        · simp (disch := first | assumption | omega) only [c3, zU_at, zU_c, zU_s, zU_r]
        · unfold zBh; rw [if_neg hW, if_neg hD, if_pos hE, zU_at, zU_s (by decide), q2, de]
        · unfold zKd; rw [if_neg hW, if_neg hD, if_pos hE]; simp (disch := first | assumption | omega) only [zU_at, zU_c, zU_s, zU_r]
        · unfold zVl; rw [if_neg hW, ← q4]; simp (disch := first | assumption | omega) only [zU_at, zU_c, zU_s, zU_r]
      · rw [if_pos (by omega), i68_262]
        refine ⟨C, rfl, ⟨c3, ?_, ?_, ?_⟩, zTx_u hx (by rw [c1, h1]) (cc 2 (by decide)), cj, cc⟩
        · unfold zBh; rw [if_neg hW, if_neg hD, if_neg hE, q2, de]
        · unfold zKd; rw [if_neg hW, if_neg hD, if_neg hE, q3]
        · unfold zVl; rw [if_neg hW, q4]
end LEX
