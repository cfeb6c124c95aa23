/-! TEXTS, 3: words, signs, numbers: the class -/
def zMt (T : Int → Int) : Int → List Int → Prop
  | _, [] => True
  | p, c :: r => T p = c ∧ zMt T (p + 1) r
/-- the word at p is w -/
def zIw (T : Int → Int) (n p : Int) (w : List Int) : Prop := zWe T n p = zBg T n p + w.length ∧ zMt T (zBg T n p) w
def zIs (T : Int → Int) (n p : Int) (s : Nat) : Prop := zIw T n p (zSs s)
/-- which word of a list: by ways of the class -/
noncomputable def zWa (T : Int → Int) (b e : Int) : List Int → Int → Int → Prop → Int
  | [], wh, pl, sm => @ite Int (sm ∧ pl = e) (Classical.propDecidable _) wh (-1)
  | c :: r, wh, pl, sm => if c = 32 then @ite Int (sm ∧ pl = e) (Classical.propDecidable _) wh (zWa T b e r (wh + 1) b True) else zWa T b e r wh (pl + 1) (sm ∧ pl < e ∧ T pl = c)
theorem zWa_congr {T : Int → Int} {b e : Int} : ∀ {r : List Int} {wh pl : Int} {sm sm' : Prop}, (sm ↔ sm') → zWa T b e r wh pl sm = zWa T b e r wh pl sm'
  | r, wh, pl, sm, sm', h => by rw [propext h]
theorem zWa_word {T : Int → Int} {b e : Int} : ∀ {w r : List Int} {wh pl : Int} {sm : Prop}, (∀ c ∈ w, c ≠ 32) → zWa T b e (w ++ r) wh pl sm = zWa T b e r wh (pl + w.length) (sm ∧ pl + w.length ≤ max e pl ∧ zMt T pl w)
  | [], r, wh, pl, sm, _ => by
    rw [List.nil_append, show pl + (([] : List Int).length : Int) = pl by simp]
    refine zWa_congr ⟨fun h => ⟨h, by omega, trivial⟩, fun h => h.1⟩
  | c :: w, r, wh, pl, sm, h => by
    have hc : c ≠ 32 := h c (by simp)
    rw [List.cons_append, show zWa T b e (c :: (w ++ r)) wh pl sm = if c = 32 then @ite Int (sm ∧ pl = e) (Classical.propDecidable _) wh (zWa T b e (w ++ r) (wh + 1) b True) else zWa T b e (w ++ r) wh (pl + 1) (sm ∧ pl < e ∧ T pl = c) from rfl, if_neg hc, zWa_word (fun x hx => h x (by simp [hx]))]
    rw [show pl + 1 + (w.length : Int) = pl + ((c :: w).length : Int) by simp; omega]
    refine zWa_congr ⟨fun q => ⟨q.1.1, ?_, q.1.2.2, q.2.2⟩, fun q => ⟨⟨q.1, ?_, q.2.2.1⟩, ?_, q.2.2.2⟩⟩
    · have := q.1.2.1; have := q.2.1; omega
    · have := q.2.1; have : ((c :: w).length : Int) = w.length + 1 := by simp
      omega
    · have := q.2.1; have : ((c :: w).length : Int) = w.length + 1 := by simp
      omega
theorem zWa_next {T : Int → Int} {n p : Int} (hp : p ≤ n) {w r : List Int} {wh : Int} (h : ∀ c ∈ w, c ≠ 32) (hn : w ≠ []) : zWa T (zBg T n p) (zWe T n p) (w ++ 32 :: r) wh (zBg T n p) True = @ite Int (zIw T n p w) (Classical.propDecidable _) wh (zWa T (zBg T n p) (zWe T n p) r (wh + 1) (zBg T n p) True) := by
  have hw := zWe_rng (T := T) hp
  rw [zWa_word h, show ∀ pl sm, zWa T (zBg T n p) (zWe T n p) (32 :: r) wh pl sm = if (32 : Int) = 32 then @ite Int (sm ∧ pl = zWe T n p) (Classical.propDecidable _) wh (zWa T (zBg T n p) (zWe T n p) r (wh + 1) (zBg T n p) True) else zWa T (zBg T n p) (zWe T n p) r wh (pl + 1) (sm ∧ pl < zWe T n p ∧ T pl = 32) from fun _ _ => rfl, if_pos rfl]
  by_cases hi : zIw T n p w
  · rw [if_pos hi, if_pos ⟨⟨trivial, by have := hi.1; omega, hi.2⟩, hi.1.symm⟩]
  · rw [if_neg hi, if_neg (fun q => hi ⟨q.2.symm, q.1.2.2⟩)]
theorem zWa_last {T : Int → Int} {n p : Int} (hp : p ≤ n) {w : List Int} {wh : Int} (h : ∀ c ∈ w, c ≠ 32) : zWa T (zBg T n p) (zWe T n p) w wh (zBg T n p) True = @ite Int (zIw T n p w) (Classical.propDecidable _) wh (-1) := by
  have hw := zWe_rng (T := T) hp
  have e := zWa_word (T := T) (b := zBg T n p) (e := zWe T n p) (w := w) (r := []) (wh := wh) (pl := zBg T n p) (sm := True) h
  rw [List.append_nil] at e
  rw [e, show ∀ pl sm, zWa T (zBg T n p) (zWe T n p) [] wh pl sm = @ite Int (sm ∧ pl = zWe T n p) (Classical.propDecidable _) wh (-1) from fun _ _ => rfl]
  by_cases hi : zIw T n p w
  · rw [if_pos hi, if_pos ⟨⟨trivial, by have := hi.1; omega, hi.2⟩, hi.1.symm⟩]
  · rw [if_neg hi, if_neg (fun q => hi ⟨q.2.symm, q.1.2.2⟩)]
/-- the first of some words -/
noncomputable def zFi (T : Int → Int) (n p : Int) : List Nat → Int → Int
  | [], _ => -1
  | s :: r, k => @ite Int (zIs T n p s) (Classical.propDecidable _) k (zFi T n p r (k + 1))
def zJw : List Nat → List Int
  | [] => []
  | [s] => zSs s
  | s :: r => zSs s ++ 32 :: zJw r
theorem zWa_fi {T : Int → Int} {n p : Int} (hp : p ≤ n) : ∀ {L : List Nat} {k : Int}, L ≠ [] → (∀ s ∈ L, (∀ c ∈ zSs s, c ≠ 32) ∧ zSs s ≠ []) → zWa T (zBg T n p) (zWe T n p) (zJw L) k (zBg T n p) True = zFi T n p L k
  | [], _, h, _ => absurd rfl h
  | [s], k, _, h => zWa_last hp (h s (by simp)).1
  | s :: s' :: r, k, _, h => by
    have h1 := h s (by simp)
    rw [show zJw (s :: s' :: r) = zSs s ++ 32 :: zJw (s' :: r) from rfl, zWa_next hp h1.1 h1.2, zWa_fi hp (by simp) (fun x hx => h x (List.mem_cons_of_mem _ hx))]
    rfl
theorem zWd_tab : ∀ s : Fin 31, 9 ≤ s.val → (∀ c ∈ zSs s.val, c ≠ 32) ∧ zSs s.val ≠ [] := by decide +kernel
theorem zJw_tab : zSs 0 = zJw [9, 10, 11, 12, 13, 14] ∧ zSs 1 = zJw [15] ∧ zSs 2 = zJw [16, 17, 18] ∧ zSs 3 = zJw [19] ∧ zSs 4 = zJw [20] ∧ zSs 5 = zJw [21] ∧ zSs 6 = zJw [22] ∧ zSs 7 = zJw [23, 24] ∧ zSs 8 = zJw [25, 26, 27, 28, 29, 30] := by decide +kernel
theorem zIs_kd {T : Int → Int} {n p : Int} (hp : p ≤ n) {s : Nat} (h9 : 9 ≤ s ∧ s < 31) (h : zIs T n p s) : zBg T n p < zWe T n p := by
  have h1 := (zWd_tab ⟨s, h9.2⟩ h9.1).2
  have h2 : 0 < (zSs s).length := List.length_pos_iff.mpr h1
  have := h.1
  omega
theorem zFi_no {T : Int → Int} {n p : Int} (hp : p ≤ n) (hk : ¬ zBg T n p < zWe T n p) : ∀ {L : List Nat} {k : Int}, (∀ s ∈ L, 9 ≤ s ∧ s < 31) → zFi T n p L k = -1
  | [], _, _ => rfl
  | s :: r, k, h => by
    rw [show zFi T n p (s :: r) k = @ite Int (zIs T n p s) (Classical.propDecidable _) k (zFi T n p r (k + 1)) from rfl, if_neg (fun q => hk (zIs_kd hp (h s (by simp)) q)), zFi_no hp hk (fun x hx => h x (List.mem_cons_of_mem _ hx))]
theorem zFi_rng {T : Int → Int} {n p : Int} : ∀ {L : List Nat} {k : Int}, zFi T n p L k = -1 ∨ (k ≤ zFi T n p L k ∧ zFi T n p L k < k + L.length)
  | [], _ => Or.inl rfl
  | s :: r, k => by
    rw [show zFi T n p (s :: r) k = @ite Int (zIs T n p s) (Classical.propDecidable _) k (zFi T n p r (k + 1)) from rfl, List.length_cons]
    have := zFi_rng (T := T) (n := n) (p := p) (L := r) (k := k + 1)
    by_cases h : zIs T n p s
    · rw [if_pos h]; omega
    · rw [if_neg h]; omega
/-- a sign; a number -/
def zSi (T : Int → Int) (n p c : Int) : Prop := zBg T n p < n ∧ T (zBg T n p) = c
def zNm (T : Int → Int) (n p lo hi : Int) : Prop := zKd T n p = 2 ∧ lo ≤ zVl T n p ∧ zVl T n p ≤ hi
theorem zSi_kd {T : Int → Int} {n p c : Int} (hp : p ≤ n) (hc : ¬ (97 ≤ c ∧ c ≤ 122) ∧ ¬ (48 ≤ c ∧ c ≤ 57)) (h : zSi T n p c) : zKd T n p = 3 ∧ zBh T n p = zBg T n p + 1 := by
  have hb := zBg_rng (T := T) hp
  obtain ⟨h1, h2⟩ := h
  have w : zWe T n p = zBg T n p := zR_stop hb.2 (fun _ => by rw [h2]; exact hc.1)
  have e : zDe T n p = zBg T n p := zR_stop hb.2 (fun _ => by rw [h2]; exact hc.2)
  unfold zKd zBh
  rw [if_neg (by omega), if_neg (by omega), if_pos h1, if_neg (by omega), if_neg (by omega), if_pos h1]
  exact ⟨rfl, rfl⟩
section WORD
variable {ar : Nat → Nat × (Nat → Int32)} {d t : Nat} {K : Nat → Nat → Option Nat} {A : Nat → Int → Int} {O : Nat → Int64}
theorem zKd_rng {T : Int → Int} {n p : Int} : 0 ≤ zKd T n p ∧ zKd T n p ≤ 3 := by
  unfold zKd
  repeat' split
  all_goals omega
theorem c_isEnd {T : Int → Int} {n p : Int} (hk : zTk A T n p) : ∃ r, mGd ar (d) 69 0 [.ref 1] [] (zW K A O t) = some (.inl (some (.int (zI r))), zW K A O t) ∧ (r = 0 ∨ r = 1) ∧ (r = 1 ↔ zKd T n p = 0) := by
  have h2 := hk.2.2.1
  have hr := zKd_rng (T := T) (n := n) (p := p)
  by_cases h : zKd T n p = 0
  · exact ⟨1, by rw [i69_0 (by omega), if_pos (by omega), i69_7, i69_12 (by omega)], by omega, by omega⟩
  · exact ⟨0, by rw [i69_0 (by omega), if_neg (by omega), i69_11, i69_12 (by omega)], by omega, by omega⟩
theorem c_isSign {T : Int → Int} {n p c : Int} (hx : zTx A T n) (hk : zTk A T n p) (hp : 0 ≤ p ∧ p ≤ n) (hc : (¬ (97 ≤ c ∧ c ≤ 122) ∧ ¬ (48 ≤ c ∧ c ≤ 57)) ∧ 0 ≤ c ∧ c < 128) : ∃ r, mGd ar (d) 96 0 [.ref 1, .int (zI c)] [] (zW K A O t) = some (.inl (some (.int (zI r))), zW K A O t) ∧ (r = 0 ∨ r = 1) ∧ (r = 1 ↔ zSi T n p c) := by
  obtain ⟨h3, h4, h2, h5⟩ := hk
  obtain ⟨hn, h1, hi⟩ := hx
  have hb := zBg_rng (T := T) hp.2
  have hr := zKd_rng (T := T) (n := n) (p := p)
  by_cases hs : zSi T n p c
  · have q := zSi_kd hp.2 hc.1 hs
    obtain ⟨e, t0, t1⟩ := hi (zBg T n p) (by omega) hs.1
    refine ⟨1, ?_, by omega, ⟨fun _ => hs, fun _ => rfl⟩⟩
    rw [i96_0 (by omega), if_pos (by omega), i96_8 (by omega) (by omega), if_neg (by have := hs.1; omega), i96_19 (by have := hs.1; omega) (by rw [h3]; omega) (by omega), h3, e, if_pos hs.2, i96_32, i96_37 (by omega)]
  · refine ⟨0, ?_, by omega, ⟨fun h => by omega, fun h => absurd h hs⟩⟩
    rw [i96_0 (by omega)]
    by_cases k3 : zKd T n p = 3
    · rw [if_pos (by omega), i96_8 (by omega) (by omega)]
      by_cases hl : zBg T n p < n
      · obtain ⟨e, t0, t1⟩ := hi (zBg T n p) (by omega) hl
        rw [if_neg (by omega), i96_19 (by omega) (by rw [h3]; omega) (by omega), h3, e, if_neg (fun q => hs ⟨hl, q⟩), i96_36, i96_37 (by omega)]
      · rw [if_pos (by omega), i96_36, i96_37 (by omega)]
    · rw [if_neg (by omega), i96_36, i96_37 (by omega)]
theorem c_isNumber {T : Int → Int} {n p lo hi : Int} (hk : zTk A T n p) (hp : p ≤ n) (hl : (-1000 ≤ lo ∧ lo ≤ 1000) ∧ -1000 ≤ hi ∧ hi ≤ 1000) : ∃ r, mGd ar (d) 82 0 [.ref 1, .int (zI lo), .int (zI hi)] [] (zW K A O t) = some (.inl (some (.int (zI r))), zW K A O t) ∧ (r = 0 ∨ r = 1) ∧ (r = 1 ↔ zNm T n p lo hi) := by
  obtain ⟨h3, h4, h2, h5⟩ := hk
  have hv := zVl_rng (T := T) hp
  have hr := zKd_rng (T := T) (n := n) (p := p)
  unfold zNm
  rw [i82_0 (by omega), h2]
  by_cases k2 : zKd T n p = 2
  · rw [if_pos k2, i82_8 (by omega) (by omega), h5]
    by_cases c1 : zVl T n p < lo
    · exact ⟨0, by rw [if_pos c1, i82_28, i82_29 (by omega)], by omega, by omega⟩
    · rw [if_neg c1, i82_16 (by omega) (by omega), h5]
      by_cases c2 : hi < zVl T n p
      · exact ⟨0, by rw [if_pos c2, i82_28, i82_29 (by omega)], by omega, by omega⟩
      · exact ⟨1, by rw [if_neg c2, i82_24, i82_29 (by omega)], by omega, by omega⟩
  · exact ⟨0, by rw [if_neg k2, i82_28, i82_29 (by omega)], by omega, by omega⟩
theorem among_loop (hS : zArs ar) {T : Int → Int} {n p : Int} {s : Nat} (hs : s < 31) (hx : zTx A T n) (hk : zTk A T n p) (hp : 0 ≤ p ∧ p ≤ n) (hw : zBg T n p < zWe T n p) : ∀ (m i : Nat) (wh pl sm : Int) (v6 : Value), i + m = (zSs s).length → (sm = 0 ∨ sm = 1) → (zBg T n p ≤ pl ∧ pl ≤ zBg T n p + i) → (-1 ≤ wh ∧ wh ≤ i) → mGd ar (d + 4) 71 23 [.ref 1, .retAddr s, .int (zI wh), .int (zI pl), .int (zI sm), .int (zI ((i : Int))), v6] [] (zW K A O t) = some (.inl (some (.int (zI (zWa T (zBg T n p) (zWe T n p) ((zSs s).drop i) wh pl (sm = 1))))), zW K A O t) := by
  intro m
  obtain ⟨h3, h4, h2, h5⟩ := hk
  obtain ⟨hn, h1, hi⟩ := hx
  have hb := zBg_rng (T := T) hp.2
  have hwe := zWe_rng (T := T) hp.2
  have hbh : zBh T n p = zWe T n p := by unfold zBh; rw [if_pos hw]
  have hl40 : (zSs s).length ≤ 40 := by rw [zSs_len]; exact (zSs_tab ⟨s, hs⟩).1
  have hln := i72_0 (d := d + 2) (w := zW K A O t) hS hs
  induction m with
  | zero =>
    intro i wh pl sm v6 hm hsm hpl hwh
    have hd : (zSs s).drop i = [] := List.drop_eq_nil_of_le (by omega)
    rw [hd, i71_23 (by omega) hs, hln, mB1n_i, i71_29 (by omega) (by omega), if_pos (by omega), i71_116 (by omega), show zWa T (zBg T n p) (zWe T n p) [] wh pl (sm = 1) = @ite Int (sm = 1 ∧ pl = zWe T n p) (Classical.propDecidable _) wh (-1) from rfl]
    by_cases c1 : sm = 0
    · rw [if_pos c1, i71_133, i71_134, if_neg (by omega)]
    · rw [if_neg c1, i71_121 (by omega) (by omega), h4, hbh]
      by_cases c2 : pl = zWe T n p
      · rw [if_pos c2, i71_129, i71_134, if_pos (by omega)]
      · rw [if_neg c2, i71_133, i71_134, if_neg (by omega)]
  | succ m ih =>
    intro i wh pl sm v6 hm hsm hpl hwh
    have hil : i < (zSs s).length := by omega
    have hd : (zSs s).drop i = (zSs s).getD i 0 :: (zSs s).drop (i + 1) := by
      rw [List.drop_eq_getElem_cons hil, List.getD_eq_getElem?_getD, List.getElem?_eq_getElem hil]
      rfl
    have hch := i74_0 (d := d) (K := K) (O := O) (t := t) (A := A) hS hs (i := (i : Int)) (by omega)
    rw [show ((i : Int)).toNat = i by omega] at hch
    have hcr := ((zSs_tab ⟨s, hs⟩).2.2 ⟨i, by omega⟩).2
    have hcr : 0 ≤ (zSs s).getD i 0 ∧ (zSs s).getD i 0 < 128 := hcr
    rw [hd]
    generalize (zSs s).getD i 0 = c at hch hcr
    rw [i71_23 (by omega) hs, hln, mB1n_i, i71_29 (by omega) (by omega), if_neg (by omega), i71_32 (by omega) hs, hch, mB1n_i, i71_38 (by omega), show zWa T (zBg T n p) (zWe T n p) (c :: (zSs s).drop (i + 1)) wh pl (sm = 1) = if c = 32 then @ite Int (sm = 1 ∧ pl = zWe T n p) (Classical.propDecidable _) wh (zWa T (zBg T n p) (zWe T n p) ((zSs s).drop (i + 1)) (wh + 1) (zBg T n p) True) else zWa T (zBg T n p) (zWe T n p) ((zSs s).drop (i + 1)) wh (pl + 1) (sm = 1 ∧ pl < zWe T n p ∧ T pl = c) from rfl]
    by_cases c32 : c = 32
    · rw [if_pos c32, if_pos c32, i71_84 (by omega)]
      have nx : mGd ar (d + 4) 71 99 [.ref 1, .retAddr s, .int (zI wh), .int (zI pl), .int (zI sm), .int (zI ((i : Int))), .int (zI c)] [] (zW K A O t) = some (.inl (some (.int (zI (zWa T (zBg T n p) (zWe T n p) ((zSs s).drop (i + 1)) (wh + 1) (zBg T n p) True)))), zW K A O t) := by
        rw [i71_99, i71_110, h3]
        have q := ih (i + 1) (wh + 1) (zBg T n p) 1 (.int (zI c)) (by omega) (by omega) (by omega) (by omega)
        rw [show ((i + 1 : Nat) : Int) = (i : Int) + 1 by omega, zWa_congr (show ((1 : Int) = 1) ↔ True by simp)] at q
        exact q
      by_cases c1 : sm = 0
      · rw [if_pos c1, if_neg (by omega), nx]
      · rw [if_neg c1, i71_89 (by omega) (by omega), h4, hbh]
        by_cases c2 : pl = zWe T n p
        · rw [if_pos c2, i71_97, if_pos (by omega)]
        · rw [if_neg c2, if_neg (by omega), nx]
    · rw [if_neg c32, if_neg c32, i71_47 (by omega)]
      have nx : ∀ z : Int, (z = 0 ∨ z = 1) → (z = 1 ↔ sm = 1 ∧ pl < zWe T n p ∧ T pl = c) → mGd ar (d + 4) 71 76 [.ref 1, .retAddr s, .int (zI wh), .int (zI pl), .int (zI sm), .int (zI ((i : Int))), .int (zI c)] [.int (zI z)] (zW K A O t) = some (.inl (some (.int (zI (zWa T (zBg T n p) (zWe T n p) ((zSs s).drop (i + 1)) wh (pl + 1) (sm = 1 ∧ pl < zWe T n p ∧ T pl = c))))), zW K A O t) := fun z hz hz2 => by
        rw [i71_76, i71_110]
        have q := ih (i + 1) wh (pl + 1) z (.int (zI c)) (by omega) hz (by omega) (by omega)
        rw [show ((i + 1 : Nat) : Int) = (i : Int) + 1 by omega, zWa_congr hz2] at q
        exact q
      by_cases c1 : sm = 0
      · rw [if_pos c1, i71_75]
        exact nx 0 (by omega) ⟨fun q => by omega, fun q => by omega⟩
      · rw [if_neg c1, i71_52 (by omega) (by omega), h4, hbh]
        by_cases c2 : zWe T n p ≤ pl
        · rw [if_pos c2, i71_75]
          exact nx 0 (by omega) ⟨fun q => by omega, fun q => by omega⟩
        · obtain ⟨e, t0, t1⟩ := hi pl (by omega) (by omega)
          rw [if_neg c2, i71_60 (by omega) (by omega) (by omega), e]
          by_cases c3 : T pl = c
          · rw [if_pos c3, i71_71]
            exact nx 1 (by omega) ⟨fun q => ⟨by omega, by omega, c3⟩, fun q => rfl⟩
          · rw [if_neg c3, i71_75]
            exact nx 0 (by omega) ⟨fun q => by omega, fun q => absurd q.2.2 c3⟩
theorem c_among (hS : zArs ar) {T : Int → Int} {n p : Int} {s : Nat} (hs : s < 31) {L : List Nat} (hL : zSs s = zJw L) (hne : L ≠ []) (h9 : ∀ x ∈ L, 9 ≤ x ∧ x < 31) (hx : zTx A T n) (hk : zTk A T n p) (hp : 0 ≤ p ∧ p ≤ n) : mGd ar (d + 4) 71 0 [.ref 1, .retAddr s, .double 0, .double 0, .double 0, .double 0, .double 0] [] (zW K A O t) = some (.inl (some (.int (zI (zFi T n p L 0)))), zW K A O t) := by
  have h2 := hk.2.2.1
  have hr := zKd_rng (T := T) (n := n) (p := p)
  rw [i71_0 (by omega), h2]
  by_cases hw : zBg T n p < zWe T n p
  · have k1 : zKd T n p = 1 := by unfold zKd; rw [if_pos hw]
    rw [if_pos k1, i71_10, hk.1]
    have q := among_loop (d := d) (K := K) (O := O) (t := t) (ar := ar) hS hs hx hk hp hw (zSs s).length 0 0 (zBg T n p) 1 (.double 0) (by omega) (by omega) (by omega) (by omega)
    rw [List.drop_zero, zWa_congr (show ((1 : Int) = 1) ↔ True by simp), hL, zWa_fi hp.2 hne (fun x hx => zWd_tab ⟨x, (h9 x hx).2⟩ (h9 x hx).1)] at q
    exact q
  · have k1 : ¬ zKd T n p = 1 := by
      unfold zKd; rw [if_neg hw]
      repeat' split
      all_goals omega
    rw [if_neg k1, i71_8, zFi_no hp.2 hw h9]
theorem c_isWord (hS : zArs ar) {T : Int → Int} {n p : Int} {s s' : Nat} (hs : s < 31) (hL : zSs s = zJw [s']) (h9 : 9 ≤ s' ∧ s' < 31) (hx : zTx A T n) (hk : zTk A T n p) (hp : 0 ≤ p ∧ p ≤ n) : ∃ r, mGd ar (d + 5) 83 0 [.ref 1, .retAddr s] [] (zW K A O t) = some (.inl (some (.int (zI r))), zW K A O t) ∧ (r = 0 ∨ r = 1) ∧ (r = 1 ↔ zIs T n p s') := by
  have q := c_among (d := d) (K := K) (O := O) (t := t) (ar := ar) hS hs hL (by simp) (fun x hx => by
    have : x = s' := by simpa using hx
    rw [this]; exact h9) hx hk hp
  rw [show zFi T n p [s'] 0 = @ite Int (zIs T n p s') (Classical.propDecidable _) 0 (-1) from rfl] at q
  by_cases h : zIs T n p s'
  · rw [if_pos h] at q
    exact ⟨1, by rw [i83_0 (by omega), q, mB1_i, i83_5 (by omega), if_pos rfl, i83_8, i83_13 (by omega)], by omega, ⟨fun _ => h, fun _ => rfl⟩⟩
  · rw [if_neg h] at q
    exact ⟨0, by rw [i83_0 (by omega), q, mB1_i, i83_5 (by omega), if_neg (by omega), i83_12, i83_13 (by omega)], by omega, ⟨fun q => by omega, fun q => absurd q h⟩⟩
end WORD
