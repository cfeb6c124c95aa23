/-! THE LAW, 4: its switch and its loop (by program: wip/gen/gen31.py) -/
theorem zTf {x : Int} : (if x = 0 then (0 : Int) else 1) = 0 ∨ (if x = 0 then (0 : Int) else 1) = 1 := by
  by_cases h : x = 0
  · left; rw [if_pos h]
  · right; rw [if_neg h]
theorem zt_in {x df lo hi : Int} {offs : Array Int} {pc : Nat} (hx : -2147483648 ≤ x ∧ x < 2147483648) (h : lo ≤ x ∧ x ≤ hi) : mTsp (zI x) df lo hi offs pc = (offs[(x - lo).toNat]?).map fun off => ((pc : Int) + off).toNat := by
  unfold mTsp
  rw [toInt_zI hx, if_neg (by omega)]
section LOOP
variable {ar : Nat → Nat × (Nat → Int32)} {d t : Nat} {K : Nat → Nat → Option Nat} {A : Nat → Int → Int} {O : Nat → Int64} {i : Int} {u5 u6 : Value}
theorem nx_feed (hK : mKok K) (hS : zArs ar) (hI : zInv A) (hL : (ar 150).1 ≤ 3072) (hi : 0 ≤ i ∧ i + 6 ≤ ((ar 150).1 : Int)) : zNext ar K (d + 66) i u5 u6 A O t 252 := cs_feed hL hi (zQ_dp (q_feed (d := 0) hI zScr_r zScr_r zScr_r zScr_r zScr_r) (by omega))
theorem nx_end (hK : mKok K) (hS : zArs ar) (hI : zInv A) (hL : (ar 150).1 ≤ 3072) (hi : 0 ≤ i ∧ i + 6 ≤ ((ar 150).1 : Int)) : zNext ar K (d + 66) i u5 u6 A O t 325 := cs_end hL hi (zQ_dp (q_end (d := 0) hI zScr_r) (by omega))
theorem nx_hall (hK : mKok K) (hS : zArs ar) (hI : zInv A) (hL : (ar 150).1 ≤ 3072) (hi : 0 ≤ i ∧ i + 6 ≤ ((ar 150).1 : Int)) : zNext ar K (d + 66) i u5 u6 A O t 350 := cs_hall hL hi (W_hall (zQ_dp (q_hall (d := 0) hS hI) (by omega)))
theorem nx_law (hK : mKok K) (hS : zArs ar) (hI : zInv A) (hL : (ar 150).1 ≤ 3072) (hi : 0 ≤ i ∧ i + 6 ≤ ((ar 150).1 : Int)) : zNext ar K (d + 66) i u5 u6 A O t 394 := cs_law hL hi (W_law (zQ_dp (q_law (d := 0) hS hI) (by omega)))
theorem nx_fault (hK : mKok K) (hS : zArs ar) (hI : zInv A) (hL : (ar 150).1 ≤ 3072) (hi : 0 ≤ i ∧ i + 6 ≤ ((ar 150).1 : Int)) : zNext ar K (d + 66) i u5 u6 A O t 438 := cs_fault hL hi (zQ_dp (q_fault (d := 0) hI) (by omega))
theorem nx_number (hK : mKok K) (hS : zArs ar) (hI : zInv A) (hL : (ar 150).1 ≤ 3072) (hi : 0 ≤ i ∧ i + 6 ≤ ((ar 150).1 : Int)) : zNext ar K (d + 66) i u5 u6 A O t 451 := cs_number hL hi (W_number (zQ_dp (q_number (d := 0) hI zScr_r zScr_r) (by omega)))
theorem nx_person (hK : mKok K) (hS : zArs ar) (hI : zInv A) (hL : (ar 150).1 ≤ 3072) (hi : 0 ≤ i ∧ i + 6 ≤ ((ar 150).1 : Int)) : zNext ar K (d + 66) i u5 u6 A O t 519 := cs_person hL hi (W_person (zQ_dp (q_person (d := 0) hI zScr_r zScr_r) (by omega)))
theorem nx_man (hK : mKok K) (hS : zArs ar) (hI : zInv A) (hL : (ar 150).1 ≤ 3072) (hi : 0 ≤ i ∧ i + 6 ≤ ((ar 150).1 : Int)) : zNext ar K (d + 66) i u5 u6 A O t 587 := cs_man hL hi (W_man (zQ_dp (q_man (d := 0) hI zScr_r) (by omega)))
theorem nx_middle (hK : mKok K) (hS : zArs ar) (hI : zInv A) (hL : (ar 150).1 ≤ 3072) (hi : 0 ≤ i ∧ i + 6 ≤ ((ar 150).1 : Int)) : zNext ar K (d + 66) i u5 u6 A O t 643 := cs_middle hL hi (W_middle (zQ_dp (q_middle (d := 0) hI zScr_r zScr_r) (by omega)))
theorem nx_goes (hK : mKok K) (hS : zArs ar) (hI : zInv A) (hL : (ar 150).1 ≤ 3072) (hi : 0 ≤ i ∧ i + 6 ≤ ((ar 150).1 : Int)) : zNext ar K (d + 66) i u5 u6 A O t 711 := cs_goes hL hi (W_goes (zQ_dp (q_goes (d := 0) hI zScr_r zScr_r) (by omega)))
theorem nx_tell (hK : mKok K) (hS : zArs ar) (hI : zInv A) (hL : (ar 150).1 ≤ 3072) (hi : 0 ≤ i ∧ i + 6 ≤ ((ar 150).1 : Int)) : zNext ar K (d + 66) i u5 u6 A O t 779 := cs_tell hL hi (W_tell (zQ_dp (q_tell (d := 0) hK hI zScr_r zScr_r zScr_r) (by omega)))
theorem nx_rule (hK : mKok K) (hS : zArs ar) (hI : zInv A) (hL : (ar 150).1 ≤ 3072) (hi : 0 ≤ i ∧ i + 6 ≤ ((ar 150).1 : Int)) : zNext ar K (d + 66) i u5 u6 A O t 859 := cs_rule hL hi (W_rule (zQ_dp (q_rule (d := 0) hK hI zScr_r zScr_r) (by omega)))
theorem nx_stubborn (hK : mKok K) (hS : zArs ar) (hI : zInv A) (hL : (ar 150).1 ≤ 3072) (hi : 0 ≤ i ∧ i + 6 ≤ ((ar 150).1 : Int)) : zNext ar K (d + 66) i u5 u6 A O t 927 := cs_stubborn hL hi (W_stubborn (zQ_dp (q_stubborn (d := 0) hK hI zScr_r zTf) (by omega)))
theorem nx_leave (hK : mKok K) (hS : zArs ar) (hI : zInv A) (hL : (ar 150).1 ≤ 3072) (hi : 0 ≤ i ∧ i + 6 ≤ ((ar 150).1 : Int)) : zNext ar K (d + 66) i u5 u6 A O t 1018 := cs_leave hL hi (W_leave (zQ_dp (q_leave (d := 0) hK hI zScr_r) (by omega)))
theorem nx_days (hK : mKok K) (hS : zArs ar) (hI : zInv A) (hL : (ar 150).1 ≤ 3072) (hi : 0 ≤ i ∧ i + 6 ≤ ((ar 150).1 : Int)) : zNext ar K (d + 66) i u5 u6 A O t 1074 := cs_days hL hi (W_days (zQ_dp (q_days (d := 0) hK hI zScr_r) (by omega)))
theorem nx_ahead (hK : mKok K) (hS : zArs ar) (hI : zInv A) (hL : (ar 150).1 ≤ 3072) (hi : 0 ≤ i ∧ i + 6 ≤ ((ar 150).1 : Int)) : zNext ar K (d + 66) i u5 u6 A O t 1130 := cs_ahead hL hi (W_ahead (zQ_dp (q_ahead (d := 0) hI zScr_r zScr_r zScr_r) (by omega)))
theorem nx_settles (hK : mKok K) (hS : zArs ar) (hI : zInv A) (hL : (ar 150).1 ≤ 3072) (hi : 0 ≤ i ∧ i + 6 ≤ ((ar 150).1 : Int)) : zNext ar K (d + 66) i u5 u6 A O t 1210 := cs_settles hL hi (zQ_dp (q_settles (d := 0) hI) (by omega))
theorem nx_round (hK : mKok K) (hS : zArs ar) (hI : zInv A) (hL : (ar 150).1 ≤ 3072) (hi : 0 ≤ i ∧ i + 6 ≤ ((ar 150).1 : Int)) : zNext ar K (d + 66) i u5 u6 A O t 1223 := cs_round hL hi (zQ_dp (q_round (d := 0) hI) (by omega))
theorem nx_fewest (hK : mKok K) (hS : zArs ar) (hI : zInv A) (hL : (ar 150).1 ≤ 3072) (hi : 0 ≤ i ∧ i + 6 ≤ ((ar 150).1 : Int)) : zNext ar K (d + 66) i u5 u6 A O t 1236 := cs_fewest hL hi (W_fewest (zQ_dp (q_fewest (d := 0) hI zScr_r zScr_r) (by omega)))
theorem nx_rules (hK : mKok K) (hS : zArs ar) (hI : zInv A) (hL : (ar 150).1 ≤ 3072) (hi : 0 ≤ i ∧ i + 6 ≤ ((ar 150).1 : Int)) : zNext ar K (d + 66) i u5 u6 A O t 1304 := cs_rules hL hi (W_rules (zQ_dp (q_rules (d := 0) hI zScr_r zScr_r) (by omega)))
theorem nx_moves (hK : mKok K) (hS : zArs ar) (hI : zInv A) (hL : (ar 150).1 ≤ 3072) (hi : 0 ≤ i ∧ i + 6 ≤ ((ar 150).1 : Int)) : zNext ar K (d + 66) i u5 u6 A O t 1372 := cs_moves hL hi (W_moves (zQ_dp (q_moves (d := 0) hI zScr_r zScr_r zTf) (by omega)))
theorem nx_sham (hK : mKok K) (hS : zArs ar) (hI : zInv A) (hL : (ar 150).1 ≤ 3072) (hi : 0 ≤ i ∧ i + 6 ≤ ((ar 150).1 : Int)) : zNext ar K (d + 66) i u5 u6 A O t 1468 := cs_sham hL hi (W_sham (zQ_dp (q_sham (d := 0) hI zScr_r zScr_r) (by omega)))
theorem nx_honest (hK : mKok K) (hS : zArs ar) (hI : zInv A) (hL : (ar 150).1 ≤ 3072) (hi : 0 ≤ i ∧ i + 6 ≤ ((ar 150).1 : Int)) : zNext ar K (d + 66) i u5 u6 A O t 1536 := cs_honest hL hi (W_honest (zQ_dp (q_honest (d := 0) hI zScr_r) (by omega)))
theorem nx_gainers (hK : mKok K) (hS : zArs ar) (hI : zInv A) (hL : (ar 150).1 ≤ 3072) (hi : 0 ≤ i ∧ i + 6 ≤ ((ar 150).1 : Int)) : zNext ar K (d + 66) i u5 u6 A O t 1592 := cs_gainers hL hi (W_gainers (zQ_dp (q_gainers (d := 0) hI zScr_r) (by omega)))
theorem nx_halves (hK : mKok K) (hS : zArs ar) (hI : zInv A) (hL : (ar 150).1 ≤ 3072) (hi : 0 ≤ i ∧ i + 6 ≤ ((ar 150).1 : Int)) : zNext ar K (d + 66) i u5 u6 A O t 1648 := cs_halves hL hi (W_halves (zQ_dp (q_halves (d := 0) hI zScr_r) (by omega)))
theorem nx_near (hK : mKok K) (hS : zArs ar) (hI : zInv A) (hL : (ar 150).1 ≤ 3072) (hi : 0 ≤ i ∧ i + 6 ≤ ((ar 150).1 : Int)) : zNext ar K (d + 66) i u5 u6 A O t 1711 := cs_near hL hi (W_near (zQ_dp (q_near (d := 0) hI zScr_r zTf) (by omega)))
theorem nx_before (hK : mKok K) (hS : zArs ar) (hI : zInv A) (hL : (ar 150).1 ≤ 3072) (hi : 0 ≤ i ∧ i + 6 ≤ ((ar 150).1 : Int)) : zNext ar K (d + 66) i u5 u6 A O t 1795 := cs_before hL hi (W_before (zQ_dp (q_before (d := 0) hI zScr_r zScr_r zScr_r zTf) (by omega)))
theorem nx_sizes (hK : mKok K) (hS : zArs ar) (hI : zInv A) (hL : (ar 150).1 ≤ 3072) (hi : 0 ≤ i ∧ i + 6 ≤ ((ar 150).1 : Int)) : zNext ar K (d + 66) i u5 u6 A O t 1903 := cs_sizes hL hi (W_sizes (zQ_dp (q_sizes (d := 0) hI zScr_r zScr_r) (by omega)))
theorem nx_fits (hK : mKok K) (hS : zArs ar) (hI : zInv A) (hL : (ar 150).1 ≤ 3072) (hi : 0 ≤ i ∧ i + 6 ≤ ((ar 150).1 : Int)) : zNext ar K (d + 66) i u5 u6 A O t 1971 := cs_fits hL hi (W_fits (zQ_dp (q_fits (d := 0) hK hI zScr_r zScr_r zScr_r) (by omega)))
theorem nx_shoe (hK : mKok K) (hS : zArs ar) (hI : zInv A) (hL : (ar 150).1 ≤ 3072) (hi : 0 ≤ i ∧ i + 6 ≤ ((ar 150).1 : Int)) : zNext ar K (d + 66) i u5 u6 A O t 2051 := cs_shoe hL hi (W_shoe (zQ_dp (q_shoe (d := 0) hI zScr_r zScr_r) (by omega)))
theorem nx_pull (hK : mKok K) (hS : zArs ar) (hI : zInv A) (hL : (ar 150).1 ≤ 3072) (hi : 0 ≤ i ∧ i + 6 ≤ ((ar 150).1 : Int)) : zNext ar K (d + 66) i u5 u6 A O t 2119 := cs_pull hL hi (W_pull (zQ_dp (q_pull (d := 0) hI zScr_r zScr_r zScr_r) (by omega)))
theorem nx_samples (hK : mKok K) (hS : zArs ar) (hI : zInv A) (hL : (ar 150).1 ≤ 3072) (hi : 0 ≤ i ∧ i + 6 ≤ ((ar 150).1 : Int)) : zNext ar K (d + 66) i u5 u6 A O t 2199 := cs_samples hL hi (W_samples (zQ_dp (q_samples (d := 0) hI zScr_r zScr_r zScr_r zTf) (by omega)))
theorem nx_nearest (hK : mKok K) (hS : zArs ar) (hI : zInv A) (hL : (ar 150).1 ≤ 3072) (hi : 0 ≤ i ∧ i + 6 ≤ ((ar 150).1 : Int)) : zNext ar K (d + 66) i u5 u6 A O t 2307 := cs_nearest hL hi (zQ_dp (q_nearest (d := 0) hI) (by omega))
theorem nx_hates (hK : mKok K) (hS : zArs ar) (hI : zInv A) (hL : (ar 150).1 ≤ 3072) (hi : 0 ≤ i ∧ i + 6 ≤ ((ar 150).1 : Int)) : zNext ar K (d + 66) i u5 u6 A O t 2320 := cs_hates hL hi (W_hates (zQ_dp (q_hates (d := 0) hI zScr_r) (by omega)))
theorem nx_twins (hK : mKok K) (hS : zArs ar) (hI : zInv A) (hL : (ar 150).1 ≤ 3072) (hi : 0 ≤ i ∧ i + 6 ≤ ((ar 150).1 : Int)) : zNext ar K (d + 66) i u5 u6 A O t 2376 := cs_twins hL hi (zQ_dp (q_twins (d := 0) hI) (by omega))
theorem nx_village (hK : mKok K) (hS : zArs ar) (hI : zInv A) (hL : (ar 150).1 ≤ 3072) (hi : 0 ≤ i ∧ i + 6 ≤ ((ar 150).1 : Int)) : zNext ar K (d + 66) i u5 u6 A O t 2389 := cs_village hL hi (W_village (zQ_dp (q_village (d := 0) hI zScr_r) (by omega)))
theorem nx_majority (hK : mKok K) (hS : zArs ar) (hI : zInv A) (hL : (ar 150).1 ≤ 3072) (hi : 0 ≤ i ∧ i + 6 ≤ ((ar 150).1 : Int)) : zNext ar K (d + 66) i u5 u6 A O t 2445 := cs_majority hL hi (W_majority (zQ_dp (q_majority (d := 0) hI zScr_r zScr_r) (by omega)))
theorem nx_rank (hK : mKok K) (hS : zArs ar) (hI : zInv A) (hL : (ar 150).1 ≤ 3072) (hi : 0 ≤ i ∧ i + 6 ≤ ((ar 150).1 : Int)) : zNext ar K (d + 66) i u5 u6 A O t 2513 := cs_rank hL hi (W_rank (zQ_dp (q_rank (d := 0) hI zScr_r zScr_r) (by omega)))
theorem nx_range (hK : mKok K) (hS : zArs ar) (hI : zInv A) (hL : (ar 150).1 ≤ 3072) (hi : 0 ≤ i ∧ i + 6 ≤ ((ar 150).1 : Int)) : zNext ar K (d + 66) i u5 u6 A O t 2581 := cs_range hL hi (W_range (zQ_dp (q_range (d := 0) hI zScr_r) (by omega)))
theorem nx_trial (hK : mKok K) (hS : zArs ar) (hI : zInv A) (hL : (ar 150).1 ≤ 3072) (hi : 0 ≤ i ∧ i + 6 ≤ ((ar 150).1 : Int)) : zNext ar K (d + 66) i u5 u6 A O t 2637 := cs_trial hL hi (W_trial (zQ_dp (q_trial (d := 0) hI zScr_r zScr_r) (by omega)))
theorem nx_span (hK : mKok K) (hS : zArs ar) (hI : zInv A) (hL : (ar 150).1 ≤ 3072) (hi : 0 ≤ i ∧ i + 6 ≤ ((ar 150).1 : Int)) : zNext ar K (d + 66) i u5 u6 A O t 2705 := cs_span hL hi (W_span (zQ_dp (q_span (d := 0) hI zScr_r zScr_r zTf) (by omega)))
theorem nx_led (hK : mKok K) (hS : zArs ar) (hI : zInv A) (hL : (ar 150).1 ≤ 3072) (hi : 0 ≤ i ∧ i + 6 ≤ ((ar 150).1 : Int)) : zNext ar K (d + 66) i u5 u6 A O t 2801 := cs_led hL hi (W_led (zQ_dp (q_led (d := 0) hI zScr_r zScr_r) (by omega)))
theorem nx_steady (hK : mKok K) (hS : zArs ar) (hI : zInv A) (hL : (ar 150).1 ≤ 3072) (hi : 0 ≤ i ∧ i + 6 ≤ ((ar 150).1 : Int)) : zNext ar K (d + 66) i u5 u6 A O t 2869 := cs_steady hL hi (zQ_dp (q_steady (d := 0) hI) (by omega))
theorem nx_log (hK : mKok K) (hS : zArs ar) (hI : zInv A) (hL : (ar 150).1 ≤ 3072) (hi : 0 ≤ i ∧ i + 6 ≤ ((ar 150).1 : Int)) : zNext ar K (d + 66) i u5 u6 A O t 2882 := cs_log hL hi (W_log (zQ_dp (q_log (d := 0) hI zScr_r zScr_r) (by omega)))
theorem nx_seed (hK : mKok K) (hS : zArs ar) (hI : zInv A) (hL : (ar 150).1 ≤ 3072) (hi : 0 ≤ i ∧ i + 6 ≤ ((ar 150).1 : Int)) : zNext ar K (d + 66) i u5 u6 A O t 2950 := cs_seed hL hi (zQ_dp (q_seed (d := 0) hI) (by omega))
theorem nx_undo (hK : mKok K) (hS : zArs ar) (hI : zInv A) (hL : (ar 150).1 ≤ 3072) (hi : 0 ≤ i ∧ i + 6 ≤ ((ar 150).1 : Int)) : zNext ar K (d + 66) i u5 u6 A O t 2975 := cs_undo hL hi (zQ_dp (q_undo (d := 0) hK hI) (by omega))
theorem nx_image (hK : mKok K) (hS : zArs ar) (hI : zInv A) (hL : (ar 150).1 ≤ 3072) (hi : 0 ≤ i ∧ i + 6 ≤ ((ar 150).1 : Int)) : zNext ar K (d + 66) i u5 u6 A O t 2988 := cs_image hL hi (q_image (d := d + 55) hI)
theorem nx_back (hK : mKok K) (hS : zArs ar) (hI : zInv A) (hL : (ar 150).1 ≤ 3072) (hi : 0 ≤ i ∧ i + 6 ≤ ((ar 150).1 : Int)) : zNext ar K (d + 66) i u5 u6 A O t 2999 := cs_back hL hi (zQ_dp (q_back (d := 0) hI) (by omega))
theorem nx_count (hK : mKok K) (hS : zArs ar) (hI : zInv A) (hL : (ar 150).1 ≤ 3072) (hi : 0 ≤ i ∧ i + 6 ≤ ((ar 150).1 : Int)) : zNext ar K (d + 66) i u5 u6 A O t 3012 := cs_count hL hi (zQ_dp (q_count (d := 0) hI zScr_r) (by omega))
theorem zSwt (hK : mKok K) (hS : zArs ar) (hI : zInv A) (hL : (ar 150).1 ≤ 3072) (hi : 0 ≤ i ∧ i + 6 ≤ ((ar 150).1 : Int)) : ∃ (A' : Nat → Int → Int) (O' : Nat → Int64) (t' : Nat) (v5 v6 : Value), t' ≤ t + 1 ∧ zInv A' ∧ mGd ar (d + 68) 0 40 [.retAddr 150, .ref 0, .ref 185, .ref 198, .int (zI i), u5, u6] [.int (zI (zScr ar i % 64))] (zW K A O t) = mGd ar (d + 68) 0 3037 [.retAddr 150, .ref 0, .ref 185, .ref 198, .int (zI i), v5, v6] [] (zW K A' O' t') := by
  have key : ∀ q, mTsp (zI (zScr ar i % 64)) 2997 0 48 #[212, 285, 310, 354, 398, 411, 479, 547, 603, 671, 739, 819, 887, 978, 1034, 1090, 1170, 1183, 1196, 1264, 1332, 1428, 1496, 1552, 1608, 1671, 1755, 1863, 1931, 2011, 2079, 2159, 2267, 2280, 2336, 2349, 2405, 2473, 2541, 2597, 2665, 2761, 2829, 2842, 2910, 2935, 2948, 2959, 2972] 40 = some q → zNext ar K (d + 66) i u5 u6 A O t q → ∃ (A' : Nat → Int → Int) (O' : Nat → Int64) (t' : Nat) (v5 v6 : Value), t' ≤ t + 1 ∧ zInv A' ∧ mGd ar (d + 68) 0 40 [.retAddr 150, .ref 0, .ref 185, .ref 198, .int (zI i), u5, u6] [.int (zI (zScr ar i % 64))] (zW K A O t) = mGd ar (d + 68) 0 3037 [.retAddr 150, .ref 0, .ref 185, .ref 198, .int (zI i), v5, v6] [] (zW K A' O' t') := by
    intro q h1 h2
    obtain ⟨A', O', t', v5, v6, x1, x2, x3⟩ := h2
    exact ⟨A', O', t', v5, v6, x1, x2, Eq.trans (mG_ts (len := 212) (f0_0 rfl) h1) x3⟩
  have hm : 0 ≤ zScr ar i % 64 ∧ zScr ar i % 64 < 64 := by omega
  generalize zScr ar i % 64 = x at hm key ⊢
  by_cases h : 48 < x
  · exact ⟨A, O, t, u5, u6, by omega, hI, mG_ts (len := 212) (f0_0 rfl) (zt_out (by omega) (Or.inr h))⟩
  · have hx : x = 0 ∨ x = 1 ∨ x = 2 ∨ x = 3 ∨ x = 4 ∨ x = 5 ∨ x = 6 ∨ x = 7 ∨ x = 8 ∨ x = 9 ∨ x = 10 ∨ x = 11 ∨ x = 12 ∨ x = 13 ∨ x = 14 ∨ x = 15 ∨ x = 16 ∨ x = 17 ∨ x = 18 ∨ x = 19 ∨ x = 20 ∨ x = 21 ∨ x = 22 ∨ x = 23 ∨ x = 24 ∨ x = 25 ∨ x = 26 ∨ x = 27 ∨ x = 28 ∨ x = 29 ∨ x = 30 ∨ x = 31 ∨ x = 32 ∨ x = 33 ∨ x = 34 ∨ x = 35 ∨ x = 36 ∨ x = 37 ∨ x = 38 ∨ x = 39 ∨ x = 40 ∨ x = 41 ∨ x = 42 ∨ x = 43 ∨ x = 44 ∨ x = 45 ∨ x = 46 ∨ x = 47 ∨ x = 48 := by omega
    rcases hx with rfl | rfl | rfl | rfl | rfl | rfl | rfl | rfl | rfl | rfl | rfl | rfl | rfl | rfl | rfl | rfl | rfl | rfl | rfl | rfl | rfl | rfl | rfl | rfl | rfl | rfl | rfl | rfl | rfl | rfl | rfl | rfl | rfl | rfl | rfl | rfl | rfl | rfl | rfl | rfl | rfl | rfl | rfl | rfl | rfl | rfl | rfl | rfl | rfl
    · exact key 252 ((zt_in (by decide) (by decide)).trans rfl) (nx_feed hK hS hI hL hi)
    · exact key 325 ((zt_in (by decide) (by decide)).trans rfl) (nx_end hK hS hI hL hi)
    · exact key 350 ((zt_in (by decide) (by decide)).trans rfl) (nx_hall hK hS hI hL hi)
    · exact key 394 ((zt_in (by decide) (by decide)).trans rfl) (nx_law hK hS hI hL hi)
    · exact key 438 ((zt_in (by decide) (by decide)).trans rfl) (nx_fault hK hS hI hL hi)
    · exact key 451 ((zt_in (by decide) (by decide)).trans rfl) (nx_number hK hS hI hL hi)
    · exact key 519 ((zt_in (by decide) (by decide)).trans rfl) (nx_person hK hS hI hL hi)
    · exact key 587 ((zt_in (by decide) (by decide)).trans rfl) (nx_man hK hS hI hL hi)
    · exact key 643 ((zt_in (by decide) (by decide)).trans rfl) (nx_middle hK hS hI hL hi)
    · exact key 711 ((zt_in (by decide) (by decide)).trans rfl) (nx_goes hK hS hI hL hi)
    · exact key 779 ((zt_in (by decide) (by decide)).trans rfl) (nx_tell hK hS hI hL hi)
    · exact key 859 ((zt_in (by decide) (by decide)).trans rfl) (nx_rule hK hS hI hL hi)
    · exact key 927 ((zt_in (by decide) (by decide)).trans rfl) (nx_stubborn hK hS hI hL hi)
    · exact key 1018 ((zt_in (by decide) (by decide)).trans rfl) (nx_leave hK hS hI hL hi)
    · exact key 1074 ((zt_in (by decide) (by decide)).trans rfl) (nx_days hK hS hI hL hi)
    · exact key 1130 ((zt_in (by decide) (by decide)).trans rfl) (nx_ahead hK hS hI hL hi)
    · exact key 1210 ((zt_in (by decide) (by decide)).trans rfl) (nx_settles hK hS hI hL hi)
    · exact key 1223 ((zt_in (by decide) (by decide)).trans rfl) (nx_round hK hS hI hL hi)
    · exact key 1236 ((zt_in (by decide) (by decide)).trans rfl) (nx_fewest hK hS hI hL hi)
    · exact key 1304 ((zt_in (by decide) (by decide)).trans rfl) (nx_rules hK hS hI hL hi)
    · exact key 1372 ((zt_in (by decide) (by decide)).trans rfl) (nx_moves hK hS hI hL hi)
    · exact key 1468 ((zt_in (by decide) (by decide)).trans rfl) (nx_sham hK hS hI hL hi)
    · exact key 1536 ((zt_in (by decide) (by decide)).trans rfl) (nx_honest hK hS hI hL hi)
    · exact key 1592 ((zt_in (by decide) (by decide)).trans rfl) (nx_gainers hK hS hI hL hi)
    · exact key 1648 ((zt_in (by decide) (by decide)).trans rfl) (nx_halves hK hS hI hL hi)
    · exact key 1711 ((zt_in (by decide) (by decide)).trans rfl) (nx_near hK hS hI hL hi)
    · exact key 1795 ((zt_in (by decide) (by decide)).trans rfl) (nx_before hK hS hI hL hi)
    · exact key 1903 ((zt_in (by decide) (by decide)).trans rfl) (nx_sizes hK hS hI hL hi)
    · exact key 1971 ((zt_in (by decide) (by decide)).trans rfl) (nx_fits hK hS hI hL hi)
    · exact key 2051 ((zt_in (by decide) (by decide)).trans rfl) (nx_shoe hK hS hI hL hi)
    · exact key 2119 ((zt_in (by decide) (by decide)).trans rfl) (nx_pull hK hS hI hL hi)
    · exact key 2199 ((zt_in (by decide) (by decide)).trans rfl) (nx_samples hK hS hI hL hi)
    · exact key 2307 ((zt_in (by decide) (by decide)).trans rfl) (nx_nearest hK hS hI hL hi)
    · exact key 2320 ((zt_in (by decide) (by decide)).trans rfl) (nx_hates hK hS hI hL hi)
    · exact key 2376 ((zt_in (by decide) (by decide)).trans rfl) (nx_twins hK hS hI hL hi)
    · exact key 2389 ((zt_in (by decide) (by decide)).trans rfl) (nx_village hK hS hI hL hi)
    · exact key 2445 ((zt_in (by decide) (by decide)).trans rfl) (nx_majority hK hS hI hL hi)
    · exact key 2513 ((zt_in (by decide) (by decide)).trans rfl) (nx_rank hK hS hI hL hi)
    · exact key 2581 ((zt_in (by decide) (by decide)).trans rfl) (nx_range hK hS hI hL hi)
    · exact key 2637 ((zt_in (by decide) (by decide)).trans rfl) (nx_trial hK hS hI hL hi)
    · exact key 2705 ((zt_in (by decide) (by decide)).trans rfl) (nx_span hK hS hI hL hi)
    · exact key 2801 ((zt_in (by decide) (by decide)).trans rfl) (nx_led hK hS hI hL hi)
    · exact key 2869 ((zt_in (by decide) (by decide)).trans rfl) (nx_steady hK hS hI hL hi)
    · exact key 2882 ((zt_in (by decide) (by decide)).trans rfl) (nx_log hK hS hI hL hi)
    · exact key 2950 ((zt_in (by decide) (by decide)).trans rfl) (nx_seed hK hS hI hL hi)
    · exact key 2975 ((zt_in (by decide) (by decide)).trans rfl) (nx_undo hK hS hI hL hi)
    · exact key 2988 ((zt_in (by decide) (by decide)).trans rfl) (nx_image hK hS hI hL hi)
    · exact key 2999 ((zt_in (by decide) (by decide)).trans rfl) (nx_back hK hS hI hL hi)
    · exact key 3012 ((zt_in (by decide) (by decide)).trans rfl) (nx_count hK hS hI hL hi)
theorem zHead (hL : (ar 150).1 ≤ 3072) (hi : 0 ≤ i ∧ i ≤ ((ar 150).1 : Int)) : mGd ar (d + 68) 0 23 [.retAddr 150, .ref 0, .ref 185, .ref 198, .int (zI i), u5, u6] [] (zW K A O t) = mGd ar (d + 68) 0 (if ((ar 150).1 : Int) - 6 < i then 3043 else 33) [.retAddr 150, .ref 0, .ref 185, .ref 198, .int (zI i), u5, u6] [] (zW K A O t) := by
  refine Eq.trans (mG_st (i := (.iload 4)) (len := 2) (z := (25, [.retAddr 150, .ref 0, .ref 185, .ref 198, .int (zI i), u5, u6], [.int (zI i)], zW K A O t)) (f0_0 rfl) rfl) ?_
  refine Eq.trans (mG_st (i := (.aload 0)) (len := 1) (z := (26, [.retAddr 150, .ref 0, .ref 185, .ref 198, .int (zI i), u5, u6], [.retAddr 150, .int (zI i)], zW K A O t)) (f0_0 rfl) rfl) ?_
  refine Eq.trans (mG_st (i := .arraylength) (len := 1) (z := (27, [.retAddr 150, .ref 0, .ref 185, .ref 198, .int (zI i), u5, u6], [.int (zI ((ar 150).1 : Int)), .int (zI i)], zW K A O t)) (f0_0 rfl) (zM_sln hL)) ?_
  refine Eq.trans (mG_st (i := (.iconst 6)) (len := 2) (z := (29, [.retAddr 150, .ref 0, .ref 185, .ref 198, .int (zI i), u5, u6], [.int (zI 6), .int (zI ((ar 150).1 : Int)), .int (zI i)], zW K A O t)) (f0_0 rfl) rfl) ?_
  refine Eq.trans (mG_st (i := .isub) (len := 1) (z := (30, [.retAddr 150, .ref 0, .ref 185, .ref 198, .int (zI i), u5, u6], [.int (zI (((ar 150).1 : Int) - 6)), .int (zI i)], zW K A O t)) (f0_0 rfl) zs_sub) ?_
  exact mG_st (i := (.if_icmp .gt 3013)) (len := 3) (z := (if ((ar 150).1 : Int) - 6 < i then 3043 else 33, [.retAddr 150, .ref 0, .ref 185, .ref 198, .int (zI i), u5, u6], [], zW K A O t)) (f0_0 rfl) (zs_ic_gt (by omega) (by omega))
set_option maxRecDepth 20000 in
theorem zTurn (hK : mKok K) (hS : zArs ar) (hI : zInv A) (hL : (ar 150).1 ≤ 3072) (hi : 0 ≤ i ∧ i + 6 ≤ ((ar 150).1 : Int)) : ∃ (A' : Nat → Int → Int) (O' : Nat → Int64) (t' : Nat) (v5 v6 : Value), t' ≤ t + 1 ∧ zInv A' ∧ mGd ar (d + 68) 0 33 [.retAddr 150, .ref 0, .ref 185, .ref 198, .int (zI i), u5, u6] [] (zW K A O t) = mGd ar (d + 68) 0 23 [.retAddr 150, .ref 0, .ref 185, .ref 198, .int (zI (i + 6)), v5, v6] [] (zW K A' O' t') := by
  obtain ⟨A', O', t', v5, v6, x1, x2, x3⟩ := zSwt (d := d) (u5 := u5) (u6 := u6) (t := t) (O := O) hK hS hI hL hi
  refine ⟨A', O', t', v5, v6, x1, x2, ?_⟩
  refine Eq.trans (mG_st (i := (.aload 0)) (len := 1) (z := (34, [.retAddr 150, .ref 0, .ref 185, .ref 198, .int (zI i), u5, u6], [.retAddr 150], zW K A O t)) (f0_0 rfl) rfl) ?_
  refine Eq.trans (mG_st (i := (.iload 4)) (len := 2) (z := (36, [.retAddr 150, .ref 0, .ref 185, .ref 198, .int (zI i), u5, u6], [.int (zI i), .retAddr 150], zW K A O t)) (f0_0 rfl) rfl) ?_
  refine Eq.trans (mG_st (i := .iaload) (len := 1) (z := (37, [.retAddr 150, .ref 0, .ref 185, .ref 198, .int (zI i), u5, u6], [.int (zI (zScr ar i))], zW K A O t)) (f0_0 rfl) (zM_scr (by omega) hL)) ?_
  refine Eq.trans (mG_st (i := (.iconst 63)) (len := 2) (z := (39, [.retAddr 150, .ref 0, .ref 185, .ref 198, .int (zI i), u5, u6], [.int (zI 63), .int (zI (zScr ar i))], zW K A O t)) (f0_0 rfl) rfl) ?_
  refine Eq.trans (mG_st (i := .iand) (len := 1) (z := (40, [.retAddr 150, .ref 0, .ref 185, .ref 198, .int (zI i), u5, u6], [.int (zI (zAnd (zScr ar i) 63))], zW K A O t)) (f0_0 rfl) zs_and) ?_
  have e : zAnd (zScr ar i) 63 = zScr ar i % 64 := zAnd_mask (m := 6) (by decide)
  dsimp only
  rw [e]
  refine Eq.trans x3 ?_
  refine Eq.trans (mG_st (i := (.iinc 4 6)) (len := 3) (z := (3040, [.retAddr 150, .ref 0, .ref 185, .ref 198, .int (zI (i + 6)), v5, v6], [], zW K A' O' t')) (f0_9 (show 2973 ≤ 3037 by decide) rfl) (zs_inc rfl)) ?_
  exact mG_st (i := (.goto (-3017))) (len := 3) (z := (23, [.retAddr 150, .ref 0, .ref 185, .ref 198, .int (zI (i + 6)), v5, v6], [], zW K A' O' t')) (f0_9 (show 2973 ≤ 3040 by decide) rfl) rfl
set_option maxRecDepth 20000 in
theorem zDone : mGd ar (d + 68) 0 3043 [.retAddr 150, .ref 0, .ref 185, .ref 198, .int (zI i), u5, u6] [] (zW K A O t) = some (.inl (some (.int 1)), zW K A O t) := by
  refine Eq.trans (mG_st (i := (.iconst 1)) (len := 1) (z := (3044, [.retAddr 150, .ref 0, .ref 185, .ref 198, .int (zI i), u5, u6], [.int 1], zW K A O t)) (f0_9 (show 2973 ≤ 3043 by decide) rfl) rfl) ?_
  exact mG_ir (len := 1) (f0_9 (show 2973 ≤ 3044 by decide) rfl) m0_facts.2.2.1 rfl
end LOOP
theorem zLoop {ar : Nat → Nat × (Nat → Int32)} {d : Nat} {K : Nat → Nat → Option Nat} (hK : mKok K) (hS : zArs ar) (hL : (ar 150).1 ≤ 3072) : ∀ (m : Nat) (i : Int) (u5 u6 : Value) (A : Nat → Int → Int) (O : Nat → Int64) (t : Nat), zInv A → (0 ≤ i ∧ i ≤ ((ar 150).1 : Int)) → ((ar 150).1 : Int) - i ≤ 6 * (m : Int) → ∃ (A' : Nat → Int → Int) (O' : Nat → Int64) (t' : Nat), t' ≤ t + m ∧ mGd ar (d + 68) 0 23 [.retAddr 150, .ref 0, .ref 185, .ref 198, .int (zI i), u5, u6] [] (zW K A O t) = some (.inl (some (.int 1)), zW K A' O' t') := by
  intro m
  induction m with
  | zero =>
    intro i u5 u6 A O t hI hi hm
    refine ⟨A, O, t, by omega, ?_⟩
    rw [zHead hL hi, if_pos (by omega)]
    exact zDone
  | succ m ih =>
    intro i u5 u6 A O t hI hi hm
    by_cases h : ((ar 150).1 : Int) - 6 < i
    · refine ⟨A, O, t, by omega, ?_⟩
      rw [zHead hL hi, if_pos h]
      exact zDone
    · obtain ⟨A1, O1, t1, v5, v6, x1, x2, x3⟩ := zTurn (d := d) (u5 := u5) (u6 := u6) (t := t) (O := O) hK hS hI hL (i := i) (by omega)
      obtain ⟨A2, O2, t2, y1, y2⟩ := ih (i + 6) v5 v6 A1 O1 t1 x2 (by omega) (by omega)
      refine ⟨A2, O2, t2, by omega, ?_⟩
      rw [zHead hL hi, if_neg h, x3, y2]
