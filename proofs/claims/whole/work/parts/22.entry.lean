/-! FROM THE LAW'S ENTRY, 1: the words of the start, by their places -/
def mPos : List (Nat × Nat × Nat) := [(3, 23, 91), (3, 70, 133), (5, 19, 143), (5, 45, 161), (5, 61, 227), (5, 70, 220), (5, 72, 167), (5, 82, 174), (5, 88, 189), (12, 124, 546), (12, 130, 567), (12, 135, 579), (12, 140, 587), (12, 142, 597), (12, 144, 604), (12, 116, 556), (12, 205, 614), (12, 207, 620), (12, 209, 628), (12, 211, 638), (12, 203, 725), (12, 198, 717), (12, 184, 645), (12, 174, 653), (12, 176, 662), (12, 156, 671), (12, 158, 678), (12, 160, 686), (12, 162, 694), (12, 164, 701), (12, 166, 710)]
def mTp : List (Nat × Nat) := [(122, 233), (132, 266), (142, 296), (175, 380), (291, 486), (351, 513), (376, 328), (379, 355), (381, 416), (383, 464), (387, 441)]
def mNp : List (Nat × Nat × Nat) := [(1, 0, 23), (2, 0, 24), (3, 0, 25), (4, 0, 26), (0, 1, 39), (2, 1, 40), (3, 1, 41), (4, 1, 42), (0, 2, 55), (1, 2, 56), (3, 2, 57), (4, 2, 58), (0, 3, 71), (1, 3, 72), (2, 3, 73), (4, 3, 74), (0, 4, 87), (1, 4, 88), (2, 4, 89), (3, 4, 90)]
def mSp1 : List (Nat × Nat) := [(3, 124), (3, 197), (3, 236), (4, 6), (4, 41), (4, 40), (4, 20), (4, 33), (4, 38), (7, 65), (7, 92), (7, 101), (7, 110), (7, 111), (7, 112), (7, 91), (7, 121), (7, 122), (7, 123), (7, 124), (7, 171), (7, 170), (7, 145), (7, 154), (7, 155), (7, 164), (7, 165), (7, 166), (7, 167), (7, 168), (7, 169)]
def mTp1 : List (Nat × Nat) := [(4, 90), (4, 126), (4, 147), (4, 200), (6, 37), (6, 164), (4, 169), (4, 180), (4, 226), (5, 27), (5, 0)]
def mIp : List (Nat × Nat × Nat) := [(3, 1, 186), (6, 2, 8), (11, 1, 68), (4, 1, 206), (9, 1, 150), (3, 1, 236), (0, 0, 0), (5, 1, 74), (3, 2, 57), (3, 2, 41), (6, 1, 38), (16, 1, 30), (23, 6, 174)]
def mFl : List Cond := Jvm.Free.XT.flat (Jvm.Cond.and given_1 narrow_1)
def mSi (k : Nat) : Nat × Nat × Nat := mPos.getD k (0, 0, 0)
def mTm (k : Nat) : Term := .string (mOn.getD (mSi k).1 "") (mSi k).2.1
def mFd (k : Nat) : Term := .field (mTm k) "java/lang/String" "value" "[B"
def mBy (k : Nat) : List Int32 := mSb.getD k []
def mSw (k : Nat) : List Cond := [.exactly (mTm k) "java/lang/String", .eq (.field (mTm k) "java/lang/String" "coder" "B") (.int 0), .arrayOf (mFd k) .byte, .eq (.length (mFd k)) (.int (Int32.ofNat (mBy k).length))] ++ (List.range (mBy k).length).map fun j => .eq (.elem (mFd k) (.int (Int32.ofNat j))) (.int ((mBy k).getD j 0))
theorem mSw_ok : ((List.range 31).all fun k => decide (mSw k = (mFl.drop (mSi k).2.2).take (mSw k).length) && Nat.blt (mBy k).length 64) = true := by decide +kernel
theorem mTp_ok : (mTp.all fun e => decide (mFl[e.2]? = some (.exactly (.string "MeanMan" e.1) "java/lang/String"))) = true := by decide +kernel
theorem mNp_ok : (mNp.all fun e => decide (mFl[e.2.2]? = some (.not (.castable (mExn.getD e.1 "") (mExn.getD e.2.1 ""))))) = true := by decide +kernel
theorem mSt_ok : mFl[4]? = some (.eq (.static "java/lang/String" "COMPACT_STRINGS" "Z") (.int 1)) ∧ mFl[5]? = some (.isRef (.static "jdk/internal/util/Preconditions" "SIOOBE_FORMATTER" "Ljava/util/function/BiFunction;")) ∧
    mFl[9]? = some (.isRef (.static "java/lang/Throwable" "UNASSIGNED_STACK" "[Ljava/lang/StackTraceElement;")) ∧ mFl[10]? = some (.isRef (.static "java/lang/Throwable" "SUPPRESSED_SENTINEL" "Ljava/util/List;")) := by decide +kernel
theorem mSp_ok : ((List.range 31).all fun k => decide (mAt (mSp1.getD k (0, 0)).1 (mSp1.getD k (0, 0)).2 = some (.stringRef (mOn.getD (mSi k).1 "") (mSi k).2.1 (mSx.getD k "")))) = true := by decide +kernel
theorem mSr_ok : (mSr.all fun e => Nat.blt e.2.2 31 && Nat.beq (mSi e.2.2).1 e.1 && Nat.beq (mSi e.2.2).2.1 e.2.1) = true := by decide +kernel
theorem mTr_ok : ((List.range 11).all fun k => decide (mAt (mTp1.getD k (0, 0)).1 (mTp1.getD k (0, 0)).2 = some (.stringRef "MeanMan" (mTx.getD k (0, "")).1 (mTx.getD k (0, "")).2)) && Nat.beq (mTp.getD k (0, 0)).1 (mTx.getD k (0, "")).1) = true := by decide +kernel
theorem mIp_ok : ((List.range 13).all fun c => Nat.beq c 6 || decide (mAt (mIp.getD c (0, 0, 0)).2.1 (mIp.getD c (0, 0, 0)).2.2 = some (.instantiable (mOn.getD c "") (mIp.getD c (0, 0, 0)).1))) = true := by decide +kernel
theorem mXw_in : (mXw.all fun w => decide (w ∈ tables_1_1) || decide (w ∈ tables_1_2)) = true := by decide +kernel
theorem mAo_in : mAt 1 192 = some (.arrayOver (.object "MeanMan$Hall")) ∧ mAt 2 14 = some (.arrayOver (.array .int)) := by decide +kernel
theorem mLs_in : mAt 3 138 = some (.laysStatic "java/lang/String" "COMPACT_STRINGS" "Z") ∧ mAt 3 154 = some (.laysStatic "jdk/internal/util/Preconditions" "SIOOBE_FORMATTER" "Ljava/util/function/BiFunction;") ∧ mAt 4 74 = some (.laysStatic "java/lang/Throwable" "UNASSIGNED_STACK" "[Ljava/lang/StackTraceElement;") ∧ mAt 4 76 = some (.laysStatic "java/lang/Throwable" "SUPPRESSED_SENTINEL" "Ljava/util/List;") := by decide +kernel
