theorem dX12_holds_0 : decode cX12_holds 0 = .ok (.iload_n 1, 1) := by decide +kernel
theorem dX12_holds_1 : decode cX12_holds 1 = .ok (.i2l, 1) := by decide +kernel
theorem dX12_holds_2 : decode cX12_holds 2 = .ok (.lconst 0, 1) := by decide +kernel
theorem dX12_holds_3 : decode cX12_holds 3 = .ok (.ldc2_w 96, 3) := by decide +kernel
theorem dX12_holds_6 : decode cX12_holds 6 = .ok (.invokestatic 88, 3) := by decide +kernel
theorem dX12_holds_9 : decode cX12_holds 9 = .ok (.ifCond .eq 12, 3) := by decide +kernel
theorem dX12_holds_12 : decode cX12_holds 12 = .ok (.aload_n 0, 1) := by decide +kernel
theorem dX12_holds_13 : decode cX12_holds 13 = .ok (.getfield 7, 3) := by decide +kernel
theorem dX12_holds_16 : decode cX12_holds 16 = .ok (.iload_n 1, 1) := by decide +kernel
theorem dX12_holds_17 : decode cX12_holds 17 = .ok (.iaload, 1) := by decide +kernel
theorem dX12_holds_18 : decode cX12_holds 18 = .ok (.ifCond .ne 5, 3) := by decide +kernel
theorem dX12_holds_21 : decode cX12_holds 21 = .ok (.iconst (-1), 1) := by decide +kernel
theorem dX12_holds_22 : decode cX12_holds 22 = .ok (.ireturn, 1) := by decide +kernel
theorem dX12_holds_23 : decode cX12_holds 23 = .ok (.aload_n 0, 1) := by decide +kernel
theorem dX12_holds_24 : decode cX12_holds 24 = .ok (.getfield 7, 3) := by decide +kernel
theorem dX12_holds_27 : decode cX12_holds 27 = .ok (.iload_n 1, 1) := by decide +kernel
theorem dX12_holds_28 : decode cX12_holds 28 = .ok (.iaload, 1) := by decide +kernel
theorem dX12_holds_29 : decode cX12_holds 29 = .ok (.iconst 1, 1) := by decide +kernel
theorem dX12_holds_30 : decode cX12_holds 30 = .ok (.if_icmp .ne 12, 3) := by decide +kernel
theorem dX12_holds_33 : decode cX12_holds 33 = .ok (.aload_n 0, 1) := by decide +kernel
theorem dX12_holds_34 : decode cX12_holds 34 = .ok (.getfield 13, 3) := by decide +kernel
theorem dX12_holds_37 : decode cX12_holds 37 = .ok (.iload_n 1, 1) := by decide +kernel
theorem dX12_holds_38 : decode cX12_holds 38 = .ok (.iaload, 1) := by decide +kernel
theorem dX12_holds_39 : decode cX12_holds 39 = .ok (.goto 12, 3) := by decide +kernel
theorem dX12_holds_42 : decode cX12_holds 42 = .ok (.bipush 10, 2) := by decide +kernel
theorem dX12_holds_44 : decode cX12_holds 44 = .ok (.aload_n 0, 1) := by decide +kernel
theorem dX12_holds_45 : decode cX12_holds 45 = .ok (.getfield 28, 3) := by decide +kernel
theorem dX12_holds_48 : decode cX12_holds 48 = .ok (.iload_n 1, 1) := by decide +kernel
theorem dX12_holds_49 : decode cX12_holds 49 = .ok (.iaload, 1) := by decide +kernel
theorem dX12_holds_50 : decode cX12_holds 50 = .ok (.iadd, 1) := by decide +kernel
theorem dX12_holds_51 : decode cX12_holds 51 = .ok (.ireturn, 1) := by decide +kernel
def bwX12_coachman_0l : List Nat := [27, 133, 9, 20, 0, 96, 184, 0, 88, 153, 0, 27, 28, 133, 10, 20, 0, 113, 184, 0, 88, 153, 0, 15, 29, 133, 9, 20, 0, 115, 184, 0, 88, 154, 0, 10, 42, 16, 254, 182, 0, 102, 172, 42, 180, 0, 7, 27, 5, 79, 42, 180, 0, 28, 27, 28, 79, 42, 180, 0, 31, 27, 29, 79, 4, 172]
theorem bwX12_coachman_0 : ((cX12_coachman.data.toList.drop 0).take 66).map UInt8.toNat = bwX12_coachman_0l := by decide +kernel
theorem dX12_coachman_0 : decode cX12_coachman 0 = .ok (.iload_n 1, 1) := bq_o27 (bq_of bwX12_coachman_0 0 (by decide +kernel))
theorem dX12_coachman_1 : decode cX12_coachman 1 = .ok (.i2l, 1) := bq_o133 (bq_of bwX12_coachman_0 1 (by decide +kernel))
theorem dX12_coachman_2 : decode cX12_coachman 2 = .ok (.lconst 0, 1) := bq_o9 (bq_of bwX12_coachman_0 2 (by decide +kernel))
theorem dX12_coachman_3 : decode cX12_coachman 3 = .ok (.ldc2_w 96, 3) := bq_o20 (a := 0) (b := 96) (bq_3 bwX12_coachman_0 3 (by decide +kernel)) rfl
theorem dX12_coachman_6 : decode cX12_coachman 6 = .ok (.invokestatic 88, 3) := bq_o184 (a := 0) (b := 88) (bq_3 bwX12_coachman_0 6 (by decide +kernel)) rfl
theorem dX12_coachman_9 : decode cX12_coachman 9 = .ok (.ifCond .eq 27, 3) := bq_o153 (a := 0) (b := 27) (bq_3 bwX12_coachman_0 9 (by decide +kernel)) (by decide +kernel)
theorem dX12_coachman_12 : decode cX12_coachman 12 = .ok (.iload_n 2, 1) := bq_o28 (bq_of bwX12_coachman_0 12 (by decide +kernel))
theorem dX12_coachman_13 : decode cX12_coachman 13 = .ok (.i2l, 1) := bq_o133 (bq_of bwX12_coachman_0 13 (by decide +kernel))
theorem dX12_coachman_14 : decode cX12_coachman 14 = .ok (.lconst 1, 1) := bq_o10 (bq_of bwX12_coachman_0 14 (by decide +kernel))
theorem dX12_coachman_15 : decode cX12_coachman 15 = .ok (.ldc2_w 113, 3) := bq_o20 (a := 0) (b := 113) (bq_3 bwX12_coachman_0 15 (by decide +kernel)) rfl
theorem dX12_coachman_18 : decode cX12_coachman 18 = .ok (.invokestatic 88, 3) := bq_o184 (a := 0) (b := 88) (bq_3 bwX12_coachman_0 18 (by decide +kernel)) rfl
theorem dX12_coachman_21 : decode cX12_coachman 21 = .ok (.ifCond .eq 15, 3) := bq_o153 (a := 0) (b := 15) (bq_3 bwX12_coachman_0 21 (by decide +kernel)) (by decide +kernel)
theorem dX12_coachman_24 : decode cX12_coachman 24 = .ok (.iload_n 3, 1) := bq_o29 (bq_of bwX12_coachman_0 24 (by decide +kernel))
theorem dX12_coachman_25 : decode cX12_coachman 25 = .ok (.i2l, 1) := bq_o133 (bq_of bwX12_coachman_0 25 (by decide +kernel))
theorem dX12_coachman_26 : decode cX12_coachman 26 = .ok (.lconst 0, 1) := bq_o9 (bq_of bwX12_coachman_0 26 (by decide +kernel))
theorem dX12_coachman_27 : decode cX12_coachman 27 = .ok (.ldc2_w 115, 3) := bq_o20 (a := 0) (b := 115) (bq_3 bwX12_coachman_0 27 (by decide +kernel)) rfl
theorem dX12_coachman_30 : decode cX12_coachman 30 = .ok (.invokestatic 88, 3) := bq_o184 (a := 0) (b := 88) (bq_3 bwX12_coachman_0 30 (by decide +kernel)) rfl
theorem dX12_coachman_33 : decode cX12_coachman 33 = .ok (.ifCond .ne 10, 3) := bq_o154 (a := 0) (b := 10) (bq_3 bwX12_coachman_0 33 (by decide +kernel)) (by decide +kernel)
theorem dX12_coachman_36 : decode cX12_coachman 36 = .ok (.aload_n 0, 1) := bq_o42 (bq_of bwX12_coachman_0 36 (by decide +kernel))
theorem dX12_coachman_37 : decode cX12_coachman 37 = .ok (.bipush (-2), 2) := bq_o16 (a := 254) (bq_2 bwX12_coachman_0 37 (by decide +kernel)) (by decide +kernel)
theorem dX12_coachman_39 : decode cX12_coachman 39 = .ok (.invokevirtual 102, 3) := bq_o182 (a := 0) (b := 102) (bq_3 bwX12_coachman_0 39 (by decide +kernel)) rfl
theorem dX12_coachman_42 : decode cX12_coachman 42 = .ok (.ireturn, 1) := bq_o172 (bq_of bwX12_coachman_0 42 (by decide +kernel))
theorem dX12_coachman_43 : decode cX12_coachman 43 = .ok (.aload_n 0, 1) := bq_o42 (bq_of bwX12_coachman_0 43 (by decide +kernel))
theorem dX12_coachman_44 : decode cX12_coachman 44 = .ok (.getfield 7, 3) := bq_o180 (a := 0) (b := 7) (bq_3 bwX12_coachman_0 44 (by decide +kernel)) rfl
theorem dX12_coachman_47 : decode cX12_coachman 47 = .ok (.iload_n 1, 1) := bq_o27 (bq_of bwX12_coachman_0 47 (by decide +kernel))
theorem dX12_coachman_48 : decode cX12_coachman 48 = .ok (.iconst 2, 1) := bq_o5 (bq_of bwX12_coachman_0 48 (by decide +kernel))
theorem dX12_coachman_49 : decode cX12_coachman 49 = .ok (.iastore, 1) := bq_o79 (bq_of bwX12_coachman_0 49 (by decide +kernel))
theorem dX12_coachman_50 : decode cX12_coachman 50 = .ok (.aload_n 0, 1) := bq_o42 (bq_of bwX12_coachman_0 50 (by decide +kernel))
theorem dX12_coachman_51 : decode cX12_coachman 51 = .ok (.getfield 28, 3) := bq_o180 (a := 0) (b := 28) (bq_3 bwX12_coachman_0 51 (by decide +kernel)) rfl
theorem dX12_coachman_54 : decode cX12_coachman 54 = .ok (.iload_n 1, 1) := bq_o27 (bq_of bwX12_coachman_0 54 (by decide +kernel))
theorem dX12_coachman_55 : decode cX12_coachman 55 = .ok (.iload_n 2, 1) := bq_o28 (bq_of bwX12_coachman_0 55 (by decide +kernel))
theorem dX12_coachman_56 : decode cX12_coachman 56 = .ok (.iastore, 1) := bq_o79 (bq_of bwX12_coachman_0 56 (by decide +kernel))
theorem dX12_coachman_57 : decode cX12_coachman 57 = .ok (.aload_n 0, 1) := bq_o42 (bq_of bwX12_coachman_0 57 (by decide +kernel))
theorem dX12_coachman_58 : decode cX12_coachman 58 = .ok (.getfield 31, 3) := bq_o180 (a := 0) (b := 31) (bq_3 bwX12_coachman_0 58 (by decide +kernel)) rfl
theorem dX12_coachman_61 : decode cX12_coachman 61 = .ok (.iload_n 1, 1) := bq_o27 (bq_of bwX12_coachman_0 61 (by decide +kernel))
theorem dX12_coachman_62 : decode cX12_coachman 62 = .ok (.iload_n 3, 1) := bq_o29 (bq_of bwX12_coachman_0 62 (by decide +kernel))
theorem dX12_coachman_63 : decode cX12_coachman 63 = .ok (.iastore, 1) := bq_o79 (bq_of bwX12_coachman_0 63 (by decide +kernel))
def bwX12_coachman_64l : List Nat := [4, 172]
theorem bwX12_coachman_64 : ((cX12_coachman.data.toList.drop 64).take 2).map UInt8.toNat = bwX12_coachman_64l := by decide +kernel
theorem dX12_coachman_64 : decode cX12_coachman 64 = .ok (.iconst 1, 1) := bq_o4 (bq_of bwX12_coachman_64 0 (by decide +kernel))
theorem dX12_coachman_65 : decode cX12_coachman 65 = .ok (.ireturn, 1) := bq_o172 (bq_of bwX12_coachman_64 1 (by decide +kernel))
theorem dX12_isUnder_0 : decode cX12_isUnder 0 = .ok (.iload_n 1, 1) := by decide +kernel
theorem dX12_isUnder_1 : decode cX12_isUnder 1 = .ok (.ifCond .eq 8, 3) := by decide +kernel
theorem dX12_isUnder_4 : decode cX12_isUnder 4 = .ok (.iload_n 0, 1) := by decide +kernel
theorem dX12_isUnder_5 : decode cX12_isUnder 5 = .ok (.iload_n 1, 1) := by decide +kernel
theorem dX12_isUnder_6 : decode cX12_isUnder 6 = .ok (.if_icmp .ne 5, 3) := by decide +kernel
theorem dX12_isUnder_9 : decode cX12_isUnder 9 = .ok (.iconst 1, 1) := by decide +kernel
theorem dX12_isUnder_10 : decode cX12_isUnder 10 = .ok (.ireturn, 1) := by decide +kernel
theorem dX12_isUnder_11 : decode cX12_isUnder 11 = .ok (.iload_n 1, 1) := by decide +kernel
theorem dX12_isUnder_12 : decode cX12_isUnder 12 = .ok (.iconst 1, 1) := by decide +kernel
theorem dX12_isUnder_13 : decode cX12_isUnder 13 = .ok (.if_icmp .ne 16, 3) := by decide +kernel
theorem dX12_isUnder_16 : decode cX12_isUnder 16 = .ok (.iload_n 0, 1) := by decide +kernel
theorem dX12_isUnder_17 : decode cX12_isUnder 17 = .ok (.iconst 3, 1) := by decide +kernel
theorem dX12_isUnder_18 : decode cX12_isUnder 18 = .ok (.if_icmp .ne 7, 3) := by decide +kernel
theorem dX12_isUnder_21 : decode cX12_isUnder 21 = .ok (.iconst 1, 1) := by decide +kernel
theorem dX12_isUnder_22 : decode cX12_isUnder 22 = .ok (.goto 22, 3) := by decide +kernel
theorem dX12_isUnder_25 : decode cX12_isUnder 25 = .ok (.iconst 0, 1) := by decide +kernel
theorem dX12_isUnder_26 : decode cX12_isUnder 26 = .ok (.goto 18, 3) := by decide +kernel
theorem dX12_isUnder_29 : decode cX12_isUnder 29 = .ok (.iload_n 1, 1) := by decide +kernel
theorem dX12_isUnder_30 : decode cX12_isUnder 30 = .ok (.iconst 2, 1) := by decide +kernel
theorem dX12_isUnder_31 : decode cX12_isUnder 31 = .ok (.if_icmp .ne 12, 3) := by decide +kernel
theorem dX12_isUnder_34 : decode cX12_isUnder 34 = .ok (.iload_n 0, 1) := by decide +kernel
theorem dX12_isUnder_35 : decode cX12_isUnder 35 = .ok (.iconst 4, 1) := by decide +kernel
theorem dX12_isUnder_36 : decode cX12_isUnder 36 = .ok (.if_icmp .lt 7, 3) := by decide +kernel
theorem dX12_isUnder_39 : decode cX12_isUnder 39 = .ok (.iconst 1, 1) := by decide +kernel
theorem dX12_isUnder_40 : decode cX12_isUnder 40 = .ok (.goto 4, 3) := by decide +kernel
theorem dX12_isUnder_43 : decode cX12_isUnder 43 = .ok (.iconst 0, 1) := by decide +kernel
theorem dX12_isUnder_44 : decode cX12_isUnder 44 = .ok (.ireturn, 1) := by decide +kernel
def bwX12_says_0l : List Nat := [27, 133, 9, 20, 0, 96, 184, 0, 88, 153, 0, 15, 28, 133, 9, 20, 0, 113, 184, 0, 88, 154, 0, 10, 42, 16, 254, 182, 0, 102, 172, 42, 180, 0, 7, 27, 46, 4, 159, 0, 26, 42, 180, 0, 7, 27, 46, 5, 160, 0, 23, 42, 180, 0, 28, 27, 46, 28, 184, 0, 117, 154, 0, 10, 42, 16]
theorem bwX12_says_0 : ((cX12_says.data.toList.drop 0).take 66).map UInt8.toNat = bwX12_says_0l := by decide +kernel
theorem dX12_says_0 : decode cX12_says 0 = .ok (.iload_n 1, 1) := bq_o27 (bq_of bwX12_says_0 0 (by decide +kernel))
theorem dX12_says_1 : decode cX12_says 1 = .ok (.i2l, 1) := bq_o133 (bq_of bwX12_says_0 1 (by decide +kernel))
theorem dX12_says_2 : decode cX12_says 2 = .ok (.lconst 0, 1) := bq_o9 (bq_of bwX12_says_0 2 (by decide +kernel))
theorem dX12_says_3 : decode cX12_says 3 = .ok (.ldc2_w 96, 3) := bq_o20 (a := 0) (b := 96) (bq_3 bwX12_says_0 3 (by decide +kernel)) rfl
theorem dX12_says_6 : decode cX12_says 6 = .ok (.invokestatic 88, 3) := bq_o184 (a := 0) (b := 88) (bq_3 bwX12_says_0 6 (by decide +kernel)) rfl
theorem dX12_says_9 : decode cX12_says 9 = .ok (.ifCond .eq 15, 3) := bq_o153 (a := 0) (b := 15) (bq_3 bwX12_says_0 9 (by decide +kernel)) (by decide +kernel)
theorem dX12_says_12 : decode cX12_says 12 = .ok (.iload_n 2, 1) := bq_o28 (bq_of bwX12_says_0 12 (by decide +kernel))
theorem dX12_says_13 : decode cX12_says 13 = .ok (.i2l, 1) := bq_o133 (bq_of bwX12_says_0 13 (by decide +kernel))
theorem dX12_says_14 : decode cX12_says 14 = .ok (.lconst 0, 1) := bq_o9 (bq_of bwX12_says_0 14 (by decide +kernel))
theorem dX12_says_15 : decode cX12_says 15 = .ok (.ldc2_w 113, 3) := bq_o20 (a := 0) (b := 113) (bq_3 bwX12_says_0 15 (by decide +kernel)) rfl
theorem dX12_says_18 : decode cX12_says 18 = .ok (.invokestatic 88, 3) := bq_o184 (a := 0) (b := 88) (bq_3 bwX12_says_0 18 (by decide +kernel)) rfl
theorem dX12_says_21 : decode cX12_says 21 = .ok (.ifCond .ne 10, 3) := bq_o154 (a := 0) (b := 10) (bq_3 bwX12_says_0 21 (by decide +kernel)) (by decide +kernel)
theorem dX12_says_24 : decode cX12_says 24 = .ok (.aload_n 0, 1) := bq_o42 (bq_of bwX12_says_0 24 (by decide +kernel))
theorem dX12_says_25 : decode cX12_says 25 = .ok (.bipush (-2), 2) := bq_o16 (a := 254) (bq_2 bwX12_says_0 25 (by decide +kernel)) (by decide +kernel)
theorem dX12_says_27 : decode cX12_says 27 = .ok (.invokevirtual 102, 3) := bq_o182 (a := 0) (b := 102) (bq_3 bwX12_says_0 27 (by decide +kernel)) rfl
theorem dX12_says_30 : decode cX12_says 30 = .ok (.ireturn, 1) := bq_o172 (bq_of bwX12_says_0 30 (by decide +kernel))
theorem dX12_says_31 : decode cX12_says 31 = .ok (.aload_n 0, 1) := bq_o42 (bq_of bwX12_says_0 31 (by decide +kernel))
theorem dX12_says_32 : decode cX12_says 32 = .ok (.getfield 7, 3) := bq_o180 (a := 0) (b := 7) (bq_3 bwX12_says_0 32 (by decide +kernel)) rfl
theorem dX12_says_35 : decode cX12_says 35 = .ok (.iload_n 1, 1) := bq_o27 (bq_of bwX12_says_0 35 (by decide +kernel))
theorem dX12_says_36 : decode cX12_says 36 = .ok (.iaload, 1) := bq_o46 (bq_of bwX12_says_0 36 (by decide +kernel))
theorem dX12_says_37 : decode cX12_says 37 = .ok (.iconst 1, 1) := bq_o4 (bq_of bwX12_says_0 37 (by decide +kernel))
theorem dX12_says_38 : decode cX12_says 38 = .ok (.if_icmp .eq 26, 3) := bq_o159 (a := 0) (b := 26) (bq_3 bwX12_says_0 38 (by decide +kernel)) (by decide +kernel)
theorem dX12_says_41 : decode cX12_says 41 = .ok (.aload_n 0, 1) := bq_o42 (bq_of bwX12_says_0 41 (by decide +kernel))
theorem dX12_says_42 : decode cX12_says 42 = .ok (.getfield 7, 3) := bq_o180 (a := 0) (b := 7) (bq_3 bwX12_says_0 42 (by decide +kernel)) rfl
theorem dX12_says_45 : decode cX12_says 45 = .ok (.iload_n 1, 1) := bq_o27 (bq_of bwX12_says_0 45 (by decide +kernel))
theorem dX12_says_46 : decode cX12_says 46 = .ok (.iaload, 1) := bq_o46 (bq_of bwX12_says_0 46 (by decide +kernel))
theorem dX12_says_47 : decode cX12_says 47 = .ok (.iconst 2, 1) := bq_o5 (bq_of bwX12_says_0 47 (by decide +kernel))
theorem dX12_says_48 : decode cX12_says 48 = .ok (.if_icmp .ne 23, 3) := bq_o160 (a := 0) (b := 23) (bq_3 bwX12_says_0 48 (by decide +kernel)) (by decide +kernel)
theorem dX12_says_51 : decode cX12_says 51 = .ok (.aload_n 0, 1) := bq_o42 (bq_of bwX12_says_0 51 (by decide +kernel))
theorem dX12_says_52 : decode cX12_says 52 = .ok (.getfield 28, 3) := bq_o180 (a := 0) (b := 28) (bq_3 bwX12_says_0 52 (by decide +kernel)) rfl
theorem dX12_says_55 : decode cX12_says 55 = .ok (.iload_n 1, 1) := bq_o27 (bq_of bwX12_says_0 55 (by decide +kernel))
theorem dX12_says_56 : decode cX12_says 56 = .ok (.iaload, 1) := bq_o46 (bq_of bwX12_says_0 56 (by decide +kernel))
theorem dX12_says_57 : decode cX12_says 57 = .ok (.iload_n 2, 1) := bq_o28 (bq_of bwX12_says_0 57 (by decide +kernel))
theorem dX12_says_58 : decode cX12_says 58 = .ok (.invokestatic 117, 3) := bq_o184 (a := 0) (b := 117) (bq_3 bwX12_says_0 58 (by decide +kernel)) rfl
theorem dX12_says_61 : decode cX12_says 61 = .ok (.ifCond .ne 10, 3) := bq_o154 (a := 0) (b := 10) (bq_3 bwX12_says_0 61 (by decide +kernel)) (by decide +kernel)
def bwX12_says_64l : List Nat := [42, 16, 253, 182, 0, 102, 172, 42, 180, 0, 7, 27, 46, 154, 0, 10, 42, 16, 252, 182, 0, 102, 172, 28, 154, 0, 12, 42, 180, 0, 31, 27, 46, 167, 0, 24, 42, 42, 180, 0, 28, 27, 46, 42, 180, 0, 31, 27, 46, 42, 182, 0, 92, 3, 182, 0, 121, 172]
theorem bwX12_says_64 : ((cX12_says.data.toList.drop 64).take 58).map UInt8.toNat = bwX12_says_64l := by decide +kernel
theorem dX12_says_64 : decode cX12_says 64 = .ok (.aload_n 0, 1) := bq_o42 (bq_of bwX12_says_64 0 (by decide +kernel))
theorem dX12_says_65 : decode cX12_says 65 = .ok (.bipush (-3), 2) := bq_o16 (a := 253) (bq_2 bwX12_says_64 1 (by decide +kernel)) (by decide +kernel)
theorem dX12_says_67 : decode cX12_says 67 = .ok (.invokevirtual 102, 3) := bq_o182 (a := 0) (b := 102) (bq_3 bwX12_says_64 3 (by decide +kernel)) rfl
theorem dX12_says_70 : decode cX12_says 70 = .ok (.ireturn, 1) := bq_o172 (bq_of bwX12_says_64 6 (by decide +kernel))
theorem dX12_says_71 : decode cX12_says 71 = .ok (.aload_n 0, 1) := bq_o42 (bq_of bwX12_says_64 7 (by decide +kernel))
theorem dX12_says_72 : decode cX12_says 72 = .ok (.getfield 7, 3) := bq_o180 (a := 0) (b := 7) (bq_3 bwX12_says_64 8 (by decide +kernel)) rfl
theorem dX12_says_75 : decode cX12_says 75 = .ok (.iload_n 1, 1) := bq_o27 (bq_of bwX12_says_64 11 (by decide +kernel))
theorem dX12_says_76 : decode cX12_says 76 = .ok (.iaload, 1) := bq_o46 (bq_of bwX12_says_64 12 (by decide +kernel))
theorem dX12_says_77 : decode cX12_says 77 = .ok (.ifCond .ne 10, 3) := bq_o154 (a := 0) (b := 10) (bq_3 bwX12_says_64 13 (by decide +kernel)) (by decide +kernel)
theorem dX12_says_80 : decode cX12_says 80 = .ok (.aload_n 0, 1) := bq_o42 (bq_of bwX12_says_64 16 (by decide +kernel))
theorem dX12_says_81 : decode cX12_says 81 = .ok (.bipush (-4), 2) := bq_o16 (a := 252) (bq_2 bwX12_says_64 17 (by decide +kernel)) (by decide +kernel)
theorem dX12_says_83 : decode cX12_says 83 = .ok (.invokevirtual 102, 3) := bq_o182 (a := 0) (b := 102) (bq_3 bwX12_says_64 19 (by decide +kernel)) rfl
theorem dX12_says_86 : decode cX12_says 86 = .ok (.ireturn, 1) := bq_o172 (bq_of bwX12_says_64 22 (by decide +kernel))
theorem dX12_says_87 : decode cX12_says 87 = .ok (.iload_n 2, 1) := bq_o28 (bq_of bwX12_says_64 23 (by decide +kernel))
theorem dX12_says_88 : decode cX12_says 88 = .ok (.ifCond .ne 12, 3) := bq_o154 (a := 0) (b := 12) (bq_3 bwX12_says_64 24 (by decide +kernel)) (by decide +kernel)
theorem dX12_says_91 : decode cX12_says 91 = .ok (.aload_n 0, 1) := bq_o42 (bq_of bwX12_says_64 27 (by decide +kernel))
theorem dX12_says_92 : decode cX12_says 92 = .ok (.getfield 31, 3) := bq_o180 (a := 0) (b := 31) (bq_3 bwX12_says_64 28 (by decide +kernel)) rfl
theorem dX12_says_95 : decode cX12_says 95 = .ok (.iload_n 1, 1) := bq_o27 (bq_of bwX12_says_64 31 (by decide +kernel))
theorem dX12_says_96 : decode cX12_says 96 = .ok (.iaload, 1) := bq_o46 (bq_of bwX12_says_64 32 (by decide +kernel))
theorem dX12_says_97 : decode cX12_says 97 = .ok (.goto 24, 3) := bq_o167 (a := 0) (b := 24) (bq_3 bwX12_says_64 33 (by decide +kernel)) (by decide +kernel)
theorem dX12_says_100 : decode cX12_says 100 = .ok (.aload_n 0, 1) := bq_o42 (bq_of bwX12_says_64 36 (by decide +kernel))
theorem dX12_says_101 : decode cX12_says 101 = .ok (.aload_n 0, 1) := bq_o42 (bq_of bwX12_says_64 37 (by decide +kernel))
theorem dX12_says_102 : decode cX12_says 102 = .ok (.getfield 28, 3) := bq_o180 (a := 0) (b := 28) (bq_3 bwX12_says_64 38 (by decide +kernel)) rfl
theorem dX12_says_105 : decode cX12_says 105 = .ok (.iload_n 1, 1) := bq_o27 (bq_of bwX12_says_64 41 (by decide +kernel))
theorem dX12_says_106 : decode cX12_says 106 = .ok (.iaload, 1) := bq_o46 (bq_of bwX12_says_64 42 (by decide +kernel))
theorem dX12_says_107 : decode cX12_says 107 = .ok (.aload_n 0, 1) := bq_o42 (bq_of bwX12_says_64 43 (by decide +kernel))
theorem dX12_says_108 : decode cX12_says 108 = .ok (.getfield 31, 3) := bq_o180 (a := 0) (b := 31) (bq_3 bwX12_says_64 44 (by decide +kernel)) rfl
theorem dX12_says_111 : decode cX12_says 111 = .ok (.iload_n 1, 1) := bq_o27 (bq_of bwX12_says_64 47 (by decide +kernel))
theorem dX12_says_112 : decode cX12_says 112 = .ok (.iaload, 1) := bq_o46 (bq_of bwX12_says_64 48 (by decide +kernel))
theorem dX12_says_113 : decode cX12_says 113 = .ok (.aload_n 0, 1) := bq_o42 (bq_of bwX12_says_64 49 (by decide +kernel))
theorem dX12_says_114 : decode cX12_says 114 = .ok (.invokevirtual 92, 3) := bq_o182 (a := 0) (b := 92) (bq_3 bwX12_says_64 50 (by decide +kernel)) rfl
theorem dX12_says_117 : decode cX12_says 117 = .ok (.iconst 0, 1) := bq_o3 (bq_of bwX12_says_64 53 (by decide +kernel))
theorem dX12_says_118 : decode cX12_says 118 = .ok (.invokevirtual 121, 3) := bq_o182 (a := 0) (b := 121) (bq_3 bwX12_says_64 54 (by decide +kernel)) rfl
theorem dX12_says_121 : decode cX12_says 121 = .ok (.ireturn, 1) := bq_o172 (bq_of bwX12_says_64 57 (by decide +kernel))
def bwX12_addOne_0l : List Nat := [42, 180, 0, 40, 42, 180, 0, 85, 27, 79, 42, 180, 0, 43, 42, 180, 0, 85, 28, 79, 3, 62, 29, 42, 180, 0, 85, 162, 0, 33, 42, 180, 0, 48, 42, 180, 0, 85, 50, 29, 2, 79, 42, 180, 0, 48, 29, 50, 42, 180, 0, 85, 2, 79, 132, 3, 1, 167, 255, 221, 42, 89, 180, 0, 85, 4]
theorem bwX12_addOne_0 : ((cX12_addOne.data.toList.drop 0).take 66).map UInt8.toNat = bwX12_addOne_0l := by decide +kernel
theorem dX12_addOne_0 : decode cX12_addOne 0 = .ok (.aload_n 0, 1) := bq_o42 (bq_of bwX12_addOne_0 0 (by decide +kernel))
theorem dX12_addOne_1 : decode cX12_addOne 1 = .ok (.getfield 40, 3) := bq_o180 (a := 0) (b := 40) (bq_3 bwX12_addOne_0 1 (by decide +kernel)) rfl
theorem dX12_addOne_4 : decode cX12_addOne 4 = .ok (.aload_n 0, 1) := bq_o42 (bq_of bwX12_addOne_0 4 (by decide +kernel))
theorem dX12_addOne_5 : decode cX12_addOne 5 = .ok (.getfield 85, 3) := bq_o180 (a := 0) (b := 85) (bq_3 bwX12_addOne_0 5 (by decide +kernel)) rfl
theorem dX12_addOne_8 : decode cX12_addOne 8 = .ok (.iload_n 1, 1) := bq_o27 (bq_of bwX12_addOne_0 8 (by decide +kernel))
theorem dX12_addOne_9 : decode cX12_addOne 9 = .ok (.iastore, 1) := bq_o79 (bq_of bwX12_addOne_0 9 (by decide +kernel))
theorem dX12_addOne_10 : decode cX12_addOne 10 = .ok (.aload_n 0, 1) := bq_o42 (bq_of bwX12_addOne_0 10 (by decide +kernel))
theorem dX12_addOne_11 : decode cX12_addOne 11 = .ok (.getfield 43, 3) := bq_o180 (a := 0) (b := 43) (bq_3 bwX12_addOne_0 11 (by decide +kernel)) rfl
theorem dX12_addOne_14 : decode cX12_addOne 14 = .ok (.aload_n 0, 1) := bq_o42 (bq_of bwX12_addOne_0 14 (by decide +kernel))
theorem dX12_addOne_15 : decode cX12_addOne 15 = .ok (.getfield 85, 3) := bq_o180 (a := 0) (b := 85) (bq_3 bwX12_addOne_0 15 (by decide +kernel)) rfl
theorem dX12_addOne_18 : decode cX12_addOne 18 = .ok (.iload_n 2, 1) := bq_o28 (bq_of bwX12_addOne_0 18 (by decide +kernel))
theorem dX12_addOne_19 : decode cX12_addOne 19 = .ok (.iastore, 1) := bq_o79 (bq_of bwX12_addOne_0 19 (by decide +kernel))
theorem dX12_addOne_20 : decode cX12_addOne 20 = .ok (.iconst 0, 1) := bq_o3 (bq_of bwX12_addOne_0 20 (by decide +kernel))
theorem dX12_addOne_21 : decode cX12_addOne 21 = .ok (.istore_n 3, 1) := bq_o62 (bq_of bwX12_addOne_0 21 (by decide +kernel))
theorem dX12_addOne_22 : decode cX12_addOne 22 = .ok (.iload_n 3, 1) := bq_o29 (bq_of bwX12_addOne_0 22 (by decide +kernel))
theorem dX12_addOne_23 : decode cX12_addOne 23 = .ok (.aload_n 0, 1) := bq_o42 (bq_of bwX12_addOne_0 23 (by decide +kernel))
theorem dX12_addOne_24 : decode cX12_addOne 24 = .ok (.getfield 85, 3) := bq_o180 (a := 0) (b := 85) (bq_3 bwX12_addOne_0 24 (by decide +kernel)) rfl
theorem dX12_addOne_27 : decode cX12_addOne 27 = .ok (.if_icmp .ge 33, 3) := bq_o162 (a := 0) (b := 33) (bq_3 bwX12_addOne_0 27 (by decide +kernel)) (by decide +kernel)
theorem dX12_addOne_30 : decode cX12_addOne 30 = .ok (.aload_n 0, 1) := bq_o42 (bq_of bwX12_addOne_0 30 (by decide +kernel))
theorem dX12_addOne_31 : decode cX12_addOne 31 = .ok (.getfield 48, 3) := bq_o180 (a := 0) (b := 48) (bq_3 bwX12_addOne_0 31 (by decide +kernel)) rfl
theorem dX12_addOne_34 : decode cX12_addOne 34 = .ok (.aload_n 0, 1) := bq_o42 (bq_of bwX12_addOne_0 34 (by decide +kernel))
theorem dX12_addOne_35 : decode cX12_addOne 35 = .ok (.getfield 85, 3) := bq_o180 (a := 0) (b := 85) (bq_3 bwX12_addOne_0 35 (by decide +kernel)) rfl
theorem dX12_addOne_38 : decode cX12_addOne 38 = .ok (.aaload, 1) := bq_o50 (bq_of bwX12_addOne_0 38 (by decide +kernel))
theorem dX12_addOne_39 : decode cX12_addOne 39 = .ok (.iload_n 3, 1) := bq_o29 (bq_of bwX12_addOne_0 39 (by decide +kernel))
theorem dX12_addOne_40 : decode cX12_addOne 40 = .ok (.iconst (-1), 1) := bq_o2 (bq_of bwX12_addOne_0 40 (by decide +kernel))
theorem dX12_addOne_41 : decode cX12_addOne 41 = .ok (.iastore, 1) := bq_o79 (bq_of bwX12_addOne_0 41 (by decide +kernel))
theorem dX12_addOne_42 : decode cX12_addOne 42 = .ok (.aload_n 0, 1) := bq_o42 (bq_of bwX12_addOne_0 42 (by decide +kernel))
theorem dX12_addOne_43 : decode cX12_addOne 43 = .ok (.getfield 48, 3) := bq_o180 (a := 0) (b := 48) (bq_3 bwX12_addOne_0 43 (by decide +kernel)) rfl
theorem dX12_addOne_46 : decode cX12_addOne 46 = .ok (.iload_n 3, 1) := bq_o29 (bq_of bwX12_addOne_0 46 (by decide +kernel))
theorem dX12_addOne_47 : decode cX12_addOne 47 = .ok (.aaload, 1) := bq_o50 (bq_of bwX12_addOne_0 47 (by decide +kernel))
theorem dX12_addOne_48 : decode cX12_addOne 48 = .ok (.aload_n 0, 1) := bq_o42 (bq_of bwX12_addOne_0 48 (by decide +kernel))
theorem dX12_addOne_49 : decode cX12_addOne 49 = .ok (.getfield 85, 3) := bq_o180 (a := 0) (b := 85) (bq_3 bwX12_addOne_0 49 (by decide +kernel)) rfl
theorem dX12_addOne_52 : decode cX12_addOne 52 = .ok (.iconst (-1), 1) := bq_o2 (bq_of bwX12_addOne_0 52 (by decide +kernel))
theorem dX12_addOne_53 : decode cX12_addOne 53 = .ok (.iastore, 1) := bq_o79 (bq_of bwX12_addOne_0 53 (by decide +kernel))
theorem dX12_addOne_54 : decode cX12_addOne 54 = .ok (.iinc 3 1, 3) := bq_o132 (a := 3) (b := 1) (bq_3 bwX12_addOne_0 54 (by decide +kernel)) rfl (by decide +kernel)
theorem dX12_addOne_57 : decode cX12_addOne 57 = .ok (.goto (-35), 3) := bq_o167 (a := 255) (b := 221) (bq_3 bwX12_addOne_0 57 (by decide +kernel)) (by decide +kernel)
theorem dX12_addOne_60 : decode cX12_addOne 60 = .ok (.aload_n 0, 1) := bq_o42 (bq_of bwX12_addOne_0 60 (by decide +kernel))
theorem dX12_addOne_61 : decode cX12_addOne 61 = .ok (.dup, 1) := bq_o89 (bq_of bwX12_addOne_0 61 (by decide +kernel))
theorem dX12_addOne_62 : decode cX12_addOne 62 = .ok (.getfield 85, 3) := bq_o180 (a := 0) (b := 85) (bq_3 bwX12_addOne_0 62 (by decide +kernel)) rfl
def bwX12_addOne_64l : List Nat := [85, 4, 96, 181, 0, 85, 177]
theorem bwX12_addOne_64 : ((cX12_addOne.data.toList.drop 64).take 7).map UInt8.toNat = bwX12_addOne_64l := by decide +kernel
theorem dX12_addOne_65 : decode cX12_addOne 65 = .ok (.iconst 1, 1) := bq_o4 (bq_of bwX12_addOne_64 1 (by decide +kernel))
theorem dX12_addOne_66 : decode cX12_addOne 66 = .ok (.iadd, 1) := bq_o96 (bq_of bwX12_addOne_64 2 (by decide +kernel))
theorem dX12_addOne_67 : decode cX12_addOne 67 = .ok (.putfield 85, 3) := bq_o181 (a := 0) (b := 85) (bq_3 bwX12_addOne_64 3 (by decide +kernel)) rfl
theorem dX12_addOne_70 : decode cX12_addOne 70 = .ok (.return_, 1) := bq_o177 (bq_of bwX12_addOne_64 6 (by decide +kernel))
def bwX12_person_0l : List Nat := [27, 133, 9, 20, 0, 125, 184, 0, 88, 153, 0, 15, 28, 133, 9, 20, 0, 115, 184, 0, 88, 154, 0, 10, 42, 16, 254, 182, 0, 102, 172, 42, 180, 0, 85, 16, 7, 160, 0, 10, 42, 16, 250, 182, 0, 102, 172, 42, 27, 28, 182, 0, 127, 42, 180, 0, 85, 4, 100, 172]
theorem bwX12_person_0 : ((cX12_person.data.toList.drop 0).take 60).map UInt8.toNat = bwX12_person_0l := by decide +kernel
theorem dX12_person_0 : decode cX12_person 0 = .ok (.iload_n 1, 1) := bq_o27 (bq_of bwX12_person_0 0 (by decide +kernel))
theorem dX12_person_1 : decode cX12_person 1 = .ok (.i2l, 1) := bq_o133 (bq_of bwX12_person_0 1 (by decide +kernel))
theorem dX12_person_2 : decode cX12_person 2 = .ok (.lconst 0, 1) := bq_o9 (bq_of bwX12_person_0 2 (by decide +kernel))
theorem dX12_person_3 : decode cX12_person 3 = .ok (.ldc2_w 125, 3) := bq_o20 (a := 0) (b := 125) (bq_3 bwX12_person_0 3 (by decide +kernel)) rfl
theorem dX12_person_6 : decode cX12_person 6 = .ok (.invokestatic 88, 3) := bq_o184 (a := 0) (b := 88) (bq_3 bwX12_person_0 6 (by decide +kernel)) rfl
theorem dX12_person_9 : decode cX12_person 9 = .ok (.ifCond .eq 15, 3) := bq_o153 (a := 0) (b := 15) (bq_3 bwX12_person_0 9 (by decide +kernel)) (by decide +kernel)
theorem dX12_person_12 : decode cX12_person 12 = .ok (.iload_n 2, 1) := bq_o28 (bq_of bwX12_person_0 12 (by decide +kernel))
theorem dX12_person_13 : decode cX12_person 13 = .ok (.i2l, 1) := bq_o133 (bq_of bwX12_person_0 13 (by decide +kernel))
theorem dX12_person_14 : decode cX12_person 14 = .ok (.lconst 0, 1) := bq_o9 (bq_of bwX12_person_0 14 (by decide +kernel))
theorem dX12_person_15 : decode cX12_person 15 = .ok (.ldc2_w 115, 3) := bq_o20 (a := 0) (b := 115) (bq_3 bwX12_person_0 15 (by decide +kernel)) rfl
theorem dX12_person_18 : decode cX12_person 18 = .ok (.invokestatic 88, 3) := bq_o184 (a := 0) (b := 88) (bq_3 bwX12_person_0 18 (by decide +kernel)) rfl
theorem dX12_person_21 : decode cX12_person 21 = .ok (.ifCond .ne 10, 3) := bq_o154 (a := 0) (b := 10) (bq_3 bwX12_person_0 21 (by decide +kernel)) (by decide +kernel)
theorem dX12_person_24 : decode cX12_person 24 = .ok (.aload_n 0, 1) := bq_o42 (bq_of bwX12_person_0 24 (by decide +kernel))
theorem dX12_person_25 : decode cX12_person 25 = .ok (.bipush (-2), 2) := bq_o16 (a := 254) (bq_2 bwX12_person_0 25 (by decide +kernel)) (by decide +kernel)
theorem dX12_person_27 : decode cX12_person 27 = .ok (.invokevirtual 102, 3) := bq_o182 (a := 0) (b := 102) (bq_3 bwX12_person_0 27 (by decide +kernel)) rfl
theorem dX12_person_30 : decode cX12_person 30 = .ok (.ireturn, 1) := bq_o172 (bq_of bwX12_person_0 30 (by decide +kernel))
theorem dX12_person_31 : decode cX12_person 31 = .ok (.aload_n 0, 1) := bq_o42 (bq_of bwX12_person_0 31 (by decide +kernel))
theorem dX12_person_32 : decode cX12_person 32 = .ok (.getfield 85, 3) := bq_o180 (a := 0) (b := 85) (bq_3 bwX12_person_0 32 (by decide +kernel)) rfl
theorem dX12_person_35 : decode cX12_person 35 = .ok (.bipush 7, 2) := bq_o16 (a := 7) (bq_2 bwX12_person_0 35 (by decide +kernel)) (by decide +kernel)
theorem dX12_person_37 : decode cX12_person 37 = .ok (.if_icmp .ne 10, 3) := bq_o160 (a := 0) (b := 10) (bq_3 bwX12_person_0 37 (by decide +kernel)) (by decide +kernel)
theorem dX12_person_40 : decode cX12_person 40 = .ok (.aload_n 0, 1) := bq_o42 (bq_of bwX12_person_0 40 (by decide +kernel))
theorem dX12_person_41 : decode cX12_person 41 = .ok (.bipush (-6), 2) := bq_o16 (a := 250) (bq_2 bwX12_person_0 41 (by decide +kernel)) (by decide +kernel)
theorem dX12_person_43 : decode cX12_person 43 = .ok (.invokevirtual 102, 3) := bq_o182 (a := 0) (b := 102) (bq_3 bwX12_person_0 43 (by decide +kernel)) rfl
theorem dX12_person_46 : decode cX12_person 46 = .ok (.ireturn, 1) := bq_o172 (bq_of bwX12_person_0 46 (by decide +kernel))
theorem dX12_person_47 : decode cX12_person 47 = .ok (.aload_n 0, 1) := bq_o42 (bq_of bwX12_person_0 47 (by decide +kernel))
theorem dX12_person_48 : decode cX12_person 48 = .ok (.iload_n 1, 1) := bq_o27 (bq_of bwX12_person_0 48 (by decide +kernel))
theorem dX12_person_49 : decode cX12_person 49 = .ok (.iload_n 2, 1) := bq_o28 (bq_of bwX12_person_0 49 (by decide +kernel))
theorem dX12_person_50 : decode cX12_person 50 = .ok (.invokevirtual 127, 3) := bq_o182 (a := 0) (b := 127) (bq_3 bwX12_person_0 50 (by decide +kernel)) rfl
theorem dX12_person_53 : decode cX12_person 53 = .ok (.aload_n 0, 1) := bq_o42 (bq_of bwX12_person_0 53 (by decide +kernel))
theorem dX12_person_54 : decode cX12_person 54 = .ok (.getfield 85, 3) := bq_o180 (a := 0) (b := 85) (bq_3 bwX12_person_0 54 (by decide +kernel)) rfl
theorem dX12_person_57 : decode cX12_person 57 = .ok (.iconst 1, 1) := bq_o4 (bq_of bwX12_person_0 57 (by decide +kernel))
theorem dX12_person_58 : decode cX12_person 58 = .ok (.isub, 1) := bq_o100 (bq_of bwX12_person_0 58 (by decide +kernel))
theorem dX12_person_59 : decode cX12_person 59 = .ok (.ireturn, 1) := bq_o172 (bq_of bwX12_person_0 59 (by decide +kernel))
def bwX12_change_0l : List Nat := [42, 27, 182, 0, 131, 153, 0, 35, 28, 133, 9, 10, 184, 0, 88, 153, 0, 25, 29, 133, 9, 28, 154, 0, 9, 20, 0, 125, 167, 0, 6, 20, 0, 115, 184, 0, 88, 154, 0, 10, 42, 16, 254, 182, 0, 102, 172, 28, 154, 0, 12, 42, 180, 0, 40, 27, 46, 167, 0, 9, 42, 180, 0, 43, 27, 46]
theorem bwX12_change_0 : ((cX12_change.data.toList.drop 0).take 66).map UInt8.toNat = bwX12_change_0l := by decide +kernel
theorem dX12_change_0 : decode cX12_change 0 = .ok (.aload_n 0, 1) := bq_o42 (bq_of bwX12_change_0 0 (by decide +kernel))
theorem dX12_change_1 : decode cX12_change 1 = .ok (.iload_n 1, 1) := bq_o27 (bq_of bwX12_change_0 1 (by decide +kernel))
theorem dX12_change_2 : decode cX12_change 2 = .ok (.invokevirtual 131, 3) := bq_o182 (a := 0) (b := 131) (bq_3 bwX12_change_0 2 (by decide +kernel)) rfl
theorem dX12_change_5 : decode cX12_change 5 = .ok (.ifCond .eq 35, 3) := bq_o153 (a := 0) (b := 35) (bq_3 bwX12_change_0 5 (by decide +kernel)) (by decide +kernel)
theorem dX12_change_8 : decode cX12_change 8 = .ok (.iload_n 2, 1) := bq_o28 (bq_of bwX12_change_0 8 (by decide +kernel))
theorem dX12_change_9 : decode cX12_change 9 = .ok (.i2l, 1) := bq_o133 (bq_of bwX12_change_0 9 (by decide +kernel))
theorem dX12_change_10 : decode cX12_change 10 = .ok (.lconst 0, 1) := bq_o9 (bq_of bwX12_change_0 10 (by decide +kernel))
theorem dX12_change_11 : decode cX12_change 11 = .ok (.lconst 1, 1) := bq_o10 (bq_of bwX12_change_0 11 (by decide +kernel))
theorem dX12_change_12 : decode cX12_change 12 = .ok (.invokestatic 88, 3) := bq_o184 (a := 0) (b := 88) (bq_3 bwX12_change_0 12 (by decide +kernel)) rfl
theorem dX12_change_15 : decode cX12_change 15 = .ok (.ifCond .eq 25, 3) := bq_o153 (a := 0) (b := 25) (bq_3 bwX12_change_0 15 (by decide +kernel)) (by decide +kernel)
theorem dX12_change_18 : decode cX12_change 18 = .ok (.iload_n 3, 1) := bq_o29 (bq_of bwX12_change_0 18 (by decide +kernel))
theorem dX12_change_19 : decode cX12_change 19 = .ok (.i2l, 1) := bq_o133 (bq_of bwX12_change_0 19 (by decide +kernel))
theorem dX12_change_20 : decode cX12_change 20 = .ok (.lconst 0, 1) := bq_o9 (bq_of bwX12_change_0 20 (by decide +kernel))
theorem dX12_change_21 : decode cX12_change 21 = .ok (.iload_n 2, 1) := bq_o28 (bq_of bwX12_change_0 21 (by decide +kernel))
theorem dX12_change_22 : decode cX12_change 22 = .ok (.ifCond .ne 9, 3) := bq_o154 (a := 0) (b := 9) (bq_3 bwX12_change_0 22 (by decide +kernel)) (by decide +kernel)
theorem dX12_change_25 : decode cX12_change 25 = .ok (.ldc2_w 125, 3) := bq_o20 (a := 0) (b := 125) (bq_3 bwX12_change_0 25 (by decide +kernel)) rfl
theorem dX12_change_28 : decode cX12_change 28 = .ok (.goto 6, 3) := bq_o167 (a := 0) (b := 6) (bq_3 bwX12_change_0 28 (by decide +kernel)) (by decide +kernel)
theorem dX12_change_31 : decode cX12_change 31 = .ok (.ldc2_w 115, 3) := bq_o20 (a := 0) (b := 115) (bq_3 bwX12_change_0 31 (by decide +kernel)) rfl
theorem dX12_change_34 : decode cX12_change 34 = .ok (.invokestatic 88, 3) := bq_o184 (a := 0) (b := 88) (bq_3 bwX12_change_0 34 (by decide +kernel)) rfl
theorem dX12_change_37 : decode cX12_change 37 = .ok (.ifCond .ne 10, 3) := bq_o154 (a := 0) (b := 10) (bq_3 bwX12_change_0 37 (by decide +kernel)) (by decide +kernel)
theorem dX12_change_40 : decode cX12_change 40 = .ok (.aload_n 0, 1) := bq_o42 (bq_of bwX12_change_0 40 (by decide +kernel))
theorem dX12_change_41 : decode cX12_change 41 = .ok (.bipush (-2), 2) := bq_o16 (a := 254) (bq_2 bwX12_change_0 41 (by decide +kernel)) (by decide +kernel)
theorem dX12_change_43 : decode cX12_change 43 = .ok (.invokevirtual 102, 3) := bq_o182 (a := 0) (b := 102) (bq_3 bwX12_change_0 43 (by decide +kernel)) rfl
theorem dX12_change_46 : decode cX12_change 46 = .ok (.ireturn, 1) := bq_o172 (bq_of bwX12_change_0 46 (by decide +kernel))
theorem dX12_change_47 : decode cX12_change 47 = .ok (.iload_n 2, 1) := bq_o28 (bq_of bwX12_change_0 47 (by decide +kernel))
theorem dX12_change_48 : decode cX12_change 48 = .ok (.ifCond .ne 12, 3) := bq_o154 (a := 0) (b := 12) (bq_3 bwX12_change_0 48 (by decide +kernel)) (by decide +kernel)
theorem dX12_change_51 : decode cX12_change 51 = .ok (.aload_n 0, 1) := bq_o42 (bq_of bwX12_change_0 51 (by decide +kernel))
theorem dX12_change_52 : decode cX12_change 52 = .ok (.getfield 40, 3) := bq_o180 (a := 0) (b := 40) (bq_3 bwX12_change_0 52 (by decide +kernel)) rfl
theorem dX12_change_55 : decode cX12_change 55 = .ok (.iload_n 1, 1) := bq_o27 (bq_of bwX12_change_0 55 (by decide +kernel))
theorem dX12_change_56 : decode cX12_change 56 = .ok (.iaload, 1) := bq_o46 (bq_of bwX12_change_0 56 (by decide +kernel))
theorem dX12_change_57 : decode cX12_change 57 = .ok (.goto 9, 3) := bq_o167 (a := 0) (b := 9) (bq_3 bwX12_change_0 57 (by decide +kernel)) (by decide +kernel)
theorem dX12_change_60 : decode cX12_change 60 = .ok (.aload_n 0, 1) := bq_o42 (bq_of bwX12_change_0 60 (by decide +kernel))
theorem dX12_change_61 : decode cX12_change 61 = .ok (.getfield 43, 3) := bq_o180 (a := 0) (b := 43) (bq_3 bwX12_change_0 61 (by decide +kernel)) rfl
def bwX12_change_64l : List Nat := [27, 46, 54, 4, 28, 154, 0, 13, 42, 180, 0, 40, 27, 29, 79, 167, 0, 10, 42, 180, 0, 43, 27, 29, 79, 21, 4, 172]
theorem bwX12_change_64 : ((cX12_change.data.toList.drop 64).take 28).map UInt8.toNat = bwX12_change_64l := by decide +kernel
theorem dX12_change_64 : decode cX12_change 64 = .ok (.iload_n 1, 1) := bq_o27 (bq_of bwX12_change_64 0 (by decide +kernel))
theorem dX12_change_65 : decode cX12_change 65 = .ok (.iaload, 1) := bq_o46 (bq_of bwX12_change_64 1 (by decide +kernel))
theorem dX12_change_66 : decode cX12_change 66 = .ok (.istore 4, 2) := bq_o54 (a := 4) (bq_2 bwX12_change_64 2 (by decide +kernel)) rfl
theorem dX12_change_68 : decode cX12_change 68 = .ok (.iload_n 2, 1) := bq_o28 (bq_of bwX12_change_64 4 (by decide +kernel))
theorem dX12_change_69 : decode cX12_change 69 = .ok (.ifCond .ne 13, 3) := bq_o154 (a := 0) (b := 13) (bq_3 bwX12_change_64 5 (by decide +kernel)) (by decide +kernel)
theorem dX12_change_72 : decode cX12_change 72 = .ok (.aload_n 0, 1) := bq_o42 (bq_of bwX12_change_64 8 (by decide +kernel))
theorem dX12_change_73 : decode cX12_change 73 = .ok (.getfield 40, 3) := bq_o180 (a := 0) (b := 40) (bq_3 bwX12_change_64 9 (by decide +kernel)) rfl
theorem dX12_change_76 : decode cX12_change 76 = .ok (.iload_n 1, 1) := bq_o27 (bq_of bwX12_change_64 12 (by decide +kernel))
theorem dX12_change_77 : decode cX12_change 77 = .ok (.iload_n 3, 1) := bq_o29 (bq_of bwX12_change_64 13 (by decide +kernel))
theorem dX12_change_78 : decode cX12_change 78 = .ok (.iastore, 1) := bq_o79 (bq_of bwX12_change_64 14 (by decide +kernel))
theorem dX12_change_79 : decode cX12_change 79 = .ok (.goto 10, 3) := bq_o167 (a := 0) (b := 10) (bq_3 bwX12_change_64 15 (by decide +kernel)) (by decide +kernel)
theorem dX12_change_82 : decode cX12_change 82 = .ok (.aload_n 0, 1) := bq_o42 (bq_of bwX12_change_64 18 (by decide +kernel))
theorem dX12_change_83 : decode cX12_change 83 = .ok (.getfield 43, 3) := bq_o180 (a := 0) (b := 43) (bq_3 bwX12_change_64 19 (by decide +kernel)) rfl
theorem dX12_change_86 : decode cX12_change 86 = .ok (.iload_n 1, 1) := bq_o27 (bq_of bwX12_change_64 22 (by decide +kernel))
theorem dX12_change_87 : decode cX12_change 87 = .ok (.iload_n 3, 1) := bq_o29 (bq_of bwX12_change_64 23 (by decide +kernel))
theorem dX12_change_88 : decode cX12_change 88 = .ok (.iastore, 1) := bq_o79 (bq_of bwX12_change_64 24 (by decide +kernel))
theorem dX12_change_89 : decode cX12_change 89 = .ok (.iload 4, 2) := bq_o21 (a := 4) (bq_2 bwX12_change_64 25 (by decide +kernel)) rfl
theorem dX12_change_91 : decode cX12_change 91 = .ok (.ireturn, 1) := bq_o172 (bq_of bwX12_change_64 27 (by decide +kernel))
theorem dX12_knows_0 : decode cX12_knows 0 = .ok (.aload_n 0, 1) := by decide +kernel
theorem dX12_knows_1 : decode cX12_knows 1 = .ok (.getfield 48, 3) := by decide +kernel
theorem dX12_knows_4 : decode cX12_knows 4 = .ok (.iload_n 1, 1) := by decide +kernel
theorem dX12_knows_5 : decode cX12_knows 5 = .ok (.aaload, 1) := by decide +kernel
theorem dX12_knows_6 : decode cX12_knows 6 = .ok (.iload_n 2, 1) := by decide +kernel
theorem dX12_knows_7 : decode cX12_knows 7 = .ok (.iload_n 3, 1) := by decide +kernel
theorem dX12_knows_8 : decode cX12_knows 8 = .ok (.iastore, 1) := by decide +kernel
theorem dX12_knows_9 : decode cX12_knows 9 = .ok (.aload_n 0, 1) := by decide +kernel
theorem dX12_knows_10 : decode cX12_knows 10 = .ok (.getfield 48, 3) := by decide +kernel
theorem dX12_knows_13 : decode cX12_knows 13 = .ok (.iload_n 2, 1) := by decide +kernel
theorem dX12_knows_14 : decode cX12_knows 14 = .ok (.aaload, 1) := by decide +kernel
theorem dX12_knows_15 : decode cX12_knows 15 = .ok (.iload_n 1, 1) := by decide +kernel
theorem dX12_knows_16 : decode cX12_knows 16 = .ok (.iload_n 3, 1) := by decide +kernel
theorem dX12_knows_17 : decode cX12_knows 17 = .ok (.iastore, 1) := by decide +kernel
theorem dX12_knows_18 : decode cX12_knows 18 = .ok (.return_, 1) := by decide +kernel
theorem dX12_areTwo_0 : decode cX12_areTwo 0 = .ok (.aload_n 0, 1) := by decide +kernel
theorem dX12_areTwo_1 : decode cX12_areTwo 1 = .ok (.iload_n 1, 1) := by decide +kernel
theorem dX12_areTwo_2 : decode cX12_areTwo 2 = .ok (.invokevirtual 131, 3) := by decide +kernel
theorem dX12_areTwo_5 : decode cX12_areTwo 5 = .ok (.ifCond .eq 20, 3) := by decide +kernel
theorem dX12_areTwo_8 : decode cX12_areTwo 8 = .ok (.aload_n 0, 1) := by decide +kernel
theorem dX12_areTwo_9 : decode cX12_areTwo 9 = .ok (.iload_n 2, 1) := by decide +kernel
theorem dX12_areTwo_10 : decode cX12_areTwo 10 = .ok (.invokevirtual 131, 3) := by decide +kernel
theorem dX12_areTwo_13 : decode cX12_areTwo 13 = .ok (.ifCond .eq 12, 3) := by decide +kernel
theorem dX12_areTwo_16 : decode cX12_areTwo 16 = .ok (.iload_n 1, 1) := by decide +kernel
theorem dX12_areTwo_17 : decode cX12_areTwo 17 = .ok (.iload_n 2, 1) := by decide +kernel
theorem dX12_areTwo_18 : decode cX12_areTwo 18 = .ok (.if_icmp .eq 7, 3) := by decide +kernel
theorem dX12_areTwo_21 : decode cX12_areTwo 21 = .ok (.iconst 1, 1) := by decide +kernel
theorem dX12_areTwo_22 : decode cX12_areTwo 22 = .ok (.goto 4, 3) := by decide +kernel
theorem dX12_areTwo_25 : decode cX12_areTwo 25 = .ok (.iconst 0, 1) := by decide +kernel
theorem dX12_areTwo_26 : decode cX12_areTwo 26 = .ok (.ireturn, 1) := by decide +kernel
theorem dX12_know_0 : decode cX12_know 0 = .ok (.aload_n 0, 1) := by decide +kernel
theorem dX12_know_1 : decode cX12_know 1 = .ok (.iload_n 1, 1) := by decide +kernel
theorem dX12_know_2 : decode cX12_know 2 = .ok (.iload_n 2, 1) := by decide +kernel
theorem dX12_know_3 : decode cX12_know 3 = .ok (.invokevirtual 135, 3) := by decide +kernel
theorem dX12_know_6 : decode cX12_know 6 = .ok (.ifCond .eq 17, 3) := by decide +kernel
theorem dX12_know_9 : decode cX12_know 9 = .ok (.iload_n 3, 1) := by decide +kernel
theorem dX12_know_10 : decode cX12_know 10 = .ok (.i2l, 1) := by decide +kernel
theorem dX12_know_11 : decode cX12_know 11 = .ok (.ldc2_w 138, 3) := by decide +kernel
theorem dX12_know_14 : decode cX12_know 14 = .ok (.ldc2_w 140, 3) := by decide +kernel
theorem dX12_know_17 : decode cX12_know 17 = .ok (.invokestatic 88, 3) := by decide +kernel
theorem dX12_know_20 : decode cX12_know 20 = .ok (.ifCond .ne 10, 3) := by decide +kernel
theorem dX12_know_23 : decode cX12_know 23 = .ok (.aload_n 0, 1) := by decide +kernel
theorem dX12_know_24 : decode cX12_know 24 = .ok (.bipush (-2), 2) := by decide +kernel
theorem dX12_know_26 : decode cX12_know 26 = .ok (.invokevirtual 102, 3) := by decide +kernel
theorem dX12_know_29 : decode cX12_know 29 = .ok (.ireturn, 1) := by decide +kernel
theorem dX12_know_30 : decode cX12_know 30 = .ok (.aload_n 0, 1) := by decide +kernel
theorem dX12_know_31 : decode cX12_know 31 = .ok (.getfield 48, 3) := by decide +kernel
theorem dX12_know_34 : decode cX12_know 34 = .ok (.iload_n 1, 1) := by decide +kernel
theorem dX12_know_35 : decode cX12_know 35 = .ok (.aaload, 1) := by decide +kernel
theorem dX12_know_36 : decode cX12_know 36 = .ok (.iload_n 2, 1) := by decide +kernel
theorem dX12_know_37 : decode cX12_know 37 = .ok (.iaload, 1) := by decide +kernel
theorem dX12_know_38 : decode cX12_know 38 = .ok (.istore 4, 2) := by decide +kernel
theorem dX12_know_40 : decode cX12_know 40 = .ok (.aload_n 0, 1) := by decide +kernel
theorem dX12_know_41 : decode cX12_know 41 = .ok (.iload_n 1, 1) := by decide +kernel
theorem dX12_know_42 : decode cX12_know 42 = .ok (.iload_n 2, 1) := by decide +kernel
theorem dX12_know_43 : decode cX12_know 43 = .ok (.iload_n 3, 1) := by decide +kernel
theorem dX12_know_44 : decode cX12_know 44 = .ok (.invokevirtual 142, 3) := by decide +kernel
theorem dX12_know_47 : decode cX12_know 47 = .ok (.iload 4, 2) := by decide +kernel
theorem dX12_know_49 : decode cX12_know 49 = .ok (.ireturn, 1) := by decide +kernel
def bwX12_ask_0l : List Nat := [27, 133, 9, 10, 184, 0, 88, 153, 0, 35, 28, 133, 27, 154, 0, 9, 20, 0, 146, 167, 0, 4, 9, 27, 154, 0, 9, 20, 0, 98, 167, 0, 6, 20, 0, 140, 184, 0, 88, 154, 0, 10, 42, 16, 254, 182, 0, 102, 172, 27, 154, 0, 10, 42, 180, 0, 51, 167, 0, 7, 42, 180, 0, 148, 62, 27]
theorem bwX12_ask_0 : ((cX12_ask.data.toList.drop 0).take 66).map UInt8.toNat = bwX12_ask_0l := by decide +kernel
theorem dX12_ask_0 : decode cX12_ask 0 = .ok (.iload_n 1, 1) := bq_o27 (bq_of bwX12_ask_0 0 (by decide +kernel))
theorem dX12_ask_1 : decode cX12_ask 1 = .ok (.i2l, 1) := bq_o133 (bq_of bwX12_ask_0 1 (by decide +kernel))
theorem dX12_ask_2 : decode cX12_ask 2 = .ok (.lconst 0, 1) := bq_o9 (bq_of bwX12_ask_0 2 (by decide +kernel))
theorem dX12_ask_3 : decode cX12_ask 3 = .ok (.lconst 1, 1) := bq_o10 (bq_of bwX12_ask_0 3 (by decide +kernel))
theorem dX12_ask_4 : decode cX12_ask 4 = .ok (.invokestatic 88, 3) := bq_o184 (a := 0) (b := 88) (bq_3 bwX12_ask_0 4 (by decide +kernel)) rfl
theorem dX12_ask_7 : decode cX12_ask 7 = .ok (.ifCond .eq 35, 3) := bq_o153 (a := 0) (b := 35) (bq_3 bwX12_ask_0 7 (by decide +kernel)) (by decide +kernel)
theorem dX12_ask_10 : decode cX12_ask 10 = .ok (.iload_n 2, 1) := bq_o28 (bq_of bwX12_ask_0 10 (by decide +kernel))
theorem dX12_ask_11 : decode cX12_ask 11 = .ok (.i2l, 1) := bq_o133 (bq_of bwX12_ask_0 11 (by decide +kernel))
theorem dX12_ask_12 : decode cX12_ask 12 = .ok (.iload_n 1, 1) := bq_o27 (bq_of bwX12_ask_0 12 (by decide +kernel))
theorem dX12_ask_13 : decode cX12_ask 13 = .ok (.ifCond .ne 9, 3) := bq_o154 (a := 0) (b := 9) (bq_3 bwX12_ask_0 13 (by decide +kernel)) (by decide +kernel)
theorem dX12_ask_16 : decode cX12_ask 16 = .ok (.ldc2_w 146, 3) := bq_o20 (a := 0) (b := 146) (bq_3 bwX12_ask_0 16 (by decide +kernel)) rfl
theorem dX12_ask_19 : decode cX12_ask 19 = .ok (.goto 4, 3) := bq_o167 (a := 0) (b := 4) (bq_3 bwX12_ask_0 19 (by decide +kernel)) (by decide +kernel)
theorem dX12_ask_22 : decode cX12_ask 22 = .ok (.lconst 0, 1) := bq_o9 (bq_of bwX12_ask_0 22 (by decide +kernel))
theorem dX12_ask_23 : decode cX12_ask 23 = .ok (.iload_n 1, 1) := bq_o27 (bq_of bwX12_ask_0 23 (by decide +kernel))
theorem dX12_ask_24 : decode cX12_ask 24 = .ok (.ifCond .ne 9, 3) := bq_o154 (a := 0) (b := 9) (bq_3 bwX12_ask_0 24 (by decide +kernel)) (by decide +kernel)
theorem dX12_ask_27 : decode cX12_ask 27 = .ok (.ldc2_w 98, 3) := bq_o20 (a := 0) (b := 98) (bq_3 bwX12_ask_0 27 (by decide +kernel)) rfl
theorem dX12_ask_30 : decode cX12_ask 30 = .ok (.goto 6, 3) := bq_o167 (a := 0) (b := 6) (bq_3 bwX12_ask_0 30 (by decide +kernel)) (by decide +kernel)
theorem dX12_ask_33 : decode cX12_ask 33 = .ok (.ldc2_w 140, 3) := bq_o20 (a := 0) (b := 140) (bq_3 bwX12_ask_0 33 (by decide +kernel)) rfl
theorem dX12_ask_36 : decode cX12_ask 36 = .ok (.invokestatic 88, 3) := bq_o184 (a := 0) (b := 88) (bq_3 bwX12_ask_0 36 (by decide +kernel)) rfl
theorem dX12_ask_39 : decode cX12_ask 39 = .ok (.ifCond .ne 10, 3) := bq_o154 (a := 0) (b := 10) (bq_3 bwX12_ask_0 39 (by decide +kernel)) (by decide +kernel)
theorem dX12_ask_42 : decode cX12_ask 42 = .ok (.aload_n 0, 1) := bq_o42 (bq_of bwX12_ask_0 42 (by decide +kernel))
theorem dX12_ask_43 : decode cX12_ask 43 = .ok (.bipush (-2), 2) := bq_o16 (a := 254) (bq_2 bwX12_ask_0 43 (by decide +kernel)) (by decide +kernel)
theorem dX12_ask_45 : decode cX12_ask 45 = .ok (.invokevirtual 102, 3) := bq_o182 (a := 0) (b := 102) (bq_3 bwX12_ask_0 45 (by decide +kernel)) rfl
theorem dX12_ask_48 : decode cX12_ask 48 = .ok (.ireturn, 1) := bq_o172 (bq_of bwX12_ask_0 48 (by decide +kernel))
theorem dX12_ask_49 : decode cX12_ask 49 = .ok (.iload_n 1, 1) := bq_o27 (bq_of bwX12_ask_0 49 (by decide +kernel))
theorem dX12_ask_50 : decode cX12_ask 50 = .ok (.ifCond .ne 10, 3) := bq_o154 (a := 0) (b := 10) (bq_3 bwX12_ask_0 50 (by decide +kernel)) (by decide +kernel)
theorem dX12_ask_53 : decode cX12_ask 53 = .ok (.aload_n 0, 1) := bq_o42 (bq_of bwX12_ask_0 53 (by decide +kernel))
theorem dX12_ask_54 : decode cX12_ask 54 = .ok (.getfield 51, 3) := bq_o180 (a := 0) (b := 51) (bq_3 bwX12_ask_0 54 (by decide +kernel)) rfl
theorem dX12_ask_57 : decode cX12_ask 57 = .ok (.goto 7, 3) := bq_o167 (a := 0) (b := 7) (bq_3 bwX12_ask_0 57 (by decide +kernel)) (by decide +kernel)
theorem dX12_ask_60 : decode cX12_ask 60 = .ok (.aload_n 0, 1) := bq_o42 (bq_of bwX12_ask_0 60 (by decide +kernel))
theorem dX12_ask_61 : decode cX12_ask 61 = .ok (.getfield 148, 3) := bq_o180 (a := 0) (b := 148) (bq_3 bwX12_ask_0 61 (by decide +kernel)) rfl
def bwX12_ask_64l : List Nat := [62, 27, 154, 0, 11, 42, 28, 181, 0, 51, 167, 0, 8, 42, 28, 181, 0, 148, 29, 172]
theorem bwX12_ask_64 : ((cX12_ask.data.toList.drop 64).take 20).map UInt8.toNat = bwX12_ask_64l := by decide +kernel
theorem dX12_ask_64 : decode cX12_ask 64 = .ok (.istore_n 3, 1) := bq_o62 (bq_of bwX12_ask_64 0 (by decide +kernel))
theorem dX12_ask_65 : decode cX12_ask 65 = .ok (.iload_n 1, 1) := bq_o27 (bq_of bwX12_ask_64 1 (by decide +kernel))
theorem dX12_ask_66 : decode cX12_ask 66 = .ok (.ifCond .ne 11, 3) := bq_o154 (a := 0) (b := 11) (bq_3 bwX12_ask_64 2 (by decide +kernel)) (by decide +kernel)
theorem dX12_ask_69 : decode cX12_ask 69 = .ok (.aload_n 0, 1) := bq_o42 (bq_of bwX12_ask_64 5 (by decide +kernel))
theorem dX12_ask_70 : decode cX12_ask 70 = .ok (.iload_n 2, 1) := bq_o28 (bq_of bwX12_ask_64 6 (by decide +kernel))
theorem dX12_ask_71 : decode cX12_ask 71 = .ok (.putfield 51, 3) := bq_o181 (a := 0) (b := 51) (bq_3 bwX12_ask_64 7 (by decide +kernel)) rfl
theorem dX12_ask_74 : decode cX12_ask 74 = .ok (.goto 8, 3) := bq_o167 (a := 0) (b := 8) (bq_3 bwX12_ask_64 10 (by decide +kernel)) (by decide +kernel)
theorem dX12_ask_77 : decode cX12_ask 77 = .ok (.aload_n 0, 1) := bq_o42 (bq_of bwX12_ask_64 13 (by decide +kernel))
theorem dX12_ask_78 : decode cX12_ask 78 = .ok (.iload_n 2, 1) := bq_o28 (bq_of bwX12_ask_64 14 (by decide +kernel))
theorem dX12_ask_79 : decode cX12_ask 79 = .ok (.putfield 148, 3) := bq_o181 (a := 0) (b := 148) (bq_3 bwX12_ask_64 15 (by decide +kernel)) rfl
theorem dX12_ask_82 : decode cX12_ask 82 = .ok (.iload_n 3, 1) := bq_o29 (bq_of bwX12_ask_64 18 (by decide +kernel))
theorem dX12_ask_83 : decode cX12_ask 83 = .ok (.ireturn, 1) := bq_o172 (bq_of bwX12_ask_64 19 (by decide +kernel))
def bwX12_meets_0l : List Nat := [3, 61, 3, 62, 29, 42, 180, 0, 85, 162, 0, 70, 3, 54, 4, 21, 4, 29, 162, 0, 55, 27, 29, 184, 0, 151, 153, 0, 41, 27, 21, 4, 184, 0, 151, 153, 0, 32, 28, 42, 180, 0, 48, 29, 50, 21, 4, 46, 2, 160, 0, 7, 4, 167, 0, 4, 3, 96, 61, 42, 29, 21, 4, 3, 182, 0]
theorem bwX12_meets_0 : ((cX12_meets.data.toList.drop 0).take 66).map UInt8.toNat = bwX12_meets_0l := by decide +kernel
theorem dX12_meets_0 : decode cX12_meets 0 = .ok (.iconst 0, 1) := bq_o3 (bq_of bwX12_meets_0 0 (by decide +kernel))
theorem dX12_meets_1 : decode cX12_meets 1 = .ok (.istore_n 2, 1) := bq_o61 (bq_of bwX12_meets_0 1 (by decide +kernel))
theorem dX12_meets_2 : decode cX12_meets 2 = .ok (.iconst 0, 1) := bq_o3 (bq_of bwX12_meets_0 2 (by decide +kernel))
theorem dX12_meets_3 : decode cX12_meets 3 = .ok (.istore_n 3, 1) := bq_o62 (bq_of bwX12_meets_0 3 (by decide +kernel))
theorem dX12_meets_4 : decode cX12_meets 4 = .ok (.iload_n 3, 1) := bq_o29 (bq_of bwX12_meets_0 4 (by decide +kernel))
theorem dX12_meets_5 : decode cX12_meets 5 = .ok (.aload_n 0, 1) := bq_o42 (bq_of bwX12_meets_0 5 (by decide +kernel))
theorem dX12_meets_6 : decode cX12_meets 6 = .ok (.getfield 85, 3) := bq_o180 (a := 0) (b := 85) (bq_3 bwX12_meets_0 6 (by decide +kernel)) rfl
theorem dX12_meets_9 : decode cX12_meets 9 = .ok (.if_icmp .ge 70, 3) := bq_o162 (a := 0) (b := 70) (bq_3 bwX12_meets_0 9 (by decide +kernel)) (by decide +kernel)
theorem dX12_meets_12 : decode cX12_meets 12 = .ok (.iconst 0, 1) := bq_o3 (bq_of bwX12_meets_0 12 (by decide +kernel))
theorem dX12_meets_13 : decode cX12_meets 13 = .ok (.istore 4, 2) := bq_o54 (a := 4) (bq_2 bwX12_meets_0 13 (by decide +kernel)) rfl
theorem dX12_meets_15 : decode cX12_meets 15 = .ok (.iload 4, 2) := bq_o21 (a := 4) (bq_2 bwX12_meets_0 15 (by decide +kernel)) rfl
theorem dX12_meets_17 : decode cX12_meets 17 = .ok (.iload_n 3, 1) := bq_o29 (bq_of bwX12_meets_0 17 (by decide +kernel))
theorem dX12_meets_18 : decode cX12_meets 18 = .ok (.if_icmp .ge 55, 3) := bq_o162 (a := 0) (b := 55) (bq_3 bwX12_meets_0 18 (by decide +kernel)) (by decide +kernel)
theorem dX12_meets_21 : decode cX12_meets 21 = .ok (.iload_n 1, 1) := bq_o27 (bq_of bwX12_meets_0 21 (by decide +kernel))
theorem dX12_meets_22 : decode cX12_meets 22 = .ok (.iload_n 3, 1) := bq_o29 (bq_of bwX12_meets_0 22 (by decide +kernel))
theorem dX12_meets_23 : decode cX12_meets 23 = .ok (.invokestatic 151, 3) := bq_o184 (a := 0) (b := 151) (bq_3 bwX12_meets_0 23 (by decide +kernel)) rfl
theorem dX12_meets_26 : decode cX12_meets 26 = .ok (.ifCond .eq 41, 3) := bq_o153 (a := 0) (b := 41) (bq_3 bwX12_meets_0 26 (by decide +kernel)) (by decide +kernel)
theorem dX12_meets_29 : decode cX12_meets 29 = .ok (.iload_n 1, 1) := bq_o27 (bq_of bwX12_meets_0 29 (by decide +kernel))
theorem dX12_meets_30 : decode cX12_meets 30 = .ok (.iload 4, 2) := bq_o21 (a := 4) (bq_2 bwX12_meets_0 30 (by decide +kernel)) rfl
theorem dX12_meets_32 : decode cX12_meets 32 = .ok (.invokestatic 151, 3) := bq_o184 (a := 0) (b := 151) (bq_3 bwX12_meets_0 32 (by decide +kernel)) rfl
theorem dX12_meets_35 : decode cX12_meets 35 = .ok (.ifCond .eq 32, 3) := bq_o153 (a := 0) (b := 32) (bq_3 bwX12_meets_0 35 (by decide +kernel)) (by decide +kernel)
theorem dX12_meets_38 : decode cX12_meets 38 = .ok (.iload_n 2, 1) := bq_o28 (bq_of bwX12_meets_0 38 (by decide +kernel))
theorem dX12_meets_39 : decode cX12_meets 39 = .ok (.aload_n 0, 1) := bq_o42 (bq_of bwX12_meets_0 39 (by decide +kernel))
theorem dX12_meets_40 : decode cX12_meets 40 = .ok (.getfield 48, 3) := bq_o180 (a := 0) (b := 48) (bq_3 bwX12_meets_0 40 (by decide +kernel)) rfl
theorem dX12_meets_43 : decode cX12_meets 43 = .ok (.iload_n 3, 1) := bq_o29 (bq_of bwX12_meets_0 43 (by decide +kernel))
theorem dX12_meets_44 : decode cX12_meets 44 = .ok (.aaload, 1) := bq_o50 (bq_of bwX12_meets_0 44 (by decide +kernel))
theorem dX12_meets_45 : decode cX12_meets 45 = .ok (.iload 4, 2) := bq_o21 (a := 4) (bq_2 bwX12_meets_0 45 (by decide +kernel)) rfl
theorem dX12_meets_47 : decode cX12_meets 47 = .ok (.iaload, 1) := bq_o46 (bq_of bwX12_meets_0 47 (by decide +kernel))
theorem dX12_meets_48 : decode cX12_meets 48 = .ok (.iconst (-1), 1) := bq_o2 (bq_of bwX12_meets_0 48 (by decide +kernel))
theorem dX12_meets_49 : decode cX12_meets 49 = .ok (.if_icmp .ne 7, 3) := bq_o160 (a := 0) (b := 7) (bq_3 bwX12_meets_0 49 (by decide +kernel)) (by decide +kernel)
theorem dX12_meets_52 : decode cX12_meets 52 = .ok (.iconst 1, 1) := bq_o4 (bq_of bwX12_meets_0 52 (by decide +kernel))
theorem dX12_meets_53 : decode cX12_meets 53 = .ok (.goto 4, 3) := bq_o167 (a := 0) (b := 4) (bq_3 bwX12_meets_0 53 (by decide +kernel)) (by decide +kernel)
theorem dX12_meets_56 : decode cX12_meets 56 = .ok (.iconst 0, 1) := bq_o3 (bq_of bwX12_meets_0 56 (by decide +kernel))
theorem dX12_meets_57 : decode cX12_meets 57 = .ok (.iadd, 1) := bq_o96 (bq_of bwX12_meets_0 57 (by decide +kernel))
theorem dX12_meets_58 : decode cX12_meets 58 = .ok (.istore_n 2, 1) := bq_o61 (bq_of bwX12_meets_0 58 (by decide +kernel))
theorem dX12_meets_59 : decode cX12_meets 59 = .ok (.aload_n 0, 1) := bq_o42 (bq_of bwX12_meets_0 59 (by decide +kernel))
theorem dX12_meets_60 : decode cX12_meets 60 = .ok (.iload_n 3, 1) := bq_o29 (bq_of bwX12_meets_0 60 (by decide +kernel))
theorem dX12_meets_61 : decode cX12_meets 61 = .ok (.iload 4, 2) := bq_o21 (a := 4) (bq_2 bwX12_meets_0 61 (by decide +kernel)) rfl
theorem dX12_meets_63 : decode cX12_meets 63 = .ok (.iconst 0, 1) := bq_o3 (bq_of bwX12_meets_0 63 (by decide +kernel))
def bwX12_meets_64l : List Nat := [182, 0, 142, 132, 4, 1, 167, 255, 201, 132, 3, 1, 167, 255, 184, 28, 172]
theorem bwX12_meets_64 : ((cX12_meets.data.toList.drop 64).take 17).map UInt8.toNat = bwX12_meets_64l := by decide +kernel
theorem dX12_meets_64 : decode cX12_meets 64 = .ok (.invokevirtual 142, 3) := bq_o182 (a := 0) (b := 142) (bq_3 bwX12_meets_64 0 (by decide +kernel)) rfl
theorem dX12_meets_67 : decode cX12_meets 67 = .ok (.iinc 4 1, 3) := bq_o132 (a := 4) (b := 1) (bq_3 bwX12_meets_64 3 (by decide +kernel)) rfl (by decide +kernel)
theorem dX12_meets_70 : decode cX12_meets 70 = .ok (.goto (-55), 3) := bq_o167 (a := 255) (b := 201) (bq_3 bwX12_meets_64 6 (by decide +kernel)) (by decide +kernel)
theorem dX12_meets_73 : decode cX12_meets 73 = .ok (.iinc 3 1, 3) := bq_o132 (a := 3) (b := 1) (bq_3 bwX12_meets_64 9 (by decide +kernel)) rfl (by decide +kernel)
theorem dX12_meets_76 : decode cX12_meets 76 = .ok (.goto (-72), 3) := bq_o167 (a := 255) (b := 184) (bq_3 bwX12_meets_64 12 (by decide +kernel)) (by decide +kernel)
theorem dX12_meets_79 : decode cX12_meets 79 = .ok (.iload_n 2, 1) := bq_o28 (bq_of bwX12_meets_64 15 (by decide +kernel))
theorem dX12_meets_80 : decode cX12_meets 80 = .ok (.ireturn, 1) := bq_o172 (bq_of bwX12_meets_64 16 (by decide +kernel))
theorem dX12_feed_0 : decode cX12_feed 0 = .ok (.iload_n 1, 1) := by decide +kernel
theorem dX12_feed_1 : decode cX12_feed 1 = .ok (.i2l, 1) := by decide +kernel
theorem dX12_feed_2 : decode cX12_feed 2 = .ok (.lconst 0, 1) := by decide +kernel
theorem dX12_feed_3 : decode cX12_feed 3 = .ok (.ldc2_w 154, 3) := by decide +kernel
theorem dX12_feed_6 : decode cX12_feed 6 = .ok (.invokestatic 88, 3) := by decide +kernel
theorem dX12_feed_9 : decode cX12_feed 9 = .ok (.ifCond .ne 10, 3) := by decide +kernel
theorem dX12_feed_12 : decode cX12_feed 12 = .ok (.aload_n 0, 1) := by decide +kernel
theorem dX12_feed_13 : decode cX12_feed 13 = .ok (.bipush (-2), 2) := by decide +kernel
theorem dX12_feed_15 : decode cX12_feed 15 = .ok (.invokevirtual 102, 3) := by decide +kernel
theorem dX12_feed_18 : decode cX12_feed 18 = .ok (.ireturn, 1) := by decide +kernel
theorem dX12_feed_19 : decode cX12_feed 19 = .ok (.aload_n 0, 1) := by decide +kernel
theorem dX12_feed_20 : decode cX12_feed 20 = .ok (.getfield 156, 3) := by decide +kernel
theorem dX12_feed_23 : decode cX12_feed 23 = .ok (.sipush 250, 3) := by decide +kernel
theorem dX12_feed_26 : decode cX12_feed 26 = .ok (.if_icmp .ne 10, 3) := by decide +kernel
theorem dX12_feed_29 : decode cX12_feed 29 = .ok (.aload_n 0, 1) := by decide +kernel
theorem dX12_feed_30 : decode cX12_feed 30 = .ok (.bipush (-6), 2) := by decide +kernel
theorem dX12_feed_32 : decode cX12_feed 32 = .ok (.invokevirtual 102, 3) := by decide +kernel
theorem dX12_feed_35 : decode cX12_feed 35 = .ok (.ireturn, 1) := by decide +kernel
theorem dX12_feed_36 : decode cX12_feed 36 = .ok (.aload_n 0, 1) := by decide +kernel
theorem dX12_feed_37 : decode cX12_feed 37 = .ok (.getfield 34, 3) := by decide +kernel
theorem dX12_feed_40 : decode cX12_feed 40 = .ok (.aload_n 0, 1) := by decide +kernel
theorem dX12_feed_41 : decode cX12_feed 41 = .ok (.dup, 1) := by decide +kernel
theorem dX12_feed_42 : decode cX12_feed 42 = .ok (.getfield 156, 3) := by decide +kernel
theorem dX12_feed_45 : decode cX12_feed 45 = .ok (.dup_x1, 1) := by decide +kernel
theorem dX12_feed_46 : decode cX12_feed 46 = .ok (.iconst 1, 1) := by decide +kernel
theorem dX12_feed_47 : decode cX12_feed 47 = .ok (.iadd, 1) := by decide +kernel
theorem dX12_feed_48 : decode cX12_feed 48 = .ok (.putfield 156, 3) := by decide +kernel
theorem dX12_feed_51 : decode cX12_feed 51 = .ok (.iload_n 1, 1) := by decide +kernel
theorem dX12_feed_52 : decode cX12_feed 52 = .ok (.iastore, 1) := by decide +kernel
theorem dX12_feed_53 : decode cX12_feed 53 = .ok (.aload_n 0, 1) := by decide +kernel
theorem dX12_feed_54 : decode cX12_feed 54 = .ok (.getfield 156, 3) := by decide +kernel
theorem dX12_feed_57 : decode cX12_feed 57 = .ok (.ireturn, 1) := by decide +kernel
theorem dX12_wipe_0 : decode cX12_wipe 0 = .ok (.aload_n 0, 1) := by decide +kernel
theorem dX12_wipe_1 : decode cX12_wipe 1 = .ok (.getfield 156, 3) := by decide +kernel
theorem dX12_wipe_4 : decode cX12_wipe 4 = .ok (.istore_n 1, 1) := by decide +kernel
theorem dX12_wipe_5 : decode cX12_wipe 5 = .ok (.aload_n 0, 1) := by decide +kernel
theorem dX12_wipe_6 : decode cX12_wipe 6 = .ok (.iconst 0, 1) := by decide +kernel
theorem dX12_wipe_7 : decode cX12_wipe 7 = .ok (.putfield 156, 3) := by decide +kernel
theorem dX12_wipe_10 : decode cX12_wipe 10 = .ok (.iload_n 1, 1) := by decide +kernel
theorem dX12_wipe_11 : decode cX12_wipe 11 = .ok (.ireturn, 1) := by decide +kernel
theorem dX12_isLetter_0 : decode cX12_isLetter 0 = .ok (.iload_n 0, 1) := by decide +kernel
theorem dX12_isLetter_1 : decode cX12_isLetter 1 = .ok (.bipush 97, 2) := by decide +kernel
theorem dX12_isLetter_3 : decode cX12_isLetter 3 = .ok (.if_icmp .lt 13, 3) := by decide +kernel
theorem dX12_isLetter_6 : decode cX12_isLetter 6 = .ok (.iload_n 0, 1) := by decide +kernel
theorem dX12_isLetter_7 : decode cX12_isLetter 7 = .ok (.bipush 122, 2) := by decide +kernel
theorem dX12_isLetter_9 : decode cX12_isLetter 9 = .ok (.if_icmp .gt 7, 3) := by decide +kernel
theorem dX12_isLetter_12 : decode cX12_isLetter 12 = .ok (.iconst 1, 1) := by decide +kernel
theorem dX12_isLetter_13 : decode cX12_isLetter 13 = .ok (.goto 4, 3) := by decide +kernel
theorem dX12_isLetter_16 : decode cX12_isLetter 16 = .ok (.iconst 0, 1) := by decide +kernel
theorem dX12_isLetter_17 : decode cX12_isLetter 17 = .ok (.ireturn, 1) := by decide +kernel
theorem dX12_isDigit_0 : decode cX12_isDigit 0 = .ok (.iload_n 0, 1) := by decide +kernel
theorem dX12_isDigit_1 : decode cX12_isDigit 1 = .ok (.bipush 48, 2) := by decide +kernel
theorem dX12_isDigit_3 : decode cX12_isDigit 3 = .ok (.if_icmp .lt 13, 3) := by decide +kernel
theorem dX12_isDigit_6 : decode cX12_isDigit 6 = .ok (.iload_n 0, 1) := by decide +kernel
theorem dX12_isDigit_7 : decode cX12_isDigit 7 = .ok (.bipush 57, 2) := by decide +kernel
theorem dX12_isDigit_9 : decode cX12_isDigit 9 = .ok (.if_icmp .gt 7, 3) := by decide +kernel
theorem dX12_isDigit_12 : decode cX12_isDigit 12 = .ok (.iconst 1, 1) := by decide +kernel
theorem dX12_isDigit_13 : decode cX12_isDigit 13 = .ok (.goto 4, 3) := by decide +kernel
theorem dX12_isDigit_16 : decode cX12_isDigit 16 = .ok (.iconst 0, 1) := by decide +kernel
theorem dX12_isDigit_17 : decode cX12_isDigit 17 = .ok (.ireturn, 1) := by decide +kernel
def bwX12_look_0l : List Nat := [42, 180, 0, 159, 42, 180, 0, 156, 162, 0, 30, 42, 180, 0, 34, 42, 180, 0, 159, 46, 16, 32, 160, 0, 16, 42, 89, 180, 0, 159, 4, 96, 181, 0, 159, 167, 255, 221, 42, 42, 180, 0, 159, 181, 0, 162, 42, 3, 181, 0, 165, 42, 180, 0, 159, 42, 180, 0, 156, 160, 0, 11, 42, 3, 181, 0]
theorem bwX12_look_0 : ((cX12_look.data.toList.drop 0).take 66).map UInt8.toNat = bwX12_look_0l := by decide +kernel
theorem dX12_look_0 : decode cX12_look 0 = .ok (.aload_n 0, 1) := bq_o42 (bq_of bwX12_look_0 0 (by decide +kernel))
theorem dX12_look_1 : decode cX12_look 1 = .ok (.getfield 159, 3) := bq_o180 (a := 0) (b := 159) (bq_3 bwX12_look_0 1 (by decide +kernel)) rfl
theorem dX12_look_4 : decode cX12_look 4 = .ok (.aload_n 0, 1) := bq_o42 (bq_of bwX12_look_0 4 (by decide +kernel))
theorem dX12_look_5 : decode cX12_look 5 = .ok (.getfield 156, 3) := bq_o180 (a := 0) (b := 156) (bq_3 bwX12_look_0 5 (by decide +kernel)) rfl
theorem dX12_look_8 : decode cX12_look 8 = .ok (.if_icmp .ge 30, 3) := bq_o162 (a := 0) (b := 30) (bq_3 bwX12_look_0 8 (by decide +kernel)) (by decide +kernel)
theorem dX12_look_11 : decode cX12_look 11 = .ok (.aload_n 0, 1) := bq_o42 (bq_of bwX12_look_0 11 (by decide +kernel))
theorem dX12_look_12 : decode cX12_look 12 = .ok (.getfield 34, 3) := bq_o180 (a := 0) (b := 34) (bq_3 bwX12_look_0 12 (by decide +kernel)) rfl
theorem dX12_look_15 : decode cX12_look 15 = .ok (.aload_n 0, 1) := bq_o42 (bq_of bwX12_look_0 15 (by decide +kernel))
theorem dX12_look_16 : decode cX12_look 16 = .ok (.getfield 159, 3) := bq_o180 (a := 0) (b := 159) (bq_3 bwX12_look_0 16 (by decide +kernel)) rfl
theorem dX12_look_19 : decode cX12_look 19 = .ok (.iaload, 1) := bq_o46 (bq_of bwX12_look_0 19 (by decide +kernel))
theorem dX12_look_20 : decode cX12_look 20 = .ok (.bipush 32, 2) := bq_o16 (a := 32) (bq_2 bwX12_look_0 20 (by decide +kernel)) (by decide +kernel)
theorem dX12_look_22 : decode cX12_look 22 = .ok (.if_icmp .ne 16, 3) := bq_o160 (a := 0) (b := 16) (bq_3 bwX12_look_0 22 (by decide +kernel)) (by decide +kernel)
theorem dX12_look_25 : decode cX12_look 25 = .ok (.aload_n 0, 1) := bq_o42 (bq_of bwX12_look_0 25 (by decide +kernel))
theorem dX12_look_26 : decode cX12_look 26 = .ok (.dup, 1) := bq_o89 (bq_of bwX12_look_0 26 (by decide +kernel))
theorem dX12_look_27 : decode cX12_look 27 = .ok (.getfield 159, 3) := bq_o180 (a := 0) (b := 159) (bq_3 bwX12_look_0 27 (by decide +kernel)) rfl
theorem dX12_look_30 : decode cX12_look 30 = .ok (.iconst 1, 1) := bq_o4 (bq_of bwX12_look_0 30 (by decide +kernel))
theorem dX12_look_31 : decode cX12_look 31 = .ok (.iadd, 1) := bq_o96 (bq_of bwX12_look_0 31 (by decide +kernel))
theorem dX12_look_32 : decode cX12_look 32 = .ok (.putfield 159, 3) := bq_o181 (a := 0) (b := 159) (bq_3 bwX12_look_0 32 (by decide +kernel)) rfl
theorem dX12_look_35 : decode cX12_look 35 = .ok (.goto (-35), 3) := bq_o167 (a := 255) (b := 221) (bq_3 bwX12_look_0 35 (by decide +kernel)) (by decide +kernel)
theorem dX12_look_38 : decode cX12_look 38 = .ok (.aload_n 0, 1) := bq_o42 (bq_of bwX12_look_0 38 (by decide +kernel))
theorem dX12_look_39 : decode cX12_look 39 = .ok (.aload_n 0, 1) := bq_o42 (bq_of bwX12_look_0 39 (by decide +kernel))
theorem dX12_look_40 : decode cX12_look 40 = .ok (.getfield 159, 3) := bq_o180 (a := 0) (b := 159) (bq_3 bwX12_look_0 40 (by decide +kernel)) rfl
theorem dX12_look_43 : decode cX12_look 43 = .ok (.putfield 162, 3) := bq_o181 (a := 0) (b := 162) (bq_3 bwX12_look_0 43 (by decide +kernel)) rfl
theorem dX12_look_46 : decode cX12_look 46 = .ok (.aload_n 0, 1) := bq_o42 (bq_of bwX12_look_0 46 (by decide +kernel))
theorem dX12_look_47 : decode cX12_look 47 = .ok (.iconst 0, 1) := bq_o3 (bq_of bwX12_look_0 47 (by decide +kernel))
theorem dX12_look_48 : decode cX12_look 48 = .ok (.putfield 165, 3) := bq_o181 (a := 0) (b := 165) (bq_3 bwX12_look_0 48 (by decide +kernel)) rfl
theorem dX12_look_51 : decode cX12_look 51 = .ok (.aload_n 0, 1) := bq_o42 (bq_of bwX12_look_0 51 (by decide +kernel))
theorem dX12_look_52 : decode cX12_look 52 = .ok (.getfield 159, 3) := bq_o180 (a := 0) (b := 159) (bq_3 bwX12_look_0 52 (by decide +kernel)) rfl
theorem dX12_look_55 : decode cX12_look 55 = .ok (.aload_n 0, 1) := bq_o42 (bq_of bwX12_look_0 55 (by decide +kernel))
theorem dX12_look_56 : decode cX12_look 56 = .ok (.getfield 156, 3) := bq_o180 (a := 0) (b := 156) (bq_3 bwX12_look_0 56 (by decide +kernel)) rfl
theorem dX12_look_59 : decode cX12_look 59 = .ok (.if_icmp .ne 11, 3) := bq_o160 (a := 0) (b := 11) (bq_3 bwX12_look_0 59 (by decide +kernel)) (by decide +kernel)
theorem dX12_look_62 : decode cX12_look 62 = .ok (.aload_n 0, 1) := bq_o42 (bq_of bwX12_look_0 62 (by decide +kernel))
theorem dX12_look_63 : decode cX12_look 63 = .ok (.iconst 0, 1) := bq_o3 (bq_of bwX12_look_0 63 (by decide +kernel))
def bwX12_look_64l : List Nat := [181, 0, 168, 167, 0, 196, 42, 180, 0, 34, 42, 180, 0, 159, 46, 184, 0, 171, 153, 0, 47, 42, 4, 181, 0, 168, 42, 180, 0, 159, 42, 180, 0, 156, 162, 0, 165, 42, 180, 0, 34, 42, 180, 0, 159, 46, 184, 0, 171, 153, 0, 150, 42, 89, 180, 0, 159, 4, 96, 181, 0, 159, 167, 255, 220, 42]
theorem bwX12_look_64 : ((cX12_look.data.toList.drop 64).take 66).map UInt8.toNat = bwX12_look_64l := by decide +kernel
theorem dX12_look_64 : decode cX12_look 64 = .ok (.putfield 168, 3) := bq_o181 (a := 0) (b := 168) (bq_3 bwX12_look_64 0 (by decide +kernel)) rfl
theorem dX12_look_67 : decode cX12_look 67 = .ok (.goto 196, 3) := bq_o167 (a := 0) (b := 196) (bq_3 bwX12_look_64 3 (by decide +kernel)) (by decide +kernel)
theorem dX12_look_70 : decode cX12_look 70 = .ok (.aload_n 0, 1) := bq_o42 (bq_of bwX12_look_64 6 (by decide +kernel))
theorem dX12_look_71 : decode cX12_look 71 = .ok (.getfield 34, 3) := bq_o180 (a := 0) (b := 34) (bq_3 bwX12_look_64 7 (by decide +kernel)) rfl
theorem dX12_look_74 : decode cX12_look 74 = .ok (.aload_n 0, 1) := bq_o42 (bq_of bwX12_look_64 10 (by decide +kernel))
theorem dX12_look_75 : decode cX12_look 75 = .ok (.getfield 159, 3) := bq_o180 (a := 0) (b := 159) (bq_3 bwX12_look_64 11 (by decide +kernel)) rfl
theorem dX12_look_78 : decode cX12_look 78 = .ok (.iaload, 1) := bq_o46 (bq_of bwX12_look_64 14 (by decide +kernel))
theorem dX12_look_79 : decode cX12_look 79 = .ok (.invokestatic 171, 3) := bq_o184 (a := 0) (b := 171) (bq_3 bwX12_look_64 15 (by decide +kernel)) rfl
theorem dX12_look_82 : decode cX12_look 82 = .ok (.ifCond .eq 47, 3) := bq_o153 (a := 0) (b := 47) (bq_3 bwX12_look_64 18 (by decide +kernel)) (by decide +kernel)
theorem dX12_look_85 : decode cX12_look 85 = .ok (.aload_n 0, 1) := bq_o42 (bq_of bwX12_look_64 21 (by decide +kernel))
theorem dX12_look_86 : decode cX12_look 86 = .ok (.iconst 1, 1) := bq_o4 (bq_of bwX12_look_64 22 (by decide +kernel))
theorem dX12_look_87 : decode cX12_look 87 = .ok (.putfield 168, 3) := bq_o181 (a := 0) (b := 168) (bq_3 bwX12_look_64 23 (by decide +kernel)) rfl
theorem dX12_look_90 : decode cX12_look 90 = .ok (.aload_n 0, 1) := bq_o42 (bq_of bwX12_look_64 26 (by decide +kernel))
theorem dX12_look_91 : decode cX12_look 91 = .ok (.getfield 159, 3) := bq_o180 (a := 0) (b := 159) (bq_3 bwX12_look_64 27 (by decide +kernel)) rfl
theorem dX12_look_94 : decode cX12_look 94 = .ok (.aload_n 0, 1) := bq_o42 (bq_of bwX12_look_64 30 (by decide +kernel))
theorem dX12_look_95 : decode cX12_look 95 = .ok (.getfield 156, 3) := bq_o180 (a := 0) (b := 156) (bq_3 bwX12_look_64 31 (by decide +kernel)) rfl
theorem dX12_look_98 : decode cX12_look 98 = .ok (.if_icmp .ge 165, 3) := bq_o162 (a := 0) (b := 165) (bq_3 bwX12_look_64 34 (by decide +kernel)) (by decide +kernel)
theorem dX12_look_101 : decode cX12_look 101 = .ok (.aload_n 0, 1) := bq_o42 (bq_of bwX12_look_64 37 (by decide +kernel))
theorem dX12_look_102 : decode cX12_look 102 = .ok (.getfield 34, 3) := bq_o180 (a := 0) (b := 34) (bq_3 bwX12_look_64 38 (by decide +kernel)) rfl
theorem dX12_look_105 : decode cX12_look 105 = .ok (.aload_n 0, 1) := bq_o42 (bq_of bwX12_look_64 41 (by decide +kernel))
theorem dX12_look_106 : decode cX12_look 106 = .ok (.getfield 159, 3) := bq_o180 (a := 0) (b := 159) (bq_3 bwX12_look_64 42 (by decide +kernel)) rfl
theorem dX12_look_109 : decode cX12_look 109 = .ok (.iaload, 1) := bq_o46 (bq_of bwX12_look_64 45 (by decide +kernel))
theorem dX12_look_110 : decode cX12_look 110 = .ok (.invokestatic 171, 3) := bq_o184 (a := 0) (b := 171) (bq_3 bwX12_look_64 46 (by decide +kernel)) rfl
theorem dX12_look_113 : decode cX12_look 113 = .ok (.ifCond .eq 150, 3) := bq_o153 (a := 0) (b := 150) (bq_3 bwX12_look_64 49 (by decide +kernel)) (by decide +kernel)
theorem dX12_look_116 : decode cX12_look 116 = .ok (.aload_n 0, 1) := bq_o42 (bq_of bwX12_look_64 52 (by decide +kernel))
theorem dX12_look_117 : decode cX12_look 117 = .ok (.dup, 1) := bq_o89 (bq_of bwX12_look_64 53 (by decide +kernel))
theorem dX12_look_118 : decode cX12_look 118 = .ok (.getfield 159, 3) := bq_o180 (a := 0) (b := 159) (bq_3 bwX12_look_64 54 (by decide +kernel)) rfl
theorem dX12_look_121 : decode cX12_look 121 = .ok (.iconst 1, 1) := bq_o4 (bq_of bwX12_look_64 57 (by decide +kernel))
theorem dX12_look_122 : decode cX12_look 122 = .ok (.iadd, 1) := bq_o96 (bq_of bwX12_look_64 58 (by decide +kernel))
theorem dX12_look_123 : decode cX12_look 123 = .ok (.putfield 159, 3) := bq_o181 (a := 0) (b := 159) (bq_3 bwX12_look_64 59 (by decide +kernel)) rfl
theorem dX12_look_126 : decode cX12_look 126 = .ok (.goto (-36), 3) := bq_o167 (a := 255) (b := 220) (bq_3 bwX12_look_64 62 (by decide +kernel)) (by decide +kernel)
def bwX12_look_128l : List Nat := [220, 42, 180, 0, 34, 42, 180, 0, 159, 46, 184, 0, 174, 153, 0, 89, 42, 5, 181, 0, 168, 42, 180, 0, 159, 42, 180, 0, 156, 162, 0, 106, 42, 180, 0, 34, 42, 180, 0, 159, 46, 184, 0, 174, 153, 0, 91, 42, 42, 180, 0, 159, 42, 180, 0, 162, 100, 5, 162, 0, 26, 42, 180, 0, 165, 16]
theorem bwX12_look_128 : ((cX12_look.data.toList.drop 128).take 66).map UInt8.toNat = bwX12_look_128l := by decide +kernel
theorem dX12_look_129 : decode cX12_look 129 = .ok (.aload_n 0, 1) := bq_o42 (bq_of bwX12_look_128 1 (by decide +kernel))
theorem dX12_look_130 : decode cX12_look 130 = .ok (.getfield 34, 3) := bq_o180 (a := 0) (b := 34) (bq_3 bwX12_look_128 2 (by decide +kernel)) rfl
theorem dX12_look_133 : decode cX12_look 133 = .ok (.aload_n 0, 1) := bq_o42 (bq_of bwX12_look_128 5 (by decide +kernel))
theorem dX12_look_134 : decode cX12_look 134 = .ok (.getfield 159, 3) := bq_o180 (a := 0) (b := 159) (bq_3 bwX12_look_128 6 (by decide +kernel)) rfl
theorem dX12_look_137 : decode cX12_look 137 = .ok (.iaload, 1) := bq_o46 (bq_of bwX12_look_128 9 (by decide +kernel))
theorem dX12_look_138 : decode cX12_look 138 = .ok (.invokestatic 174, 3) := bq_o184 (a := 0) (b := 174) (bq_3 bwX12_look_128 10 (by decide +kernel)) rfl
theorem dX12_look_141 : decode cX12_look 141 = .ok (.ifCond .eq 89, 3) := bq_o153 (a := 0) (b := 89) (bq_3 bwX12_look_128 13 (by decide +kernel)) (by decide +kernel)
theorem dX12_look_144 : decode cX12_look 144 = .ok (.aload_n 0, 1) := bq_o42 (bq_of bwX12_look_128 16 (by decide +kernel))
theorem dX12_look_145 : decode cX12_look 145 = .ok (.iconst 2, 1) := bq_o5 (bq_of bwX12_look_128 17 (by decide +kernel))
theorem dX12_look_146 : decode cX12_look 146 = .ok (.putfield 168, 3) := bq_o181 (a := 0) (b := 168) (bq_3 bwX12_look_128 18 (by decide +kernel)) rfl
theorem dX12_look_149 : decode cX12_look 149 = .ok (.aload_n 0, 1) := bq_o42 (bq_of bwX12_look_128 21 (by decide +kernel))
theorem dX12_look_150 : decode cX12_look 150 = .ok (.getfield 159, 3) := bq_o180 (a := 0) (b := 159) (bq_3 bwX12_look_128 22 (by decide +kernel)) rfl
theorem dX12_look_153 : decode cX12_look 153 = .ok (.aload_n 0, 1) := bq_o42 (bq_of bwX12_look_128 25 (by decide +kernel))
theorem dX12_look_154 : decode cX12_look 154 = .ok (.getfield 156, 3) := bq_o180 (a := 0) (b := 156) (bq_3 bwX12_look_128 26 (by decide +kernel)) rfl
theorem dX12_look_157 : decode cX12_look 157 = .ok (.if_icmp .ge 106, 3) := bq_o162 (a := 0) (b := 106) (bq_3 bwX12_look_128 29 (by decide +kernel)) (by decide +kernel)
theorem dX12_look_160 : decode cX12_look 160 = .ok (.aload_n 0, 1) := bq_o42 (bq_of bwX12_look_128 32 (by decide +kernel))
theorem dX12_look_161 : decode cX12_look 161 = .ok (.getfield 34, 3) := bq_o180 (a := 0) (b := 34) (bq_3 bwX12_look_128 33 (by decide +kernel)) rfl
theorem dX12_look_164 : decode cX12_look 164 = .ok (.aload_n 0, 1) := bq_o42 (bq_of bwX12_look_128 36 (by decide +kernel))
theorem dX12_look_165 : decode cX12_look 165 = .ok (.getfield 159, 3) := bq_o180 (a := 0) (b := 159) (bq_3 bwX12_look_128 37 (by decide +kernel)) rfl
theorem dX12_look_168 : decode cX12_look 168 = .ok (.iaload, 1) := bq_o46 (bq_of bwX12_look_128 40 (by decide +kernel))
theorem dX12_look_169 : decode cX12_look 169 = .ok (.invokestatic 174, 3) := bq_o184 (a := 0) (b := 174) (bq_3 bwX12_look_128 41 (by decide +kernel)) rfl
theorem dX12_look_172 : decode cX12_look 172 = .ok (.ifCond .eq 91, 3) := bq_o153 (a := 0) (b := 91) (bq_3 bwX12_look_128 44 (by decide +kernel)) (by decide +kernel)
theorem dX12_look_175 : decode cX12_look 175 = .ok (.aload_n 0, 1) := bq_o42 (bq_of bwX12_look_128 47 (by decide +kernel))
theorem dX12_look_176 : decode cX12_look 176 = .ok (.aload_n 0, 1) := bq_o42 (bq_of bwX12_look_128 48 (by decide +kernel))
theorem dX12_look_177 : decode cX12_look 177 = .ok (.getfield 159, 3) := bq_o180 (a := 0) (b := 159) (bq_3 bwX12_look_128 49 (by decide +kernel)) rfl
theorem dX12_look_180 : decode cX12_look 180 = .ok (.aload_n 0, 1) := bq_o42 (bq_of bwX12_look_128 52 (by decide +kernel))
theorem dX12_look_181 : decode cX12_look 181 = .ok (.getfield 162, 3) := bq_o180 (a := 0) (b := 162) (bq_3 bwX12_look_128 53 (by decide +kernel)) rfl
theorem dX12_look_184 : decode cX12_look 184 = .ok (.isub, 1) := bq_o100 (bq_of bwX12_look_128 56 (by decide +kernel))
theorem dX12_look_185 : decode cX12_look 185 = .ok (.iconst 2, 1) := bq_o5 (bq_of bwX12_look_128 57 (by decide +kernel))
theorem dX12_look_186 : decode cX12_look 186 = .ok (.if_icmp .ge 26, 3) := bq_o162 (a := 0) (b := 26) (bq_3 bwX12_look_128 58 (by decide +kernel)) (by decide +kernel)
theorem dX12_look_189 : decode cX12_look 189 = .ok (.aload_n 0, 1) := bq_o42 (bq_of bwX12_look_128 61 (by decide +kernel))
theorem dX12_look_190 : decode cX12_look 190 = .ok (.getfield 165, 3) := bq_o180 (a := 0) (b := 165) (bq_3 bwX12_look_128 62 (by decide +kernel)) rfl
def bwX12_look_192l : List Nat := [165, 16, 10, 104, 42, 180, 0, 34, 42, 180, 0, 159, 46, 96, 16, 48, 100, 167, 0, 5, 18, 177, 181, 0, 165, 42, 89, 180, 0, 159, 4, 96, 181, 0, 159, 167, 255, 178, 42, 42, 180, 0, 34, 42, 180, 0, 159, 46, 16, 59, 160, 0, 7, 6, 167, 0, 4, 7, 181, 0, 168, 42, 89, 180, 0, 159]
theorem bwX12_look_192 : ((cX12_look.data.toList.drop 192).take 66).map UInt8.toNat = bwX12_look_192l := by decide +kernel
theorem dX12_look_193 : decode cX12_look 193 = .ok (.bipush 10, 2) := bq_o16 (a := 10) (bq_2 bwX12_look_192 1 (by decide +kernel)) (by decide +kernel)
theorem dX12_look_195 : decode cX12_look 195 = .ok (.imul, 1) := bq_o104 (bq_of bwX12_look_192 3 (by decide +kernel))
theorem dX12_look_196 : decode cX12_look 196 = .ok (.aload_n 0, 1) := bq_o42 (bq_of bwX12_look_192 4 (by decide +kernel))
theorem dX12_look_197 : decode cX12_look 197 = .ok (.getfield 34, 3) := bq_o180 (a := 0) (b := 34) (bq_3 bwX12_look_192 5 (by decide +kernel)) rfl
theorem dX12_look_200 : decode cX12_look 200 = .ok (.aload_n 0, 1) := bq_o42 (bq_of bwX12_look_192 8 (by decide +kernel))
theorem dX12_look_201 : decode cX12_look 201 = .ok (.getfield 159, 3) := bq_o180 (a := 0) (b := 159) (bq_3 bwX12_look_192 9 (by decide +kernel)) rfl
theorem dX12_look_204 : decode cX12_look 204 = .ok (.iaload, 1) := bq_o46 (bq_of bwX12_look_192 12 (by decide +kernel))
theorem dX12_look_205 : decode cX12_look 205 = .ok (.iadd, 1) := bq_o96 (bq_of bwX12_look_192 13 (by decide +kernel))
theorem dX12_look_206 : decode cX12_look 206 = .ok (.bipush 48, 2) := bq_o16 (a := 48) (bq_2 bwX12_look_192 14 (by decide +kernel)) (by decide +kernel)
theorem dX12_look_208 : decode cX12_look 208 = .ok (.isub, 1) := bq_o100 (bq_of bwX12_look_192 16 (by decide +kernel))
theorem dX12_look_209 : decode cX12_look 209 = .ok (.goto 5, 3) := bq_o167 (a := 0) (b := 5) (bq_3 bwX12_look_192 17 (by decide +kernel)) (by decide +kernel)
theorem dX12_look_212 : decode cX12_look 212 = .ok (.ldc 177, 2) := bq_o18 (a := 177) (bq_2 bwX12_look_192 20 (by decide +kernel)) rfl
theorem dX12_look_214 : decode cX12_look 214 = .ok (.putfield 165, 3) := bq_o181 (a := 0) (b := 165) (bq_3 bwX12_look_192 22 (by decide +kernel)) rfl
theorem dX12_look_217 : decode cX12_look 217 = .ok (.aload_n 0, 1) := bq_o42 (bq_of bwX12_look_192 25 (by decide +kernel))
theorem dX12_look_218 : decode cX12_look 218 = .ok (.dup, 1) := bq_o89 (bq_of bwX12_look_192 26 (by decide +kernel))
theorem dX12_look_219 : decode cX12_look 219 = .ok (.getfield 159, 3) := bq_o180 (a := 0) (b := 159) (bq_3 bwX12_look_192 27 (by decide +kernel)) rfl
theorem dX12_look_222 : decode cX12_look 222 = .ok (.iconst 1, 1) := bq_o4 (bq_of bwX12_look_192 30 (by decide +kernel))
theorem dX12_look_223 : decode cX12_look 223 = .ok (.iadd, 1) := bq_o96 (bq_of bwX12_look_192 31 (by decide +kernel))
theorem dX12_look_224 : decode cX12_look 224 = .ok (.putfield 159, 3) := bq_o181 (a := 0) (b := 159) (bq_3 bwX12_look_192 32 (by decide +kernel)) rfl
theorem dX12_look_227 : decode cX12_look 227 = .ok (.goto (-78), 3) := bq_o167 (a := 255) (b := 178) (bq_3 bwX12_look_192 35 (by decide +kernel)) (by decide +kernel)
theorem dX12_look_230 : decode cX12_look 230 = .ok (.aload_n 0, 1) := bq_o42 (bq_of bwX12_look_192 38 (by decide +kernel))
theorem dX12_look_231 : decode cX12_look 231 = .ok (.aload_n 0, 1) := bq_o42 (bq_of bwX12_look_192 39 (by decide +kernel))
theorem dX12_look_232 : decode cX12_look 232 = .ok (.getfield 34, 3) := bq_o180 (a := 0) (b := 34) (bq_3 bwX12_look_192 40 (by decide +kernel)) rfl
theorem dX12_look_235 : decode cX12_look 235 = .ok (.aload_n 0, 1) := bq_o42 (bq_of bwX12_look_192 43 (by decide +kernel))
theorem dX12_look_236 : decode cX12_look 236 = .ok (.getfield 159, 3) := bq_o180 (a := 0) (b := 159) (bq_3 bwX12_look_192 44 (by decide +kernel)) rfl
theorem dX12_look_239 : decode cX12_look 239 = .ok (.iaload, 1) := bq_o46 (bq_of bwX12_look_192 47 (by decide +kernel))
theorem dX12_look_240 : decode cX12_look 240 = .ok (.bipush 59, 2) := bq_o16 (a := 59) (bq_2 bwX12_look_192 48 (by decide +kernel)) (by decide +kernel)
theorem dX12_look_242 : decode cX12_look 242 = .ok (.if_icmp .ne 7, 3) := bq_o160 (a := 0) (b := 7) (bq_3 bwX12_look_192 50 (by decide +kernel)) (by decide +kernel)
theorem dX12_look_245 : decode cX12_look 245 = .ok (.iconst 3, 1) := bq_o6 (bq_of bwX12_look_192 53 (by decide +kernel))
theorem dX12_look_246 : decode cX12_look 246 = .ok (.goto 4, 3) := bq_o167 (a := 0) (b := 4) (bq_3 bwX12_look_192 54 (by decide +kernel)) (by decide +kernel)
theorem dX12_look_249 : decode cX12_look 249 = .ok (.iconst 4, 1) := bq_o7 (bq_of bwX12_look_192 57 (by decide +kernel))
theorem dX12_look_250 : decode cX12_look 250 = .ok (.putfield 168, 3) := bq_o181 (a := 0) (b := 168) (bq_3 bwX12_look_192 58 (by decide +kernel)) rfl
theorem dX12_look_253 : decode cX12_look 253 = .ok (.aload_n 0, 1) := bq_o42 (bq_of bwX12_look_192 61 (by decide +kernel))
theorem dX12_look_254 : decode cX12_look 254 = .ok (.dup, 1) := bq_o89 (bq_of bwX12_look_192 62 (by decide +kernel))
theorem dX12_look_255 : decode cX12_look 255 = .ok (.getfield 159, 3) := bq_o180 (a := 0) (b := 159) (bq_3 bwX12_look_192 63 (by decide +kernel)) rfl
def bwX12_look_256l : List Nat := [0, 159, 4, 96, 181, 0, 159, 177]
theorem bwX12_look_256 : ((cX12_look.data.toList.drop 256).take 8).map UInt8.toNat = bwX12_look_256l := by decide +kernel
theorem dX12_look_258 : decode cX12_look 258 = .ok (.iconst 1, 1) := bq_o4 (bq_of bwX12_look_256 2 (by decide +kernel))
theorem dX12_look_259 : decode cX12_look 259 = .ok (.iadd, 1) := bq_o96 (bq_of bwX12_look_256 3 (by decide +kernel))
theorem dX12_look_260 : decode cX12_look 260 = .ok (.putfield 159, 3) := bq_o181 (a := 0) (b := 159) (bq_3 bwX12_look_256 4 (by decide +kernel)) rfl
theorem dX12_look_263 : decode cX12_look 263 = .ok (.return_, 1) := bq_o177 (bq_of bwX12_look_256 7 (by decide +kernel))
theorem dX12_wrong_0 : decode cX12_wrong 0 = .ok (.aload_n 0, 1) := by decide +kernel
theorem dX12_wrong_1 : decode cX12_wrong 1 = .ok (.aload_n 0, 1) := by decide +kernel
theorem dX12_wrong_2 : decode cX12_wrong 2 = .ok (.getfield 162, 3) := by decide +kernel
theorem dX12_wrong_5 : decode cX12_wrong 5 = .ok (.putfield 178, 3) := by decide +kernel
theorem dX12_wrong_8 : decode cX12_wrong 8 = .ok (.iconst 0, 1) := by decide +kernel
theorem dX12_wrong_9 : decode cX12_wrong 9 = .ok (.ireturn, 1) := by decide +kernel
def bwX12_isWord_0l : List Nat := [42, 180, 0, 168, 4, 160, 0, 19, 42, 180, 0, 159, 42, 180, 0, 162, 100, 43, 182, 0, 181, 159, 0, 5, 3, 172, 3, 61, 28, 43, 182, 0, 181, 162, 0, 30, 42, 180, 0, 34, 42, 180, 0, 162, 28, 96, 46, 43, 28, 182, 0, 186, 159, 0, 5, 3, 172, 132, 2, 1, 167, 255, 224, 4, 172]
theorem bwX12_isWord_0 : ((cX12_isWord.data.toList.drop 0).take 65).map UInt8.toNat = bwX12_isWord_0l := by decide +kernel
theorem dX12_isWord_0 : decode cX12_isWord 0 = .ok (.aload_n 0, 1) := bq_o42 (bq_of bwX12_isWord_0 0 (by decide +kernel))
theorem dX12_isWord_1 : decode cX12_isWord 1 = .ok (.getfield 168, 3) := bq_o180 (a := 0) (b := 168) (bq_3 bwX12_isWord_0 1 (by decide +kernel)) rfl
theorem dX12_isWord_4 : decode cX12_isWord 4 = .ok (.iconst 1, 1) := bq_o4 (bq_of bwX12_isWord_0 4 (by decide +kernel))
theorem dX12_isWord_5 : decode cX12_isWord 5 = .ok (.if_icmp .ne 19, 3) := bq_o160 (a := 0) (b := 19) (bq_3 bwX12_isWord_0 5 (by decide +kernel)) (by decide +kernel)
theorem dX12_isWord_8 : decode cX12_isWord 8 = .ok (.aload_n 0, 1) := bq_o42 (bq_of bwX12_isWord_0 8 (by decide +kernel))
theorem dX12_isWord_9 : decode cX12_isWord 9 = .ok (.getfield 159, 3) := bq_o180 (a := 0) (b := 159) (bq_3 bwX12_isWord_0 9 (by decide +kernel)) rfl
theorem dX12_isWord_12 : decode cX12_isWord 12 = .ok (.aload_n 0, 1) := bq_o42 (bq_of bwX12_isWord_0 12 (by decide +kernel))
theorem dX12_isWord_13 : decode cX12_isWord 13 = .ok (.getfield 162, 3) := bq_o180 (a := 0) (b := 162) (bq_3 bwX12_isWord_0 13 (by decide +kernel)) rfl
theorem dX12_isWord_16 : decode cX12_isWord 16 = .ok (.isub, 1) := bq_o100 (bq_of bwX12_isWord_0 16 (by decide +kernel))
theorem dX12_isWord_17 : decode cX12_isWord 17 = .ok (.aload_n 1, 1) := bq_o43 (bq_of bwX12_isWord_0 17 (by decide +kernel))
theorem dX12_isWord_18 : decode cX12_isWord 18 = .ok (.invokevirtual 181, 3) := bq_o182 (a := 0) (b := 181) (bq_3 bwX12_isWord_0 18 (by decide +kernel)) rfl
theorem dX12_isWord_21 : decode cX12_isWord 21 = .ok (.if_icmp .eq 5, 3) := bq_o159 (a := 0) (b := 5) (bq_3 bwX12_isWord_0 21 (by decide +kernel)) (by decide +kernel)
theorem dX12_isWord_24 : decode cX12_isWord 24 = .ok (.iconst 0, 1) := bq_o3 (bq_of bwX12_isWord_0 24 (by decide +kernel))
theorem dX12_isWord_25 : decode cX12_isWord 25 = .ok (.ireturn, 1) := bq_o172 (bq_of bwX12_isWord_0 25 (by decide +kernel))
theorem dX12_isWord_26 : decode cX12_isWord 26 = .ok (.iconst 0, 1) := bq_o3 (bq_of bwX12_isWord_0 26 (by decide +kernel))
theorem dX12_isWord_27 : decode cX12_isWord 27 = .ok (.istore_n 2, 1) := bq_o61 (bq_of bwX12_isWord_0 27 (by decide +kernel))
theorem dX12_isWord_28 : decode cX12_isWord 28 = .ok (.iload_n 2, 1) := bq_o28 (bq_of bwX12_isWord_0 28 (by decide +kernel))
theorem dX12_isWord_29 : decode cX12_isWord 29 = .ok (.aload_n 1, 1) := bq_o43 (bq_of bwX12_isWord_0 29 (by decide +kernel))
theorem dX12_isWord_30 : decode cX12_isWord 30 = .ok (.invokevirtual 181, 3) := bq_o182 (a := 0) (b := 181) (bq_3 bwX12_isWord_0 30 (by decide +kernel)) rfl
theorem dX12_isWord_33 : decode cX12_isWord 33 = .ok (.if_icmp .ge 30, 3) := bq_o162 (a := 0) (b := 30) (bq_3 bwX12_isWord_0 33 (by decide +kernel)) (by decide +kernel)
theorem dX12_isWord_36 : decode cX12_isWord 36 = .ok (.aload_n 0, 1) := bq_o42 (bq_of bwX12_isWord_0 36 (by decide +kernel))
theorem dX12_isWord_37 : decode cX12_isWord 37 = .ok (.getfield 34, 3) := bq_o180 (a := 0) (b := 34) (bq_3 bwX12_isWord_0 37 (by decide +kernel)) rfl
theorem dX12_isWord_40 : decode cX12_isWord 40 = .ok (.aload_n 0, 1) := bq_o42 (bq_of bwX12_isWord_0 40 (by decide +kernel))
theorem dX12_isWord_41 : decode cX12_isWord 41 = .ok (.getfield 162, 3) := bq_o180 (a := 0) (b := 162) (bq_3 bwX12_isWord_0 41 (by decide +kernel)) rfl
theorem dX12_isWord_44 : decode cX12_isWord 44 = .ok (.iload_n 2, 1) := bq_o28 (bq_of bwX12_isWord_0 44 (by decide +kernel))
theorem dX12_isWord_45 : decode cX12_isWord 45 = .ok (.iadd, 1) := bq_o96 (bq_of bwX12_isWord_0 45 (by decide +kernel))
theorem dX12_isWord_46 : decode cX12_isWord 46 = .ok (.iaload, 1) := bq_o46 (bq_of bwX12_isWord_0 46 (by decide +kernel))
theorem dX12_isWord_47 : decode cX12_isWord 47 = .ok (.aload_n 1, 1) := bq_o43 (bq_of bwX12_isWord_0 47 (by decide +kernel))
theorem dX12_isWord_48 : decode cX12_isWord 48 = .ok (.iload_n 2, 1) := bq_o28 (bq_of bwX12_isWord_0 48 (by decide +kernel))
theorem dX12_isWord_49 : decode cX12_isWord 49 = .ok (.invokevirtual 186, 3) := bq_o182 (a := 0) (b := 186) (bq_3 bwX12_isWord_0 49 (by decide +kernel)) rfl
theorem dX12_isWord_52 : decode cX12_isWord 52 = .ok (.if_icmp .eq 5, 3) := bq_o159 (a := 0) (b := 5) (bq_3 bwX12_isWord_0 52 (by decide +kernel)) (by decide +kernel)
theorem dX12_isWord_55 : decode cX12_isWord 55 = .ok (.iconst 0, 1) := bq_o3 (bq_of bwX12_isWord_0 55 (by decide +kernel))
theorem dX12_isWord_56 : decode cX12_isWord 56 = .ok (.ireturn, 1) := bq_o172 (bq_of bwX12_isWord_0 56 (by decide +kernel))
theorem dX12_isWord_57 : decode cX12_isWord 57 = .ok (.iinc 2 1, 3) := bq_o132 (a := 2) (b := 1) (bq_3 bwX12_isWord_0 57 (by decide +kernel)) rfl (by decide +kernel)
theorem dX12_isWord_60 : decode cX12_isWord 60 = .ok (.goto (-32), 3) := bq_o167 (a := 255) (b := 224) (bq_3 bwX12_isWord_0 60 (by decide +kernel)) (by decide +kernel)
theorem dX12_isWord_63 : decode cX12_isWord 63 = .ok (.iconst 1, 1) := bq_o4 (bq_of bwX12_isWord_0 63 (by decide +kernel))
def bwX12_isWord_64l : List Nat := [172]
theorem bwX12_isWord_64 : ((cX12_isWord.data.toList.drop 64).take 1).map UInt8.toNat = bwX12_isWord_64l := by decide +kernel
theorem dX12_isWord_64 : decode cX12_isWord 64 = .ok (.ireturn, 1) := bq_o172 (bq_of bwX12_isWord_64 0 (by decide +kernel))
theorem dX12_number_0 : decode cX12_number 0 = .ok (.aload_n 0, 1) := by decide +kernel
theorem dX12_number_1 : decode cX12_number 1 = .ok (.getfield 168, 3) := by decide +kernel
theorem dX12_number_4 : decode cX12_number 4 = .ok (.iconst 2, 1) := by decide +kernel
theorem dX12_number_5 : decode cX12_number 5 = .ok (.if_icmp .ne 18, 3) := by decide +kernel
theorem dX12_number_8 : decode cX12_number 8 = .ok (.aload_n 0, 1) := by decide +kernel
theorem dX12_number_9 : decode cX12_number 9 = .ok (.getfield 165, 3) := by decide +kernel
theorem dX12_number_12 : decode cX12_number 12 = .ok (.i2l, 1) := by decide +kernel
theorem dX12_number_13 : decode cX12_number 13 = .ok (.iload_n 2, 1) := by decide +kernel
theorem dX12_number_14 : decode cX12_number 14 = .ok (.i2l, 1) := by decide +kernel
theorem dX12_number_15 : decode cX12_number 15 = .ok (.iload_n 3, 1) := by decide +kernel
theorem dX12_number_16 : decode cX12_number 16 = .ok (.i2l, 1) := by decide +kernel
theorem dX12_number_17 : decode cX12_number 17 = .ok (.invokestatic 88, 3) := by decide +kernel
theorem dX12_number_20 : decode cX12_number 20 = .ok (.ifCond .ne 8, 3) := by decide +kernel
theorem dX12_number_23 : decode cX12_number 23 = .ok (.aload_n 0, 1) := by decide +kernel
theorem dX12_number_24 : decode cX12_number 24 = .ok (.invokevirtual 190, 3) := by decide +kernel
theorem dX12_number_27 : decode cX12_number 27 = .ok (.ireturn, 1) := by decide +kernel
theorem dX12_number_28 : decode cX12_number 28 = .ok (.aload_n 0, 1) := by decide +kernel
theorem dX12_number_29 : decode cX12_number 29 = .ok (.getfield 58, 3) := by decide +kernel
theorem dX12_number_32 : decode cX12_number 32 = .ok (.iload_n 1, 1) := by decide +kernel
theorem dX12_number_33 : decode cX12_number 33 = .ok (.aload_n 0, 1) := by decide +kernel
theorem dX12_number_34 : decode cX12_number 34 = .ok (.getfield 165, 3) := by decide +kernel
theorem dX12_number_37 : decode cX12_number 37 = .ok (.iastore, 1) := by decide +kernel
theorem dX12_number_38 : decode cX12_number 38 = .ok (.aload_n 0, 1) := by decide +kernel
theorem dX12_number_39 : decode cX12_number 39 = .ok (.invokevirtual 194, 3) := by decide +kernel
theorem dX12_number_42 : decode cX12_number 42 = .ok (.iconst 1, 1) := by decide +kernel
theorem dX12_number_43 : decode cX12_number 43 = .ok (.ireturn, 1) := by decide +kernel
theorem dX12_tells_0 : decode cX12_tells 0 = .ok (.aload_n 0, 1) := by decide +kernel
theorem dX12_tells_1 : decode cX12_tells 1 = .ok (.invokevirtual 194, 3) := by decide +kernel
theorem dX12_tells_4 : decode cX12_tells 4 = .ok (.aload_n 0, 1) := by decide +kernel
theorem dX12_tells_5 : decode cX12_tells 5 = .ok (.iconst 0, 1) := by decide +kernel
theorem dX12_tells_6 : decode cX12_tells 6 = .ok (.iload_n 1, 1) := by decide +kernel
theorem dX12_tells_7 : decode cX12_tells 7 = .ok (.iload_n 2, 1) := by decide +kernel
theorem dX12_tells_8 : decode cX12_tells 8 = .ok (.invokevirtual 197, 3) := by decide +kernel
theorem dX12_tells_11 : decode cX12_tells 11 = .ok (.ireturn, 1) := by decide +kernel
theorem dX12_twoTold_0 : decode cX12_twoTold 0 = .ok (.aload_n 0, 1) := by decide +kernel
theorem dX12_twoTold_1 : decode cX12_twoTold 1 = .ok (.iconst 0, 1) := by decide +kernel
theorem dX12_twoTold_2 : decode cX12_twoTold 2 = .ok (.aload_n 0, 1) := by decide +kernel
theorem dX12_twoTold_3 : decode cX12_twoTold 3 = .ok (.getfield 85, 3) := by decide +kernel
theorem dX12_twoTold_6 : decode cX12_twoTold 6 = .ok (.iconst 1, 1) := by decide +kernel
theorem dX12_twoTold_7 : decode cX12_twoTold 7 = .ok (.isub, 1) := by decide +kernel
theorem dX12_twoTold_8 : decode cX12_twoTold 8 = .ok (.invokevirtual 201, 3) := by decide +kernel
theorem dX12_twoTold_11 : decode cX12_twoTold 11 = .ok (.ifCond .ne 5, 3) := by decide +kernel
theorem dX12_twoTold_14 : decode cX12_twoTold 14 = .ok (.iconst 0, 1) := by decide +kernel
theorem dX12_twoTold_15 : decode cX12_twoTold 15 = .ok (.ireturn, 1) := by decide +kernel
theorem dX12_twoTold_16 : decode cX12_twoTold 16 = .ok (.aload_n 0, 1) := by decide +kernel
theorem dX12_twoTold_17 : decode cX12_twoTold 17 = .ok (.getfield 168, 3) := by decide +kernel
theorem dX12_twoTold_20 : decode cX12_twoTold 20 = .ok (.iconst 2, 1) := by decide +kernel
theorem dX12_twoTold_21 : decode cX12_twoTold 21 = .ok (.if_icmp .ne 21, 3) := by decide +kernel
theorem dX12_twoTold_24 : decode cX12_twoTold 24 = .ok (.aload_n 0, 1) := by decide +kernel
theorem dX12_twoTold_25 : decode cX12_twoTold 25 = .ok (.getfield 165, 3) := by decide +kernel
theorem dX12_twoTold_28 : decode cX12_twoTold 28 = .ok (.aload_n 0, 1) := by decide +kernel
theorem dX12_twoTold_29 : decode cX12_twoTold 29 = .ok (.getfield 58, 3) := by decide +kernel
theorem dX12_twoTold_32 : decode cX12_twoTold 32 = .ok (.iconst 0, 1) := by decide +kernel
theorem dX12_twoTold_33 : decode cX12_twoTold 33 = .ok (.iaload, 1) := by decide +kernel
theorem dX12_twoTold_34 : decode cX12_twoTold 34 = .ok (.if_icmp .ne 8, 3) := by decide +kernel
theorem dX12_twoTold_37 : decode cX12_twoTold 37 = .ok (.aload_n 0, 1) := by decide +kernel
theorem dX12_twoTold_38 : decode cX12_twoTold 38 = .ok (.invokevirtual 190, 3) := by decide +kernel
theorem dX12_twoTold_41 : decode cX12_twoTold 41 = .ok (.ireturn, 1) := by decide +kernel
theorem dX12_twoTold_42 : decode cX12_twoTold 42 = .ok (.aload_n 0, 1) := by decide +kernel
theorem dX12_twoTold_43 : decode cX12_twoTold 43 = .ok (.iconst 1, 1) := by decide +kernel
theorem dX12_twoTold_44 : decode cX12_twoTold 44 = .ok (.iconst 0, 1) := by decide +kernel
theorem dX12_twoTold_45 : decode cX12_twoTold 45 = .ok (.aload_n 0, 1) := by decide +kernel
theorem dX12_twoTold_46 : decode cX12_twoTold 46 = .ok (.getfield 85, 3) := by decide +kernel
theorem dX12_twoTold_49 : decode cX12_twoTold 49 = .ok (.iconst 1, 1) := by decide +kernel
theorem dX12_twoTold_50 : decode cX12_twoTold 50 = .ok (.isub, 1) := by decide +kernel
theorem dX12_twoTold_51 : decode cX12_twoTold 51 = .ok (.invokevirtual 197, 3) := by decide +kernel
theorem dX12_twoTold_54 : decode cX12_twoTold 54 = .ok (.ireturn, 1) := by decide +kernel
def bwX12_knowTold_0l : List Nat := [42, 182, 0, 204, 154, 0, 5, 3, 172, 42, 180, 0, 58, 3, 46, 60, 42, 180, 0, 58, 4, 46, 61, 3, 62, 42, 18, 207, 182, 0, 209, 153, 0, 22, 42, 3, 16, 99, 182, 0, 201, 154, 0, 5, 3, 172, 42, 180, 0, 58, 3, 46, 62, 42, 27, 28, 29, 182, 0, 142, 4, 172]
theorem bwX12_knowTold_0 : ((cX12_knowTold.data.toList.drop 0).take 62).map UInt8.toNat = bwX12_knowTold_0l := by decide +kernel
theorem dX12_knowTold_0 : decode cX12_knowTold 0 = .ok (.aload_n 0, 1) := bq_o42 (bq_of bwX12_knowTold_0 0 (by decide +kernel))
theorem dX12_knowTold_1 : decode cX12_knowTold 1 = .ok (.invokevirtual 204, 3) := bq_o182 (a := 0) (b := 204) (bq_3 bwX12_knowTold_0 1 (by decide +kernel)) rfl
theorem dX12_knowTold_4 : decode cX12_knowTold 4 = .ok (.ifCond .ne 5, 3) := bq_o154 (a := 0) (b := 5) (bq_3 bwX12_knowTold_0 4 (by decide +kernel)) (by decide +kernel)
theorem dX12_knowTold_7 : decode cX12_knowTold 7 = .ok (.iconst 0, 1) := bq_o3 (bq_of bwX12_knowTold_0 7 (by decide +kernel))
theorem dX12_knowTold_8 : decode cX12_knowTold 8 = .ok (.ireturn, 1) := bq_o172 (bq_of bwX12_knowTold_0 8 (by decide +kernel))
theorem dX12_knowTold_9 : decode cX12_knowTold 9 = .ok (.aload_n 0, 1) := bq_o42 (bq_of bwX12_knowTold_0 9 (by decide +kernel))
theorem dX12_knowTold_10 : decode cX12_knowTold 10 = .ok (.getfield 58, 3) := bq_o180 (a := 0) (b := 58) (bq_3 bwX12_knowTold_0 10 (by decide +kernel)) rfl
theorem dX12_knowTold_13 : decode cX12_knowTold 13 = .ok (.iconst 0, 1) := bq_o3 (bq_of bwX12_knowTold_0 13 (by decide +kernel))
theorem dX12_knowTold_14 : decode cX12_knowTold 14 = .ok (.iaload, 1) := bq_o46 (bq_of bwX12_knowTold_0 14 (by decide +kernel))
theorem dX12_knowTold_15 : decode cX12_knowTold 15 = .ok (.istore_n 1, 1) := bq_o60 (bq_of bwX12_knowTold_0 15 (by decide +kernel))
theorem dX12_knowTold_16 : decode cX12_knowTold 16 = .ok (.aload_n 0, 1) := bq_o42 (bq_of bwX12_knowTold_0 16 (by decide +kernel))
theorem dX12_knowTold_17 : decode cX12_knowTold 17 = .ok (.getfield 58, 3) := bq_o180 (a := 0) (b := 58) (bq_3 bwX12_knowTold_0 17 (by decide +kernel)) rfl
theorem dX12_knowTold_20 : decode cX12_knowTold 20 = .ok (.iconst 1, 1) := bq_o4 (bq_of bwX12_knowTold_0 20 (by decide +kernel))
theorem dX12_knowTold_21 : decode cX12_knowTold 21 = .ok (.iaload, 1) := bq_o46 (bq_of bwX12_knowTold_0 21 (by decide +kernel))
theorem dX12_knowTold_22 : decode cX12_knowTold 22 = .ok (.istore_n 2, 1) := bq_o61 (bq_of bwX12_knowTold_0 22 (by decide +kernel))
theorem dX12_knowTold_23 : decode cX12_knowTold 23 = .ok (.iconst 0, 1) := bq_o3 (bq_of bwX12_knowTold_0 23 (by decide +kernel))
theorem dX12_knowTold_24 : decode cX12_knowTold 24 = .ok (.istore_n 3, 1) := bq_o62 (bq_of bwX12_knowTold_0 24 (by decide +kernel))
theorem dX12_knowTold_25 : decode cX12_knowTold 25 = .ok (.aload_n 0, 1) := bq_o42 (bq_of bwX12_knowTold_0 25 (by decide +kernel))
theorem dX12_knowTold_26 : decode cX12_knowTold 26 = .ok (.ldc 207, 2) := bq_o18 (a := 207) (bq_2 bwX12_knowTold_0 26 (by decide +kernel)) rfl
theorem dX12_knowTold_28 : decode cX12_knowTold 28 = .ok (.invokevirtual 209, 3) := bq_o182 (a := 0) (b := 209) (bq_3 bwX12_knowTold_0 28 (by decide +kernel)) rfl
theorem dX12_knowTold_31 : decode cX12_knowTold 31 = .ok (.ifCond .eq 22, 3) := bq_o153 (a := 0) (b := 22) (bq_3 bwX12_knowTold_0 31 (by decide +kernel)) (by decide +kernel)
theorem dX12_knowTold_34 : decode cX12_knowTold 34 = .ok (.aload_n 0, 1) := bq_o42 (bq_of bwX12_knowTold_0 34 (by decide +kernel))
theorem dX12_knowTold_35 : decode cX12_knowTold 35 = .ok (.iconst 0, 1) := bq_o3 (bq_of bwX12_knowTold_0 35 (by decide +kernel))
theorem dX12_knowTold_36 : decode cX12_knowTold 36 = .ok (.bipush 99, 2) := bq_o16 (a := 99) (bq_2 bwX12_knowTold_0 36 (by decide +kernel)) (by decide +kernel)
theorem dX12_knowTold_38 : decode cX12_knowTold 38 = .ok (.invokevirtual 201, 3) := bq_o182 (a := 0) (b := 201) (bq_3 bwX12_knowTold_0 38 (by decide +kernel)) rfl
theorem dX12_knowTold_41 : decode cX12_knowTold 41 = .ok (.ifCond .ne 5, 3) := bq_o154 (a := 0) (b := 5) (bq_3 bwX12_knowTold_0 41 (by decide +kernel)) (by decide +kernel)
theorem dX12_knowTold_44 : decode cX12_knowTold 44 = .ok (.iconst 0, 1) := bq_o3 (bq_of bwX12_knowTold_0 44 (by decide +kernel))
theorem dX12_knowTold_45 : decode cX12_knowTold 45 = .ok (.ireturn, 1) := bq_o172 (bq_of bwX12_knowTold_0 45 (by decide +kernel))
theorem dX12_knowTold_46 : decode cX12_knowTold 46 = .ok (.aload_n 0, 1) := bq_o42 (bq_of bwX12_knowTold_0 46 (by decide +kernel))
theorem dX12_knowTold_47 : decode cX12_knowTold 47 = .ok (.getfield 58, 3) := bq_o180 (a := 0) (b := 58) (bq_3 bwX12_knowTold_0 47 (by decide +kernel)) rfl
theorem dX12_knowTold_50 : decode cX12_knowTold 50 = .ok (.iconst 0, 1) := bq_o3 (bq_of bwX12_knowTold_0 50 (by decide +kernel))
theorem dX12_knowTold_51 : decode cX12_knowTold 51 = .ok (.iaload, 1) := bq_o46 (bq_of bwX12_knowTold_0 51 (by decide +kernel))
theorem dX12_knowTold_52 : decode cX12_knowTold 52 = .ok (.istore_n 3, 1) := bq_o62 (bq_of bwX12_knowTold_0 52 (by decide +kernel))
theorem dX12_knowTold_53 : decode cX12_knowTold 53 = .ok (.aload_n 0, 1) := bq_o42 (bq_of bwX12_knowTold_0 53 (by decide +kernel))
theorem dX12_knowTold_54 : decode cX12_knowTold 54 = .ok (.iload_n 1, 1) := bq_o27 (bq_of bwX12_knowTold_0 54 (by decide +kernel))
theorem dX12_knowTold_55 : decode cX12_knowTold 55 = .ok (.iload_n 2, 1) := bq_o28 (bq_of bwX12_knowTold_0 55 (by decide +kernel))
theorem dX12_knowTold_56 : decode cX12_knowTold 56 = .ok (.iload_n 3, 1) := bq_o29 (bq_of bwX12_knowTold_0 56 (by decide +kernel))
theorem dX12_knowTold_57 : decode cX12_knowTold 57 = .ok (.invokevirtual 142, 3) := bq_o182 (a := 0) (b := 142) (bq_3 bwX12_knowTold_0 57 (by decide +kernel)) rfl
theorem dX12_knowTold_60 : decode cX12_knowTold 60 = .ok (.iconst 1, 1) := bq_o4 (bq_of bwX12_knowTold_0 60 (by decide +kernel))
theorem dX12_knowTold_61 : decode cX12_knowTold 61 = .ok (.ireturn, 1) := bq_o172 (bq_of bwX12_knowTold_0 61 (by decide +kernel))
def bwX12_metTold_0l : List Nat := [42, 3, 42, 180, 0, 85, 4, 100, 182, 0, 201, 154, 0, 5, 3, 172, 4, 42, 180, 0, 58, 3, 46, 120, 60, 42, 180, 0, 168, 5, 160, 0, 61, 42, 180, 0, 165, 42, 180, 0, 85, 162, 0, 19, 27, 42, 180, 0, 165, 184, 0, 151, 153, 0, 8, 42, 182, 0, 190, 172, 42, 3, 3, 42, 180, 0]
theorem bwX12_metTold_0 : ((cX12_metTold.data.toList.drop 0).take 66).map UInt8.toNat = bwX12_metTold_0l := by decide +kernel
theorem dX12_metTold_0 : decode cX12_metTold 0 = .ok (.aload_n 0, 1) := bq_o42 (bq_of bwX12_metTold_0 0 (by decide +kernel))
theorem dX12_metTold_1 : decode cX12_metTold 1 = .ok (.iconst 0, 1) := bq_o3 (bq_of bwX12_metTold_0 1 (by decide +kernel))
theorem dX12_metTold_2 : decode cX12_metTold 2 = .ok (.aload_n 0, 1) := bq_o42 (bq_of bwX12_metTold_0 2 (by decide +kernel))
theorem dX12_metTold_3 : decode cX12_metTold 3 = .ok (.getfield 85, 3) := bq_o180 (a := 0) (b := 85) (bq_3 bwX12_metTold_0 3 (by decide +kernel)) rfl
theorem dX12_metTold_6 : decode cX12_metTold 6 = .ok (.iconst 1, 1) := bq_o4 (bq_of bwX12_metTold_0 6 (by decide +kernel))
theorem dX12_metTold_7 : decode cX12_metTold 7 = .ok (.isub, 1) := bq_o100 (bq_of bwX12_metTold_0 7 (by decide +kernel))
theorem dX12_metTold_8 : decode cX12_metTold 8 = .ok (.invokevirtual 201, 3) := bq_o182 (a := 0) (b := 201) (bq_3 bwX12_metTold_0 8 (by decide +kernel)) rfl
theorem dX12_metTold_11 : decode cX12_metTold 11 = .ok (.ifCond .ne 5, 3) := bq_o154 (a := 0) (b := 5) (bq_3 bwX12_metTold_0 11 (by decide +kernel)) (by decide +kernel)
theorem dX12_metTold_14 : decode cX12_metTold 14 = .ok (.iconst 0, 1) := bq_o3 (bq_of bwX12_metTold_0 14 (by decide +kernel))
theorem dX12_metTold_15 : decode cX12_metTold 15 = .ok (.ireturn, 1) := bq_o172 (bq_of bwX12_metTold_0 15 (by decide +kernel))
theorem dX12_metTold_16 : decode cX12_metTold 16 = .ok (.iconst 1, 1) := bq_o4 (bq_of bwX12_metTold_0 16 (by decide +kernel))
theorem dX12_metTold_17 : decode cX12_metTold 17 = .ok (.aload_n 0, 1) := bq_o42 (bq_of bwX12_metTold_0 17 (by decide +kernel))
theorem dX12_metTold_18 : decode cX12_metTold 18 = .ok (.getfield 58, 3) := bq_o180 (a := 0) (b := 58) (bq_3 bwX12_metTold_0 18 (by decide +kernel)) rfl
theorem dX12_metTold_21 : decode cX12_metTold 21 = .ok (.iconst 0, 1) := bq_o3 (bq_of bwX12_metTold_0 21 (by decide +kernel))
theorem dX12_metTold_22 : decode cX12_metTold 22 = .ok (.iaload, 1) := bq_o46 (bq_of bwX12_metTold_0 22 (by decide +kernel))
theorem dX12_metTold_23 : decode cX12_metTold 23 = .ok (.ishl, 1) := bq_o120 (bq_of bwX12_metTold_0 23 (by decide +kernel))
theorem dX12_metTold_24 : decode cX12_metTold 24 = .ok (.istore_n 1, 1) := bq_o60 (bq_of bwX12_metTold_0 24 (by decide +kernel))
theorem dX12_metTold_25 : decode cX12_metTold 25 = .ok (.aload_n 0, 1) := bq_o42 (bq_of bwX12_metTold_0 25 (by decide +kernel))
theorem dX12_metTold_26 : decode cX12_metTold 26 = .ok (.getfield 168, 3) := bq_o180 (a := 0) (b := 168) (bq_3 bwX12_metTold_0 26 (by decide +kernel)) rfl
theorem dX12_metTold_29 : decode cX12_metTold 29 = .ok (.iconst 2, 1) := bq_o5 (bq_of bwX12_metTold_0 29 (by decide +kernel))
theorem dX12_metTold_30 : decode cX12_metTold 30 = .ok (.if_icmp .ne 61, 3) := bq_o160 (a := 0) (b := 61) (bq_3 bwX12_metTold_0 30 (by decide +kernel)) (by decide +kernel)
theorem dX12_metTold_33 : decode cX12_metTold 33 = .ok (.aload_n 0, 1) := bq_o42 (bq_of bwX12_metTold_0 33 (by decide +kernel))
theorem dX12_metTold_34 : decode cX12_metTold 34 = .ok (.getfield 165, 3) := bq_o180 (a := 0) (b := 165) (bq_3 bwX12_metTold_0 34 (by decide +kernel)) rfl
theorem dX12_metTold_37 : decode cX12_metTold 37 = .ok (.aload_n 0, 1) := bq_o42 (bq_of bwX12_metTold_0 37 (by decide +kernel))
theorem dX12_metTold_38 : decode cX12_metTold 38 = .ok (.getfield 85, 3) := bq_o180 (a := 0) (b := 85) (bq_3 bwX12_metTold_0 38 (by decide +kernel)) rfl
theorem dX12_metTold_41 : decode cX12_metTold 41 = .ok (.if_icmp .ge 19, 3) := bq_o162 (a := 0) (b := 19) (bq_3 bwX12_metTold_0 41 (by decide +kernel)) (by decide +kernel)
theorem dX12_metTold_44 : decode cX12_metTold 44 = .ok (.iload_n 1, 1) := bq_o27 (bq_of bwX12_metTold_0 44 (by decide +kernel))
theorem dX12_metTold_45 : decode cX12_metTold 45 = .ok (.aload_n 0, 1) := bq_o42 (bq_of bwX12_metTold_0 45 (by decide +kernel))
theorem dX12_metTold_46 : decode cX12_metTold 46 = .ok (.getfield 165, 3) := bq_o180 (a := 0) (b := 165) (bq_3 bwX12_metTold_0 46 (by decide +kernel)) rfl
theorem dX12_metTold_49 : decode cX12_metTold 49 = .ok (.invokestatic 151, 3) := bq_o184 (a := 0) (b := 151) (bq_3 bwX12_metTold_0 49 (by decide +kernel)) rfl
theorem dX12_metTold_52 : decode cX12_metTold 52 = .ok (.ifCond .eq 8, 3) := bq_o153 (a := 0) (b := 8) (bq_3 bwX12_metTold_0 52 (by decide +kernel)) (by decide +kernel)
theorem dX12_metTold_55 : decode cX12_metTold 55 = .ok (.aload_n 0, 1) := bq_o42 (bq_of bwX12_metTold_0 55 (by decide +kernel))
theorem dX12_metTold_56 : decode cX12_metTold 56 = .ok (.invokevirtual 190, 3) := bq_o182 (a := 0) (b := 190) (bq_3 bwX12_metTold_0 56 (by decide +kernel)) rfl
theorem dX12_metTold_59 : decode cX12_metTold 59 = .ok (.ireturn, 1) := bq_o172 (bq_of bwX12_metTold_0 59 (by decide +kernel))
theorem dX12_metTold_60 : decode cX12_metTold 60 = .ok (.aload_n 0, 1) := bq_o42 (bq_of bwX12_metTold_0 60 (by decide +kernel))
theorem dX12_metTold_61 : decode cX12_metTold 61 = .ok (.iconst 0, 1) := bq_o3 (bq_of bwX12_metTold_0 61 (by decide +kernel))
theorem dX12_metTold_62 : decode cX12_metTold 62 = .ok (.iconst 0, 1) := bq_o3 (bq_of bwX12_metTold_0 62 (by decide +kernel))
theorem dX12_metTold_63 : decode cX12_metTold 63 = .ok (.aload_n 0, 1) := bq_o42 (bq_of bwX12_metTold_0 63 (by decide +kernel))
def bwX12_metTold_64l : List Nat := [180, 0, 85, 4, 100, 182, 0, 197, 154, 0, 5, 3, 172, 27, 4, 42, 180, 0, 58, 3, 46, 120, 128, 60, 167, 255, 193, 42, 27, 182, 0, 213, 87, 4, 172]
theorem bwX12_metTold_64 : ((cX12_metTold.data.toList.drop 64).take 35).map UInt8.toNat = bwX12_metTold_64l := by decide +kernel
theorem dX12_metTold_64 : decode cX12_metTold 64 = .ok (.getfield 85, 3) := bq_o180 (a := 0) (b := 85) (bq_3 bwX12_metTold_64 0 (by decide +kernel)) rfl
theorem dX12_metTold_67 : decode cX12_metTold 67 = .ok (.iconst 1, 1) := bq_o4 (bq_of bwX12_metTold_64 3 (by decide +kernel))
theorem dX12_metTold_68 : decode cX12_metTold 68 = .ok (.isub, 1) := bq_o100 (bq_of bwX12_metTold_64 4 (by decide +kernel))
theorem dX12_metTold_69 : decode cX12_metTold 69 = .ok (.invokevirtual 197, 3) := bq_o182 (a := 0) (b := 197) (bq_3 bwX12_metTold_64 5 (by decide +kernel)) rfl
theorem dX12_metTold_72 : decode cX12_metTold 72 = .ok (.ifCond .ne 5, 3) := bq_o154 (a := 0) (b := 5) (bq_3 bwX12_metTold_64 8 (by decide +kernel)) (by decide +kernel)
theorem dX12_metTold_75 : decode cX12_metTold 75 = .ok (.iconst 0, 1) := bq_o3 (bq_of bwX12_metTold_64 11 (by decide +kernel))
theorem dX12_metTold_76 : decode cX12_metTold 76 = .ok (.ireturn, 1) := bq_o172 (bq_of bwX12_metTold_64 12 (by decide +kernel))
theorem dX12_metTold_77 : decode cX12_metTold 77 = .ok (.iload_n 1, 1) := bq_o27 (bq_of bwX12_metTold_64 13 (by decide +kernel))
theorem dX12_metTold_78 : decode cX12_metTold 78 = .ok (.iconst 1, 1) := bq_o4 (bq_of bwX12_metTold_64 14 (by decide +kernel))
theorem dX12_metTold_79 : decode cX12_metTold 79 = .ok (.aload_n 0, 1) := bq_o42 (bq_of bwX12_metTold_64 15 (by decide +kernel))
theorem dX12_metTold_80 : decode cX12_metTold 80 = .ok (.getfield 58, 3) := bq_o180 (a := 0) (b := 58) (bq_3 bwX12_metTold_64 16 (by decide +kernel)) rfl
theorem dX12_metTold_83 : decode cX12_metTold 83 = .ok (.iconst 0, 1) := bq_o3 (bq_of bwX12_metTold_64 19 (by decide +kernel))
theorem dX12_metTold_84 : decode cX12_metTold 84 = .ok (.iaload, 1) := bq_o46 (bq_of bwX12_metTold_64 20 (by decide +kernel))
theorem dX12_metTold_85 : decode cX12_metTold 85 = .ok (.ishl, 1) := bq_o120 (bq_of bwX12_metTold_64 21 (by decide +kernel))
theorem dX12_metTold_86 : decode cX12_metTold 86 = .ok (.ior, 1) := bq_o128 (bq_of bwX12_metTold_64 22 (by decide +kernel))
theorem dX12_metTold_87 : decode cX12_metTold 87 = .ok (.istore_n 1, 1) := bq_o60 (bq_of bwX12_metTold_64 23 (by decide +kernel))
theorem dX12_metTold_88 : decode cX12_metTold 88 = .ok (.goto (-63), 3) := bq_o167 (a := 255) (b := 193) (bq_3 bwX12_metTold_64 24 (by decide +kernel)) (by decide +kernel)
theorem dX12_metTold_91 : decode cX12_metTold 91 = .ok (.aload_n 0, 1) := bq_o42 (bq_of bwX12_metTold_64 27 (by decide +kernel))
theorem dX12_metTold_92 : decode cX12_metTold 92 = .ok (.iload_n 1, 1) := bq_o27 (bq_of bwX12_metTold_64 28 (by decide +kernel))
theorem dX12_metTold_93 : decode cX12_metTold 93 = .ok (.invokevirtual 213, 3) := bq_o182 (a := 0) (b := 213) (bq_3 bwX12_metTold_64 29 (by decide +kernel)) rfl
theorem dX12_metTold_96 : decode cX12_metTold 96 = .ok (.pop, 1) := bq_o87 (bq_of bwX12_metTold_64 32 (by decide +kernel))
theorem dX12_metTold_97 : decode cX12_metTold 97 = .ok (.iconst 1, 1) := bq_o4 (bq_of bwX12_metTold_64 33 (by decide +kernel))
theorem dX12_metTold_98 : decode cX12_metTold 98 = .ok (.ireturn, 1) := bq_o172 (bq_of bwX12_metTold_64 34 (by decide +kernel))
def bwX12_statement_0l : List Nat := [42, 18, 216, 182, 0, 209, 153, 0, 53, 42, 180, 0, 85, 16, 7, 162, 0, 44, 42, 3, 16, 23, 182, 0, 201, 153, 0, 14, 42, 4, 3, 16, 9, 182, 0, 197, 154, 0, 5, 3, 172, 42, 42, 180, 0, 58, 3, 46, 42, 180, 0, 58, 4, 46, 182, 0, 127, 4, 172, 42, 18, 218, 182, 0, 209, 153]
theorem bwX12_statement_0 : ((cX12_statement.data.toList.drop 0).take 66).map UInt8.toNat = bwX12_statement_0l := by decide +kernel
theorem dX12_statement_0 : decode cX12_statement 0 = .ok (.aload_n 0, 1) := bq_o42 (bq_of bwX12_statement_0 0 (by decide +kernel))
theorem dX12_statement_1 : decode cX12_statement 1 = .ok (.ldc 216, 2) := bq_o18 (a := 216) (bq_2 bwX12_statement_0 1 (by decide +kernel)) rfl
theorem dX12_statement_3 : decode cX12_statement 3 = .ok (.invokevirtual 209, 3) := bq_o182 (a := 0) (b := 209) (bq_3 bwX12_statement_0 3 (by decide +kernel)) rfl
theorem dX12_statement_6 : decode cX12_statement 6 = .ok (.ifCond .eq 53, 3) := bq_o153 (a := 0) (b := 53) (bq_3 bwX12_statement_0 6 (by decide +kernel)) (by decide +kernel)
theorem dX12_statement_9 : decode cX12_statement 9 = .ok (.aload_n 0, 1) := bq_o42 (bq_of bwX12_statement_0 9 (by decide +kernel))
theorem dX12_statement_10 : decode cX12_statement 10 = .ok (.getfield 85, 3) := bq_o180 (a := 0) (b := 85) (bq_3 bwX12_statement_0 10 (by decide +kernel)) rfl
theorem dX12_statement_13 : decode cX12_statement 13 = .ok (.bipush 7, 2) := bq_o16 (a := 7) (bq_2 bwX12_statement_0 13 (by decide +kernel)) (by decide +kernel)
theorem dX12_statement_15 : decode cX12_statement 15 = .ok (.if_icmp .ge 44, 3) := bq_o162 (a := 0) (b := 44) (bq_3 bwX12_statement_0 15 (by decide +kernel)) (by decide +kernel)
theorem dX12_statement_18 : decode cX12_statement 18 = .ok (.aload_n 0, 1) := bq_o42 (bq_of bwX12_statement_0 18 (by decide +kernel))
theorem dX12_statement_19 : decode cX12_statement 19 = .ok (.iconst 0, 1) := bq_o3 (bq_of bwX12_statement_0 19 (by decide +kernel))
theorem dX12_statement_20 : decode cX12_statement 20 = .ok (.bipush 23, 2) := bq_o16 (a := 23) (bq_2 bwX12_statement_0 20 (by decide +kernel)) (by decide +kernel)
theorem dX12_statement_22 : decode cX12_statement 22 = .ok (.invokevirtual 201, 3) := bq_o182 (a := 0) (b := 201) (bq_3 bwX12_statement_0 22 (by decide +kernel)) rfl
theorem dX12_statement_25 : decode cX12_statement 25 = .ok (.ifCond .eq 14, 3) := bq_o153 (a := 0) (b := 14) (bq_3 bwX12_statement_0 25 (by decide +kernel)) (by decide +kernel)
theorem dX12_statement_28 : decode cX12_statement 28 = .ok (.aload_n 0, 1) := bq_o42 (bq_of bwX12_statement_0 28 (by decide +kernel))
theorem dX12_statement_29 : decode cX12_statement 29 = .ok (.iconst 1, 1) := bq_o4 (bq_of bwX12_statement_0 29 (by decide +kernel))
theorem dX12_statement_30 : decode cX12_statement 30 = .ok (.iconst 0, 1) := bq_o3 (bq_of bwX12_statement_0 30 (by decide +kernel))
theorem dX12_statement_31 : decode cX12_statement 31 = .ok (.bipush 9, 2) := bq_o16 (a := 9) (bq_2 bwX12_statement_0 31 (by decide +kernel)) (by decide +kernel)
theorem dX12_statement_33 : decode cX12_statement 33 = .ok (.invokevirtual 197, 3) := bq_o182 (a := 0) (b := 197) (bq_3 bwX12_statement_0 33 (by decide +kernel)) rfl
theorem dX12_statement_36 : decode cX12_statement 36 = .ok (.ifCond .ne 5, 3) := bq_o154 (a := 0) (b := 5) (bq_3 bwX12_statement_0 36 (by decide +kernel)) (by decide +kernel)
theorem dX12_statement_39 : decode cX12_statement 39 = .ok (.iconst 0, 1) := bq_o3 (bq_of bwX12_statement_0 39 (by decide +kernel))
theorem dX12_statement_40 : decode cX12_statement 40 = .ok (.ireturn, 1) := bq_o172 (bq_of bwX12_statement_0 40 (by decide +kernel))
theorem dX12_statement_41 : decode cX12_statement 41 = .ok (.aload_n 0, 1) := bq_o42 (bq_of bwX12_statement_0 41 (by decide +kernel))
theorem dX12_statement_42 : decode cX12_statement 42 = .ok (.aload_n 0, 1) := bq_o42 (bq_of bwX12_statement_0 42 (by decide +kernel))
theorem dX12_statement_43 : decode cX12_statement 43 = .ok (.getfield 58, 3) := bq_o180 (a := 0) (b := 58) (bq_3 bwX12_statement_0 43 (by decide +kernel)) rfl
theorem dX12_statement_46 : decode cX12_statement 46 = .ok (.iconst 0, 1) := bq_o3 (bq_of bwX12_statement_0 46 (by decide +kernel))
theorem dX12_statement_47 : decode cX12_statement 47 = .ok (.iaload, 1) := bq_o46 (bq_of bwX12_statement_0 47 (by decide +kernel))
theorem dX12_statement_48 : decode cX12_statement 48 = .ok (.aload_n 0, 1) := bq_o42 (bq_of bwX12_statement_0 48 (by decide +kernel))
theorem dX12_statement_49 : decode cX12_statement 49 = .ok (.getfield 58, 3) := bq_o180 (a := 0) (b := 58) (bq_3 bwX12_statement_0 49 (by decide +kernel)) rfl
theorem dX12_statement_52 : decode cX12_statement 52 = .ok (.iconst 1, 1) := bq_o4 (bq_of bwX12_statement_0 52 (by decide +kernel))
theorem dX12_statement_53 : decode cX12_statement 53 = .ok (.iaload, 1) := bq_o46 (bq_of bwX12_statement_0 53 (by decide +kernel))
theorem dX12_statement_54 : decode cX12_statement 54 = .ok (.invokevirtual 127, 3) := bq_o182 (a := 0) (b := 127) (bq_3 bwX12_statement_0 54 (by decide +kernel)) rfl
theorem dX12_statement_57 : decode cX12_statement 57 = .ok (.iconst 1, 1) := bq_o4 (bq_of bwX12_statement_0 57 (by decide +kernel))
theorem dX12_statement_58 : decode cX12_statement 58 = .ok (.ireturn, 1) := bq_o172 (bq_of bwX12_statement_0 58 (by decide +kernel))
theorem dX12_statement_59 : decode cX12_statement 59 = .ok (.aload_n 0, 1) := bq_o42 (bq_of bwX12_statement_0 59 (by decide +kernel))
theorem dX12_statement_60 : decode cX12_statement 60 = .ok (.ldc 218, 2) := bq_o18 (a := 218) (bq_2 bwX12_statement_0 60 (by decide +kernel)) rfl
theorem dX12_statement_62 : decode cX12_statement 62 = .ok (.invokevirtual 209, 3) := bq_o182 (a := 0) (b := 209) (bq_3 bwX12_statement_0 62 (by decide +kernel)) rfl
def bwX12_statement_64l : List Nat := [209, 153, 0, 8, 42, 182, 0, 220, 172, 42, 18, 223, 182, 0, 209, 153, 0, 31, 42, 182, 0, 204, 60, 27, 153, 0, 20, 42, 42, 180, 0, 58, 3, 46, 42, 180, 0, 58, 4, 46, 2, 182, 0, 142, 27, 172, 42, 18, 225, 182, 0, 209, 153, 0, 33, 42, 5, 7, 182, 0, 201, 60, 42, 27, 153, 0]
theorem bwX12_statement_64 : ((cX12_statement.data.toList.drop 64).take 66).map UInt8.toNat = bwX12_statement_64l := by decide +kernel
theorem dX12_statement_65 : decode cX12_statement 65 = .ok (.ifCond .eq 8, 3) := bq_o153 (a := 0) (b := 8) (bq_3 bwX12_statement_64 1 (by decide +kernel)) (by decide +kernel)
theorem dX12_statement_68 : decode cX12_statement 68 = .ok (.aload_n 0, 1) := bq_o42 (bq_of bwX12_statement_64 4 (by decide +kernel))
theorem dX12_statement_69 : decode cX12_statement 69 = .ok (.invokevirtual 220, 3) := bq_o182 (a := 0) (b := 220) (bq_3 bwX12_statement_64 5 (by decide +kernel)) rfl
theorem dX12_statement_72 : decode cX12_statement 72 = .ok (.ireturn, 1) := bq_o172 (bq_of bwX12_statement_64 8 (by decide +kernel))
theorem dX12_statement_73 : decode cX12_statement 73 = .ok (.aload_n 0, 1) := bq_o42 (bq_of bwX12_statement_64 9 (by decide +kernel))
theorem dX12_statement_74 : decode cX12_statement 74 = .ok (.ldc 223, 2) := bq_o18 (a := 223) (bq_2 bwX12_statement_64 10 (by decide +kernel)) rfl
theorem dX12_statement_76 : decode cX12_statement 76 = .ok (.invokevirtual 209, 3) := bq_o182 (a := 0) (b := 209) (bq_3 bwX12_statement_64 12 (by decide +kernel)) rfl
theorem dX12_statement_79 : decode cX12_statement 79 = .ok (.ifCond .eq 31, 3) := bq_o153 (a := 0) (b := 31) (bq_3 bwX12_statement_64 15 (by decide +kernel)) (by decide +kernel)
theorem dX12_statement_82 : decode cX12_statement 82 = .ok (.aload_n 0, 1) := bq_o42 (bq_of bwX12_statement_64 18 (by decide +kernel))
theorem dX12_statement_83 : decode cX12_statement 83 = .ok (.invokevirtual 204, 3) := bq_o182 (a := 0) (b := 204) (bq_3 bwX12_statement_64 19 (by decide +kernel)) rfl
theorem dX12_statement_86 : decode cX12_statement 86 = .ok (.istore_n 1, 1) := bq_o60 (bq_of bwX12_statement_64 22 (by decide +kernel))
theorem dX12_statement_87 : decode cX12_statement 87 = .ok (.iload_n 1, 1) := bq_o27 (bq_of bwX12_statement_64 23 (by decide +kernel))
theorem dX12_statement_88 : decode cX12_statement 88 = .ok (.ifCond .eq 20, 3) := bq_o153 (a := 0) (b := 20) (bq_3 bwX12_statement_64 24 (by decide +kernel)) (by decide +kernel)
theorem dX12_statement_91 : decode cX12_statement 91 = .ok (.aload_n 0, 1) := bq_o42 (bq_of bwX12_statement_64 27 (by decide +kernel))
theorem dX12_statement_92 : decode cX12_statement 92 = .ok (.aload_n 0, 1) := bq_o42 (bq_of bwX12_statement_64 28 (by decide +kernel))
theorem dX12_statement_93 : decode cX12_statement 93 = .ok (.getfield 58, 3) := bq_o180 (a := 0) (b := 58) (bq_3 bwX12_statement_64 29 (by decide +kernel)) rfl
theorem dX12_statement_96 : decode cX12_statement 96 = .ok (.iconst 0, 1) := bq_o3 (bq_of bwX12_statement_64 32 (by decide +kernel))
theorem dX12_statement_97 : decode cX12_statement 97 = .ok (.iaload, 1) := bq_o46 (bq_of bwX12_statement_64 33 (by decide +kernel))
theorem dX12_statement_98 : decode cX12_statement 98 = .ok (.aload_n 0, 1) := bq_o42 (bq_of bwX12_statement_64 34 (by decide +kernel))
theorem dX12_statement_99 : decode cX12_statement 99 = .ok (.getfield 58, 3) := bq_o180 (a := 0) (b := 58) (bq_3 bwX12_statement_64 35 (by decide +kernel)) rfl
theorem dX12_statement_102 : decode cX12_statement 102 = .ok (.iconst 1, 1) := bq_o4 (bq_of bwX12_statement_64 38 (by decide +kernel))
theorem dX12_statement_103 : decode cX12_statement 103 = .ok (.iaload, 1) := bq_o46 (bq_of bwX12_statement_64 39 (by decide +kernel))
theorem dX12_statement_104 : decode cX12_statement 104 = .ok (.iconst (-1), 1) := bq_o2 (bq_of bwX12_statement_64 40 (by decide +kernel))
theorem dX12_statement_105 : decode cX12_statement 105 = .ok (.invokevirtual 142, 3) := bq_o182 (a := 0) (b := 142) (bq_3 bwX12_statement_64 41 (by decide +kernel)) rfl
theorem dX12_statement_108 : decode cX12_statement 108 = .ok (.iload_n 1, 1) := bq_o27 (bq_of bwX12_statement_64 44 (by decide +kernel))
theorem dX12_statement_109 : decode cX12_statement 109 = .ok (.ireturn, 1) := bq_o172 (bq_of bwX12_statement_64 45 (by decide +kernel))
theorem dX12_statement_110 : decode cX12_statement 110 = .ok (.aload_n 0, 1) := bq_o42 (bq_of bwX12_statement_64 46 (by decide +kernel))
theorem dX12_statement_111 : decode cX12_statement 111 = .ok (.ldc 225, 2) := bq_o18 (a := 225) (bq_2 bwX12_statement_64 47 (by decide +kernel)) rfl
theorem dX12_statement_113 : decode cX12_statement 113 = .ok (.invokevirtual 209, 3) := bq_o182 (a := 0) (b := 209) (bq_3 bwX12_statement_64 49 (by decide +kernel)) rfl
theorem dX12_statement_116 : decode cX12_statement 116 = .ok (.ifCond .eq 33, 3) := bq_o153 (a := 0) (b := 33) (bq_3 bwX12_statement_64 52 (by decide +kernel)) (by decide +kernel)
theorem dX12_statement_119 : decode cX12_statement 119 = .ok (.aload_n 0, 1) := bq_o42 (bq_of bwX12_statement_64 55 (by decide +kernel))
theorem dX12_statement_120 : decode cX12_statement 120 = .ok (.iconst 2, 1) := bq_o5 (bq_of bwX12_statement_64 56 (by decide +kernel))
theorem dX12_statement_121 : decode cX12_statement 121 = .ok (.iconst 4, 1) := bq_o7 (bq_of bwX12_statement_64 57 (by decide +kernel))
theorem dX12_statement_122 : decode cX12_statement 122 = .ok (.invokevirtual 201, 3) := bq_o182 (a := 0) (b := 201) (bq_3 bwX12_statement_64 58 (by decide +kernel)) rfl
theorem dX12_statement_125 : decode cX12_statement 125 = .ok (.istore_n 1, 1) := bq_o60 (bq_of bwX12_statement_64 61 (by decide +kernel))
theorem dX12_statement_126 : decode cX12_statement 126 = .ok (.aload_n 0, 1) := bq_o42 (bq_of bwX12_statement_64 62 (by decide +kernel))
theorem dX12_statement_127 : decode cX12_statement 127 = .ok (.iload_n 1, 1) := bq_o27 (bq_of bwX12_statement_64 63 (by decide +kernel))
def bwX12_statement_128l : List Nat := [153, 0, 12, 42, 180, 0, 58, 3, 46, 167, 0, 7, 42, 180, 0, 51, 181, 0, 51, 27, 172, 42, 18, 226, 182, 0, 209, 153, 0, 34, 42, 3, 16, 99, 182, 0, 201, 60, 42, 27, 153, 0, 12, 42, 180, 0, 58, 3, 46, 167, 0, 7, 42, 180, 0, 148, 181, 0, 148, 27, 172, 42, 18, 227, 182, 0]
theorem bwX12_statement_128 : ((cX12_statement.data.toList.drop 128).take 66).map UInt8.toNat = bwX12_statement_128l := by decide +kernel
theorem dX12_statement_128 : decode cX12_statement 128 = .ok (.ifCond .eq 12, 3) := bq_o153 (a := 0) (b := 12) (bq_3 bwX12_statement_128 0 (by decide +kernel)) (by decide +kernel)
theorem dX12_statement_131 : decode cX12_statement 131 = .ok (.aload_n 0, 1) := bq_o42 (bq_of bwX12_statement_128 3 (by decide +kernel))
theorem dX12_statement_132 : decode cX12_statement 132 = .ok (.getfield 58, 3) := bq_o180 (a := 0) (b := 58) (bq_3 bwX12_statement_128 4 (by decide +kernel)) rfl
theorem dX12_statement_135 : decode cX12_statement 135 = .ok (.iconst 0, 1) := bq_o3 (bq_of bwX12_statement_128 7 (by decide +kernel))
theorem dX12_statement_136 : decode cX12_statement 136 = .ok (.iaload, 1) := bq_o46 (bq_of bwX12_statement_128 8 (by decide +kernel))
theorem dX12_statement_137 : decode cX12_statement 137 = .ok (.goto 7, 3) := bq_o167 (a := 0) (b := 7) (bq_3 bwX12_statement_128 9 (by decide +kernel)) (by decide +kernel)
theorem dX12_statement_140 : decode cX12_statement 140 = .ok (.aload_n 0, 1) := bq_o42 (bq_of bwX12_statement_128 12 (by decide +kernel))
theorem dX12_statement_141 : decode cX12_statement 141 = .ok (.getfield 51, 3) := bq_o180 (a := 0) (b := 51) (bq_3 bwX12_statement_128 13 (by decide +kernel)) rfl
theorem dX12_statement_144 : decode cX12_statement 144 = .ok (.putfield 51, 3) := bq_o181 (a := 0) (b := 51) (bq_3 bwX12_statement_128 16 (by decide +kernel)) rfl
theorem dX12_statement_147 : decode cX12_statement 147 = .ok (.iload_n 1, 1) := bq_o27 (bq_of bwX12_statement_128 19 (by decide +kernel))
theorem dX12_statement_148 : decode cX12_statement 148 = .ok (.ireturn, 1) := bq_o172 (bq_of bwX12_statement_128 20 (by decide +kernel))
theorem dX12_statement_149 : decode cX12_statement 149 = .ok (.aload_n 0, 1) := bq_o42 (bq_of bwX12_statement_128 21 (by decide +kernel))
theorem dX12_statement_150 : decode cX12_statement 150 = .ok (.ldc 226, 2) := bq_o18 (a := 226) (bq_2 bwX12_statement_128 22 (by decide +kernel)) rfl
theorem dX12_statement_152 : decode cX12_statement 152 = .ok (.invokevirtual 209, 3) := bq_o182 (a := 0) (b := 209) (bq_3 bwX12_statement_128 24 (by decide +kernel)) rfl
theorem dX12_statement_155 : decode cX12_statement 155 = .ok (.ifCond .eq 34, 3) := bq_o153 (a := 0) (b := 34) (bq_3 bwX12_statement_128 27 (by decide +kernel)) (by decide +kernel)
theorem dX12_statement_158 : decode cX12_statement 158 = .ok (.aload_n 0, 1) := bq_o42 (bq_of bwX12_statement_128 30 (by decide +kernel))
theorem dX12_statement_159 : decode cX12_statement 159 = .ok (.iconst 0, 1) := bq_o3 (bq_of bwX12_statement_128 31 (by decide +kernel))
theorem dX12_statement_160 : decode cX12_statement 160 = .ok (.bipush 99, 2) := bq_o16 (a := 99) (bq_2 bwX12_statement_128 32 (by decide +kernel)) (by decide +kernel)
theorem dX12_statement_162 : decode cX12_statement 162 = .ok (.invokevirtual 201, 3) := bq_o182 (a := 0) (b := 201) (bq_3 bwX12_statement_128 34 (by decide +kernel)) rfl
theorem dX12_statement_165 : decode cX12_statement 165 = .ok (.istore_n 1, 1) := bq_o60 (bq_of bwX12_statement_128 37 (by decide +kernel))
theorem dX12_statement_166 : decode cX12_statement 166 = .ok (.aload_n 0, 1) := bq_o42 (bq_of bwX12_statement_128 38 (by decide +kernel))
theorem dX12_statement_167 : decode cX12_statement 167 = .ok (.iload_n 1, 1) := bq_o27 (bq_of bwX12_statement_128 39 (by decide +kernel))
theorem dX12_statement_168 : decode cX12_statement 168 = .ok (.ifCond .eq 12, 3) := bq_o153 (a := 0) (b := 12) (bq_3 bwX12_statement_128 40 (by decide +kernel)) (by decide +kernel)
theorem dX12_statement_171 : decode cX12_statement 171 = .ok (.aload_n 0, 1) := bq_o42 (bq_of bwX12_statement_128 43 (by decide +kernel))
theorem dX12_statement_172 : decode cX12_statement 172 = .ok (.getfield 58, 3) := bq_o180 (a := 0) (b := 58) (bq_3 bwX12_statement_128 44 (by decide +kernel)) rfl
theorem dX12_statement_175 : decode cX12_statement 175 = .ok (.iconst 0, 1) := bq_o3 (bq_of bwX12_statement_128 47 (by decide +kernel))
theorem dX12_statement_176 : decode cX12_statement 176 = .ok (.iaload, 1) := bq_o46 (bq_of bwX12_statement_128 48 (by decide +kernel))
theorem dX12_statement_177 : decode cX12_statement 177 = .ok (.goto 7, 3) := bq_o167 (a := 0) (b := 7) (bq_3 bwX12_statement_128 49 (by decide +kernel)) (by decide +kernel)
theorem dX12_statement_180 : decode cX12_statement 180 = .ok (.aload_n 0, 1) := bq_o42 (bq_of bwX12_statement_128 52 (by decide +kernel))
theorem dX12_statement_181 : decode cX12_statement 181 = .ok (.getfield 148, 3) := bq_o180 (a := 0) (b := 148) (bq_3 bwX12_statement_128 53 (by decide +kernel)) rfl
theorem dX12_statement_184 : decode cX12_statement 184 = .ok (.putfield 148, 3) := bq_o181 (a := 0) (b := 148) (bq_3 bwX12_statement_128 56 (by decide +kernel)) rfl
theorem dX12_statement_187 : decode cX12_statement 187 = .ok (.iload_n 1, 1) := bq_o27 (bq_of bwX12_statement_128 59 (by decide +kernel))
theorem dX12_statement_188 : decode cX12_statement 188 = .ok (.ireturn, 1) := bq_o172 (bq_of bwX12_statement_128 60 (by decide +kernel))
theorem dX12_statement_189 : decode cX12_statement 189 = .ok (.aload_n 0, 1) := bq_o42 (bq_of bwX12_statement_128 61 (by decide +kernel))
theorem dX12_statement_190 : decode cX12_statement 190 = .ok (.ldc 227, 2) := bq_o18 (a := 227) (bq_2 bwX12_statement_128 62 (by decide +kernel)) rfl
def bwX12_statement_192l : List Nat := [182, 0, 209, 153, 0, 10, 42, 182, 0, 229, 167, 0, 7, 42, 182, 0, 190, 172]
theorem bwX12_statement_192 : ((cX12_statement.data.toList.drop 192).take 18).map UInt8.toNat = bwX12_statement_192l := by decide +kernel
theorem dX12_statement_192 : decode cX12_statement 192 = .ok (.invokevirtual 209, 3) := bq_o182 (a := 0) (b := 209) (bq_3 bwX12_statement_192 0 (by decide +kernel)) rfl
theorem dX12_statement_195 : decode cX12_statement 195 = .ok (.ifCond .eq 10, 3) := bq_o153 (a := 0) (b := 10) (bq_3 bwX12_statement_192 3 (by decide +kernel)) (by decide +kernel)
theorem dX12_statement_198 : decode cX12_statement 198 = .ok (.aload_n 0, 1) := bq_o42 (bq_of bwX12_statement_192 6 (by decide +kernel))
theorem dX12_statement_199 : decode cX12_statement 199 = .ok (.invokevirtual 229, 3) := bq_o182 (a := 0) (b := 229) (bq_3 bwX12_statement_192 7 (by decide +kernel)) rfl
theorem dX12_statement_202 : decode cX12_statement 202 = .ok (.goto 7, 3) := bq_o167 (a := 0) (b := 7) (bq_3 bwX12_statement_192 10 (by decide +kernel)) (by decide +kernel)
theorem dX12_statement_205 : decode cX12_statement 205 = .ok (.aload_n 0, 1) := bq_o42 (bq_of bwX12_statement_192 13 (by decide +kernel))
theorem dX12_statement_206 : decode cX12_statement 206 = .ok (.invokevirtual 190, 3) := bq_o182 (a := 0) (b := 190) (bq_3 bwX12_statement_192 14 (by decide +kernel)) rfl
theorem dX12_statement_209 : decode cX12_statement 209 = .ok (.ireturn, 1) := bq_o172 (bq_of bwX12_statement_192 17 (by decide +kernel))
def bwX12_readAll_0l : List Nat := [42, 4, 181, 0, 232, 42, 3, 181, 0, 159, 42, 182, 0, 194, 42, 182, 0, 235, 154, 0, 5, 3, 172, 42, 180, 0, 168, 153, 0, 42, 42, 180, 0, 168, 6, 159, 0, 8, 42, 182, 0, 190, 172, 42, 182, 0, 194, 42, 182, 0, 235, 154, 0, 5, 3, 172, 42, 89, 180, 0, 232, 4, 96, 181, 0, 232]
theorem bwX12_readAll_0 : ((cX12_readAll.data.toList.drop 0).take 66).map UInt8.toNat = bwX12_readAll_0l := by decide +kernel
theorem dX12_readAll_0 : decode cX12_readAll 0 = .ok (.aload_n 0, 1) := bq_o42 (bq_of bwX12_readAll_0 0 (by decide +kernel))
theorem dX12_readAll_1 : decode cX12_readAll 1 = .ok (.iconst 1, 1) := bq_o4 (bq_of bwX12_readAll_0 1 (by decide +kernel))
theorem dX12_readAll_2 : decode cX12_readAll 2 = .ok (.putfield 232, 3) := bq_o181 (a := 0) (b := 232) (bq_3 bwX12_readAll_0 2 (by decide +kernel)) rfl
theorem dX12_readAll_5 : decode cX12_readAll 5 = .ok (.aload_n 0, 1) := bq_o42 (bq_of bwX12_readAll_0 5 (by decide +kernel))
theorem dX12_readAll_6 : decode cX12_readAll 6 = .ok (.iconst 0, 1) := bq_o3 (bq_of bwX12_readAll_0 6 (by decide +kernel))
theorem dX12_readAll_7 : decode cX12_readAll 7 = .ok (.putfield 159, 3) := bq_o181 (a := 0) (b := 159) (bq_3 bwX12_readAll_0 7 (by decide +kernel)) rfl
theorem dX12_readAll_10 : decode cX12_readAll 10 = .ok (.aload_n 0, 1) := bq_o42 (bq_of bwX12_readAll_0 10 (by decide +kernel))
theorem dX12_readAll_11 : decode cX12_readAll 11 = .ok (.invokevirtual 194, 3) := bq_o182 (a := 0) (b := 194) (bq_3 bwX12_readAll_0 11 (by decide +kernel)) rfl
theorem dX12_readAll_14 : decode cX12_readAll 14 = .ok (.aload_n 0, 1) := bq_o42 (bq_of bwX12_readAll_0 14 (by decide +kernel))
theorem dX12_readAll_15 : decode cX12_readAll 15 = .ok (.invokevirtual 235, 3) := bq_o182 (a := 0) (b := 235) (bq_3 bwX12_readAll_0 15 (by decide +kernel)) rfl
theorem dX12_readAll_18 : decode cX12_readAll 18 = .ok (.ifCond .ne 5, 3) := bq_o154 (a := 0) (b := 5) (bq_3 bwX12_readAll_0 18 (by decide +kernel)) (by decide +kernel)
theorem dX12_readAll_21 : decode cX12_readAll 21 = .ok (.iconst 0, 1) := bq_o3 (bq_of bwX12_readAll_0 21 (by decide +kernel))
theorem dX12_readAll_22 : decode cX12_readAll 22 = .ok (.ireturn, 1) := bq_o172 (bq_of bwX12_readAll_0 22 (by decide +kernel))
theorem dX12_readAll_23 : decode cX12_readAll 23 = .ok (.aload_n 0, 1) := bq_o42 (bq_of bwX12_readAll_0 23 (by decide +kernel))
theorem dX12_readAll_24 : decode cX12_readAll 24 = .ok (.getfield 168, 3) := bq_o180 (a := 0) (b := 168) (bq_3 bwX12_readAll_0 24 (by decide +kernel)) rfl
theorem dX12_readAll_27 : decode cX12_readAll 27 = .ok (.ifCond .eq 42, 3) := bq_o153 (a := 0) (b := 42) (bq_3 bwX12_readAll_0 27 (by decide +kernel)) (by decide +kernel)
theorem dX12_readAll_30 : decode cX12_readAll 30 = .ok (.aload_n 0, 1) := bq_o42 (bq_of bwX12_readAll_0 30 (by decide +kernel))
theorem dX12_readAll_31 : decode cX12_readAll 31 = .ok (.getfield 168, 3) := bq_o180 (a := 0) (b := 168) (bq_3 bwX12_readAll_0 31 (by decide +kernel)) rfl
theorem dX12_readAll_34 : decode cX12_readAll 34 = .ok (.iconst 3, 1) := bq_o6 (bq_of bwX12_readAll_0 34 (by decide +kernel))
theorem dX12_readAll_35 : decode cX12_readAll 35 = .ok (.if_icmp .eq 8, 3) := bq_o159 (a := 0) (b := 8) (bq_3 bwX12_readAll_0 35 (by decide +kernel)) (by decide +kernel)
theorem dX12_readAll_38 : decode cX12_readAll 38 = .ok (.aload_n 0, 1) := bq_o42 (bq_of bwX12_readAll_0 38 (by decide +kernel))
theorem dX12_readAll_39 : decode cX12_readAll 39 = .ok (.invokevirtual 190, 3) := bq_o182 (a := 0) (b := 190) (bq_3 bwX12_readAll_0 39 (by decide +kernel)) rfl
theorem dX12_readAll_42 : decode cX12_readAll 42 = .ok (.ireturn, 1) := bq_o172 (bq_of bwX12_readAll_0 42 (by decide +kernel))
theorem dX12_readAll_43 : decode cX12_readAll 43 = .ok (.aload_n 0, 1) := bq_o42 (bq_of bwX12_readAll_0 43 (by decide +kernel))
theorem dX12_readAll_44 : decode cX12_readAll 44 = .ok (.invokevirtual 194, 3) := bq_o182 (a := 0) (b := 194) (bq_3 bwX12_readAll_0 44 (by decide +kernel)) rfl
theorem dX12_readAll_47 : decode cX12_readAll 47 = .ok (.aload_n 0, 1) := bq_o42 (bq_of bwX12_readAll_0 47 (by decide +kernel))
theorem dX12_readAll_48 : decode cX12_readAll 48 = .ok (.invokevirtual 235, 3) := bq_o182 (a := 0) (b := 235) (bq_3 bwX12_readAll_0 48 (by decide +kernel)) rfl
theorem dX12_readAll_51 : decode cX12_readAll 51 = .ok (.ifCond .ne 5, 3) := bq_o154 (a := 0) (b := 5) (bq_3 bwX12_readAll_0 51 (by decide +kernel)) (by decide +kernel)
theorem dX12_readAll_54 : decode cX12_readAll 54 = .ok (.iconst 0, 1) := bq_o3 (bq_of bwX12_readAll_0 54 (by decide +kernel))
theorem dX12_readAll_55 : decode cX12_readAll 55 = .ok (.ireturn, 1) := bq_o172 (bq_of bwX12_readAll_0 55 (by decide +kernel))
theorem dX12_readAll_56 : decode cX12_readAll 56 = .ok (.aload_n 0, 1) := bq_o42 (bq_of bwX12_readAll_0 56 (by decide +kernel))
theorem dX12_readAll_57 : decode cX12_readAll 57 = .ok (.dup, 1) := bq_o89 (bq_of bwX12_readAll_0 57 (by decide +kernel))
theorem dX12_readAll_58 : decode cX12_readAll 58 = .ok (.getfield 232, 3) := bq_o180 (a := 0) (b := 232) (bq_3 bwX12_readAll_0 58 (by decide +kernel)) rfl
theorem dX12_readAll_61 : decode cX12_readAll 61 = .ok (.iconst 1, 1) := bq_o4 (bq_of bwX12_readAll_0 61 (by decide +kernel))
theorem dX12_readAll_62 : decode cX12_readAll 62 = .ok (.iadd, 1) := bq_o96 (bq_of bwX12_readAll_0 62 (by decide +kernel))
theorem dX12_readAll_63 : decode cX12_readAll 63 = .ok (.putfield 232, 3) := bq_o181 (a := 0) (b := 232) (bq_3 bwX12_readAll_0 63 (by decide +kernel)) rfl
def bwX12_readAll_64l : List Nat := [0, 232, 167, 255, 213, 4, 172]
theorem bwX12_readAll_64 : ((cX12_readAll.data.toList.drop 64).take 7).map UInt8.toNat = bwX12_readAll_64l := by decide +kernel
theorem dX12_readAll_66 : decode cX12_readAll 66 = .ok (.goto (-43), 3) := bq_o167 (a := 255) (b := 213) (bq_3 bwX12_readAll_64 2 (by decide +kernel)) (by decide +kernel)
theorem dX12_readAll_69 : decode cX12_readAll 69 = .ok (.iconst 1, 1) := bq_o4 (bq_of bwX12_readAll_64 5 (by decide +kernel))
theorem dX12_readAll_70 : decode cX12_readAll 70 = .ok (.ireturn, 1) := bq_o172 (bq_of bwX12_readAll_64 6 (by decide +kernel))
theorem dX12_town_0 : decode cX12_town 0 = .ok (.aload_n 0, 1) := by decide +kernel
theorem dX12_town_1 : decode cX12_town 1 = .ok (.invokevirtual 238, 3) := by decide +kernel
theorem dX12_town_4 : decode cX12_town 4 = .ok (.astore_n 1, 1) := by decide +kernel
theorem dX12_town_5 : decode cX12_town 5 = .ok (.aload_n 0, 1) := by decide +kernel
theorem dX12_town_6 : decode cX12_town 6 = .ok (.invokevirtual 242, 3) := by decide +kernel
theorem dX12_town_9 : decode cX12_town 9 = .ok (.istore_n 2, 1) := by decide +kernel
theorem dX12_town_10 : decode cX12_town 10 = .ok (.aload_n 0, 1) := by decide +kernel
theorem dX12_town_11 : decode cX12_town 11 = .ok (.iconst 0, 1) := by decide +kernel
theorem dX12_town_12 : decode cX12_town 12 = .ok (.putfield 156, 3) := by decide +kernel
theorem dX12_town_15 : decode cX12_town 15 = .ok (.iload_n 2, 1) := by decide +kernel
theorem dX12_town_16 : decode cX12_town 16 = .ok (.ifCond .ne 23, 3) := by decide +kernel
theorem dX12_town_19 : decode cX12_town 19 = .ok (.aload_n 0, 1) := by decide +kernel
theorem dX12_town_20 : decode cX12_town 20 = .ok (.aload_n 1, 1) := by decide +kernel
theorem dX12_town_21 : decode cX12_town 21 = .ok (.invokevirtual 245, 3) := by decide +kernel
theorem dX12_town_24 : decode cX12_town 24 = .ok (.aload_n 0, 1) := by decide +kernel
theorem dX12_town_25 : decode cX12_town 25 = .ok (.bipush (-2), 2) := by decide +kernel
theorem dX12_town_27 : decode cX12_town 27 = .ok (.invokevirtual 102, 3) := by decide +kernel
theorem dX12_town_30 : decode cX12_town 30 = .ok (.pop, 1) := by decide +kernel
theorem dX12_town_31 : decode cX12_town 31 = .ok (.bipush (-20), 2) := by decide +kernel
theorem dX12_town_33 : decode cX12_town 33 = .ok (.aload_n 0, 1) := by decide +kernel
theorem dX12_town_34 : decode cX12_town 34 = .ok (.getfield 178, 3) := by decide +kernel
theorem dX12_town_37 : decode cX12_town 37 = .ok (.isub, 1) := by decide +kernel
theorem dX12_town_38 : decode cX12_town 38 = .ok (.ireturn, 1) := by decide +kernel
theorem dX12_town_39 : decode cX12_town 39 = .ok (.aload_n 0, 1) := by decide +kernel
theorem dX12_town_40 : decode cX12_town 40 = .ok (.getfield 232, 3) := by decide +kernel
theorem dX12_town_43 : decode cX12_town 43 = .ok (.ireturn, 1) := by decide +kernel
theorem dX12_strangersOf_0 : decode cX12_strangersOf 0 = .ok (.iconst 0, 1) := by decide +kernel
theorem dX12_strangersOf_1 : decode cX12_strangersOf 1 = .ok (.istore_n 2, 1) := by decide +kernel
theorem dX12_strangersOf_2 : decode cX12_strangersOf 2 = .ok (.iconst 0, 1) := by decide +kernel
theorem dX12_strangersOf_3 : decode cX12_strangersOf 3 = .ok (.istore_n 3, 1) := by decide +kernel
theorem dX12_strangersOf_4 : decode cX12_strangersOf 4 = .ok (.iload_n 3, 1) := by decide +kernel
theorem dX12_strangersOf_5 : decode cX12_strangersOf 5 = .ok (.aload_n 0, 1) := by decide +kernel
theorem dX12_strangersOf_6 : decode cX12_strangersOf 6 = .ok (.getfield 85, 3) := by decide +kernel
theorem dX12_strangersOf_9 : decode cX12_strangersOf 9 = .ok (.if_icmp .ge 36, 3) := by decide +kernel
theorem dX12_strangersOf_12 : decode cX12_strangersOf 12 = .ok (.iload_n 2, 1) := by decide +kernel
theorem dX12_strangersOf_13 : decode cX12_strangersOf 13 = .ok (.iload_n 3, 1) := by decide +kernel
theorem dX12_strangersOf_14 : decode cX12_strangersOf 14 = .ok (.iload_n 1, 1) := by decide +kernel
theorem dX12_strangersOf_15 : decode cX12_strangersOf 15 = .ok (.if_icmp .eq 21, 3) := by decide +kernel
theorem dX12_strangersOf_18 : decode cX12_strangersOf 18 = .ok (.aload_n 0, 1) := by decide +kernel
theorem dX12_strangersOf_19 : decode cX12_strangersOf 19 = .ok (.getfield 48, 3) := by decide +kernel
theorem dX12_strangersOf_22 : decode cX12_strangersOf 22 = .ok (.iload_n 1, 1) := by decide +kernel
theorem dX12_strangersOf_23 : decode cX12_strangersOf 23 = .ok (.aaload, 1) := by decide +kernel
theorem dX12_strangersOf_24 : decode cX12_strangersOf 24 = .ok (.iload_n 3, 1) := by decide +kernel
theorem dX12_strangersOf_25 : decode cX12_strangersOf 25 = .ok (.iaload, 1) := by decide +kernel
theorem dX12_strangersOf_26 : decode cX12_strangersOf 26 = .ok (.iconst (-1), 1) := by decide +kernel
theorem dX12_strangersOf_27 : decode cX12_strangersOf 27 = .ok (.if_icmp .ne 9, 3) := by decide +kernel
theorem dX12_strangersOf_30 : decode cX12_strangersOf 30 = .ok (.iconst 1, 1) := by decide +kernel
theorem dX12_strangersOf_31 : decode cX12_strangersOf 31 = .ok (.iload_n 3, 1) := by decide +kernel
theorem dX12_strangersOf_32 : decode cX12_strangersOf 32 = .ok (.ishl, 1) := by decide +kernel
theorem dX12_strangersOf_33 : decode cX12_strangersOf 33 = .ok (.goto 4, 3) := by decide +kernel
theorem dX12_strangersOf_36 : decode cX12_strangersOf 36 = .ok (.iconst 0, 1) := by decide +kernel
theorem dX12_strangersOf_37 : decode cX12_strangersOf 37 = .ok (.ior, 1) := by decide +kernel
theorem dX12_strangersOf_38 : decode cX12_strangersOf 38 = .ok (.istore_n 2, 1) := by decide +kernel
theorem dX12_strangersOf_39 : decode cX12_strangersOf 39 = .ok (.iinc 3 1, 3) := by decide +kernel
theorem dX12_strangersOf_42 : decode cX12_strangersOf 42 = .ok (.goto (-38), 3) := by decide +kernel
theorem dX12_strangersOf_45 : decode cX12_strangersOf 45 = .ok (.iload_n 2, 1) := by decide +kernel
theorem dX12_strangersOf_46 : decode cX12_strangersOf 46 = .ok (.ireturn, 1) := by decide +kernel
def bwX12_personOf_0l : List Nat := [42, 27, 182, 0, 131, 153, 0, 15, 28, 133, 9, 20, 0, 249, 184, 0, 88, 154, 0, 10, 42, 16, 254, 182, 0, 102, 172, 28, 170, 0, 0, 0, 0, 0, 0, 48, 0, 0, 0, 0, 0, 0, 0, 2, 0, 0, 0, 28, 0, 0, 0, 35, 0, 0, 0, 42, 42, 180, 0, 40, 27, 46, 172, 42, 180, 0]
theorem bwX12_personOf_0 : ((cX12_personOf.data.toList.drop 0).take 66).map UInt8.toNat = bwX12_personOf_0l := by decide +kernel
theorem dX12_personOf_0 : decode cX12_personOf 0 = .ok (.aload_n 0, 1) := bq_o42 (bq_of bwX12_personOf_0 0 (by decide +kernel))
theorem dX12_personOf_1 : decode cX12_personOf 1 = .ok (.iload_n 1, 1) := bq_o27 (bq_of bwX12_personOf_0 1 (by decide +kernel))
theorem dX12_personOf_2 : decode cX12_personOf 2 = .ok (.invokevirtual 131, 3) := bq_o182 (a := 0) (b := 131) (bq_3 bwX12_personOf_0 2 (by decide +kernel)) rfl
theorem dX12_personOf_5 : decode cX12_personOf 5 = .ok (.ifCond .eq 15, 3) := bq_o153 (a := 0) (b := 15) (bq_3 bwX12_personOf_0 5 (by decide +kernel)) (by decide +kernel)
theorem dX12_personOf_8 : decode cX12_personOf 8 = .ok (.iload_n 2, 1) := bq_o28 (bq_of bwX12_personOf_0 8 (by decide +kernel))
theorem dX12_personOf_9 : decode cX12_personOf 9 = .ok (.i2l, 1) := bq_o133 (bq_of bwX12_personOf_0 9 (by decide +kernel))
theorem dX12_personOf_10 : decode cX12_personOf 10 = .ok (.lconst 0, 1) := bq_o9 (bq_of bwX12_personOf_0 10 (by decide +kernel))
theorem dX12_personOf_11 : decode cX12_personOf 11 = .ok (.ldc2_w 249, 3) := bq_o20 (a := 0) (b := 249) (bq_3 bwX12_personOf_0 11 (by decide +kernel)) rfl
theorem dX12_personOf_14 : decode cX12_personOf 14 = .ok (.invokestatic 88, 3) := bq_o184 (a := 0) (b := 88) (bq_3 bwX12_personOf_0 14 (by decide +kernel)) rfl
theorem dX12_personOf_17 : decode cX12_personOf 17 = .ok (.ifCond .ne 10, 3) := bq_o154 (a := 0) (b := 10) (bq_3 bwX12_personOf_0 17 (by decide +kernel)) (by decide +kernel)
theorem dX12_personOf_20 : decode cX12_personOf 20 = .ok (.aload_n 0, 1) := bq_o42 (bq_of bwX12_personOf_0 20 (by decide +kernel))
theorem dX12_personOf_21 : decode cX12_personOf 21 = .ok (.bipush (-2), 2) := bq_o16 (a := 254) (bq_2 bwX12_personOf_0 21 (by decide +kernel)) (by decide +kernel)
theorem dX12_personOf_23 : decode cX12_personOf 23 = .ok (.invokevirtual 102, 3) := bq_o182 (a := 0) (b := 102) (bq_3 bwX12_personOf_0 23 (by decide +kernel)) rfl
theorem dX12_personOf_26 : decode cX12_personOf 26 = .ok (.ireturn, 1) := bq_o172 (bq_of bwX12_personOf_0 26 (by decide +kernel))
theorem dX12_personOf_27 : decode cX12_personOf 27 = .ok (.iload_n 2, 1) := bq_o28 (bq_of bwX12_personOf_0 27 (by decide +kernel))
theorem dX12_personOf_28 : decode cX12_personOf 28 = .ok (.tableswitch 48 0 2 #[28, 35, 42], 28) := by decide +kernel
theorem dX12_personOf_56 : decode cX12_personOf 56 = .ok (.aload_n 0, 1) := bq_o42 (bq_of bwX12_personOf_0 56 (by decide +kernel))
theorem dX12_personOf_57 : decode cX12_personOf 57 = .ok (.getfield 40, 3) := bq_o180 (a := 0) (b := 40) (bq_3 bwX12_personOf_0 57 (by decide +kernel)) rfl
theorem dX12_personOf_60 : decode cX12_personOf 60 = .ok (.iload_n 1, 1) := bq_o27 (bq_of bwX12_personOf_0 60 (by decide +kernel))
theorem dX12_personOf_61 : decode cX12_personOf 61 = .ok (.iaload, 1) := bq_o46 (bq_of bwX12_personOf_0 61 (by decide +kernel))
theorem dX12_personOf_62 : decode cX12_personOf 62 = .ok (.ireturn, 1) := bq_o172 (bq_of bwX12_personOf_0 62 (by decide +kernel))
theorem dX12_personOf_63 : decode cX12_personOf 63 = .ok (.aload_n 0, 1) := bq_o42 (bq_of bwX12_personOf_0 63 (by decide +kernel))
def bwX12_personOf_64l : List Nat := [180, 0, 43, 27, 46, 172, 42, 27, 182, 0, 251, 172, 42, 27, 182, 0, 251, 184, 0, 254, 172]
theorem bwX12_personOf_64 : ((cX12_personOf.data.toList.drop 64).take 21).map UInt8.toNat = bwX12_personOf_64l := by decide +kernel
theorem dX12_personOf_64 : decode cX12_personOf 64 = .ok (.getfield 43, 3) := bq_o180 (a := 0) (b := 43) (bq_3 bwX12_personOf_64 0 (by decide +kernel)) rfl
theorem dX12_personOf_67 : decode cX12_personOf 67 = .ok (.iload_n 1, 1) := bq_o27 (bq_of bwX12_personOf_64 3 (by decide +kernel))
theorem dX12_personOf_68 : decode cX12_personOf 68 = .ok (.iaload, 1) := bq_o46 (bq_of bwX12_personOf_64 4 (by decide +kernel))
theorem dX12_personOf_69 : decode cX12_personOf 69 = .ok (.ireturn, 1) := bq_o172 (bq_of bwX12_personOf_64 5 (by decide +kernel))
theorem dX12_personOf_70 : decode cX12_personOf 70 = .ok (.aload_n 0, 1) := bq_o42 (bq_of bwX12_personOf_64 6 (by decide +kernel))
theorem dX12_personOf_71 : decode cX12_personOf 71 = .ok (.iload_n 1, 1) := bq_o27 (bq_of bwX12_personOf_64 7 (by decide +kernel))
theorem dX12_personOf_72 : decode cX12_personOf 72 = .ok (.invokevirtual 251, 3) := bq_o182 (a := 0) (b := 251) (bq_3 bwX12_personOf_64 8 (by decide +kernel)) rfl
theorem dX12_personOf_75 : decode cX12_personOf 75 = .ok (.ireturn, 1) := bq_o172 (bq_of bwX12_personOf_64 11 (by decide +kernel))
theorem dX12_personOf_76 : decode cX12_personOf 76 = .ok (.aload_n 0, 1) := bq_o42 (bq_of bwX12_personOf_64 12 (by decide +kernel))
theorem dX12_personOf_77 : decode cX12_personOf 77 = .ok (.iload_n 1, 1) := bq_o27 (bq_of bwX12_personOf_64 13 (by decide +kernel))
theorem dX12_personOf_78 : decode cX12_personOf 78 = .ok (.invokevirtual 251, 3) := bq_o182 (a := 0) (b := 251) (bq_3 bwX12_personOf_64 14 (by decide +kernel)) rfl
theorem dX12_personOf_81 : decode cX12_personOf 81 = .ok (.invokestatic 254, 3) := bq_o184 (a := 0) (b := 254) (bq_3 bwX12_personOf_64 17 (by decide +kernel)) rfl
theorem dX12_personOf_84 : decode cX12_personOf 84 = .ok (.ireturn, 1) := bq_o172 (bq_of bwX12_personOf_64 20 (by decide +kernel))
theorem dX12_knownOf_0 : decode cX12_knownOf 0 = .ok (.aload_n 0, 1) := by decide +kernel
theorem dX12_knownOf_1 : decode cX12_knownOf 1 = .ok (.iload_n 1, 1) := by decide +kernel
theorem dX12_knownOf_2 : decode cX12_knownOf 2 = .ok (.iload_n 2, 1) := by decide +kernel
theorem dX12_knownOf_3 : decode cX12_knownOf 3 = .ok (.invokevirtual 135, 3) := by decide +kernel
theorem dX12_knownOf_6 : decode cX12_knownOf 6 = .ok (.ifCond .eq 14, 3) := by decide +kernel
theorem dX12_knownOf_9 : decode cX12_knownOf 9 = .ok (.aload_n 0, 1) := by decide +kernel
theorem dX12_knownOf_10 : decode cX12_knownOf 10 = .ok (.getfield 48, 3) := by decide +kernel
theorem dX12_knownOf_13 : decode cX12_knownOf 13 = .ok (.iload_n 1, 1) := by decide +kernel
theorem dX12_knownOf_14 : decode cX12_knownOf 14 = .ok (.aaload, 1) := by decide +kernel
theorem dX12_knownOf_15 : decode cX12_knownOf 15 = .ok (.iload_n 2, 1) := by decide +kernel
theorem dX12_knownOf_16 : decode cX12_knownOf 16 = .ok (.iaload, 1) := by decide +kernel
theorem dX12_knownOf_17 : decode cX12_knownOf 17 = .ok (.goto 9, 3) := by decide +kernel
theorem dX12_knownOf_20 : decode cX12_knownOf 20 = .ok (.aload_n 0, 1) := by decide +kernel
theorem dX12_knownOf_21 : decode cX12_knownOf 21 = .ok (.bipush (-2), 2) := by decide +kernel
theorem dX12_knownOf_23 : decode cX12_knownOf 23 = .ok (.invokevirtual 102, 3) := by decide +kernel
theorem dX12_knownOf_26 : decode cX12_knownOf 26 = .ok (.ireturn, 1) := by decide +kernel
def bwX12_isGroupNow_0l : List Nat := [27, 184, 0, 254, 42, 180, 0, 51, 159, 0, 5, 3, 172, 3, 61, 28, 42, 180, 0, 85, 162, 0, 52, 3, 62, 29, 28, 162, 0, 39, 27, 28, 184, 0, 151, 153, 0, 25, 27, 29, 184, 0, 151, 153, 0, 17, 42, 180, 0, 48, 28, 50, 29, 46, 2, 159, 0, 5, 3, 172, 132, 3, 1, 167, 255, 218]
theorem bwX12_isGroupNow_0 : ((cX12_isGroupNow.data.toList.drop 0).take 66).map UInt8.toNat = bwX12_isGroupNow_0l := by decide +kernel
theorem dX12_isGroupNow_0 : decode cX12_isGroupNow 0 = .ok (.iload_n 1, 1) := bq_o27 (bq_of bwX12_isGroupNow_0 0 (by decide +kernel))
theorem dX12_isGroupNow_1 : decode cX12_isGroupNow 1 = .ok (.invokestatic 254, 3) := bq_o184 (a := 0) (b := 254) (bq_3 bwX12_isGroupNow_0 1 (by decide +kernel)) rfl
theorem dX12_isGroupNow_4 : decode cX12_isGroupNow 4 = .ok (.aload_n 0, 1) := bq_o42 (bq_of bwX12_isGroupNow_0 4 (by decide +kernel))
theorem dX12_isGroupNow_5 : decode cX12_isGroupNow 5 = .ok (.getfield 51, 3) := bq_o180 (a := 0) (b := 51) (bq_3 bwX12_isGroupNow_0 5 (by decide +kernel)) rfl
theorem dX12_isGroupNow_8 : decode cX12_isGroupNow 8 = .ok (.if_icmp .eq 5, 3) := bq_o159 (a := 0) (b := 5) (bq_3 bwX12_isGroupNow_0 8 (by decide +kernel)) (by decide +kernel)
theorem dX12_isGroupNow_11 : decode cX12_isGroupNow 11 = .ok (.iconst 0, 1) := bq_o3 (bq_of bwX12_isGroupNow_0 11 (by decide +kernel))
theorem dX12_isGroupNow_12 : decode cX12_isGroupNow 12 = .ok (.ireturn, 1) := bq_o172 (bq_of bwX12_isGroupNow_0 12 (by decide +kernel))
theorem dX12_isGroupNow_13 : decode cX12_isGroupNow 13 = .ok (.iconst 0, 1) := bq_o3 (bq_of bwX12_isGroupNow_0 13 (by decide +kernel))
theorem dX12_isGroupNow_14 : decode cX12_isGroupNow 14 = .ok (.istore_n 2, 1) := bq_o61 (bq_of bwX12_isGroupNow_0 14 (by decide +kernel))
theorem dX12_isGroupNow_15 : decode cX12_isGroupNow 15 = .ok (.iload_n 2, 1) := bq_o28 (bq_of bwX12_isGroupNow_0 15 (by decide +kernel))
theorem dX12_isGroupNow_16 : decode cX12_isGroupNow 16 = .ok (.aload_n 0, 1) := bq_o42 (bq_of bwX12_isGroupNow_0 16 (by decide +kernel))
theorem dX12_isGroupNow_17 : decode cX12_isGroupNow 17 = .ok (.getfield 85, 3) := bq_o180 (a := 0) (b := 85) (bq_3 bwX12_isGroupNow_0 17 (by decide +kernel)) rfl
theorem dX12_isGroupNow_20 : decode cX12_isGroupNow 20 = .ok (.if_icmp .ge 52, 3) := bq_o162 (a := 0) (b := 52) (bq_3 bwX12_isGroupNow_0 20 (by decide +kernel)) (by decide +kernel)
theorem dX12_isGroupNow_23 : decode cX12_isGroupNow 23 = .ok (.iconst 0, 1) := bq_o3 (bq_of bwX12_isGroupNow_0 23 (by decide +kernel))
theorem dX12_isGroupNow_24 : decode cX12_isGroupNow 24 = .ok (.istore_n 3, 1) := bq_o62 (bq_of bwX12_isGroupNow_0 24 (by decide +kernel))
theorem dX12_isGroupNow_25 : decode cX12_isGroupNow 25 = .ok (.iload_n 3, 1) := bq_o29 (bq_of bwX12_isGroupNow_0 25 (by decide +kernel))
theorem dX12_isGroupNow_26 : decode cX12_isGroupNow 26 = .ok (.iload_n 2, 1) := bq_o28 (bq_of bwX12_isGroupNow_0 26 (by decide +kernel))
theorem dX12_isGroupNow_27 : decode cX12_isGroupNow 27 = .ok (.if_icmp .ge 39, 3) := bq_o162 (a := 0) (b := 39) (bq_3 bwX12_isGroupNow_0 27 (by decide +kernel)) (by decide +kernel)
theorem dX12_isGroupNow_30 : decode cX12_isGroupNow 30 = .ok (.iload_n 1, 1) := bq_o27 (bq_of bwX12_isGroupNow_0 30 (by decide +kernel))
theorem dX12_isGroupNow_31 : decode cX12_isGroupNow 31 = .ok (.iload_n 2, 1) := bq_o28 (bq_of bwX12_isGroupNow_0 31 (by decide +kernel))
theorem dX12_isGroupNow_32 : decode cX12_isGroupNow 32 = .ok (.invokestatic 151, 3) := bq_o184 (a := 0) (b := 151) (bq_3 bwX12_isGroupNow_0 32 (by decide +kernel)) rfl
theorem dX12_isGroupNow_35 : decode cX12_isGroupNow 35 = .ok (.ifCond .eq 25, 3) := bq_o153 (a := 0) (b := 25) (bq_3 bwX12_isGroupNow_0 35 (by decide +kernel)) (by decide +kernel)
theorem dX12_isGroupNow_38 : decode cX12_isGroupNow 38 = .ok (.iload_n 1, 1) := bq_o27 (bq_of bwX12_isGroupNow_0 38 (by decide +kernel))
theorem dX12_isGroupNow_39 : decode cX12_isGroupNow 39 = .ok (.iload_n 3, 1) := bq_o29 (bq_of bwX12_isGroupNow_0 39 (by decide +kernel))
theorem dX12_isGroupNow_40 : decode cX12_isGroupNow 40 = .ok (.invokestatic 151, 3) := bq_o184 (a := 0) (b := 151) (bq_3 bwX12_isGroupNow_0 40 (by decide +kernel)) rfl
theorem dX12_isGroupNow_43 : decode cX12_isGroupNow 43 = .ok (.ifCond .eq 17, 3) := bq_o153 (a := 0) (b := 17) (bq_3 bwX12_isGroupNow_0 43 (by decide +kernel)) (by decide +kernel)
theorem dX12_isGroupNow_46 : decode cX12_isGroupNow 46 = .ok (.aload_n 0, 1) := bq_o42 (bq_of bwX12_isGroupNow_0 46 (by decide +kernel))
theorem dX12_isGroupNow_47 : decode cX12_isGroupNow 47 = .ok (.getfield 48, 3) := bq_o180 (a := 0) (b := 48) (bq_3 bwX12_isGroupNow_0 47 (by decide +kernel)) rfl
theorem dX12_isGroupNow_50 : decode cX12_isGroupNow 50 = .ok (.iload_n 2, 1) := bq_o28 (bq_of bwX12_isGroupNow_0 50 (by decide +kernel))
theorem dX12_isGroupNow_51 : decode cX12_isGroupNow 51 = .ok (.aaload, 1) := bq_o50 (bq_of bwX12_isGroupNow_0 51 (by decide +kernel))
theorem dX12_isGroupNow_52 : decode cX12_isGroupNow 52 = .ok (.iload_n 3, 1) := bq_o29 (bq_of bwX12_isGroupNow_0 52 (by decide +kernel))
theorem dX12_isGroupNow_53 : decode cX12_isGroupNow 53 = .ok (.iaload, 1) := bq_o46 (bq_of bwX12_isGroupNow_0 53 (by decide +kernel))
theorem dX12_isGroupNow_54 : decode cX12_isGroupNow 54 = .ok (.iconst (-1), 1) := bq_o2 (bq_of bwX12_isGroupNow_0 54 (by decide +kernel))
theorem dX12_isGroupNow_55 : decode cX12_isGroupNow 55 = .ok (.if_icmp .eq 5, 3) := bq_o159 (a := 0) (b := 5) (bq_3 bwX12_isGroupNow_0 55 (by decide +kernel)) (by decide +kernel)
theorem dX12_isGroupNow_58 : decode cX12_isGroupNow 58 = .ok (.iconst 0, 1) := bq_o3 (bq_of bwX12_isGroupNow_0 58 (by decide +kernel))
theorem dX12_isGroupNow_59 : decode cX12_isGroupNow 59 = .ok (.ireturn, 1) := bq_o172 (bq_of bwX12_isGroupNow_0 59 (by decide +kernel))
theorem dX12_isGroupNow_60 : decode cX12_isGroupNow 60 = .ok (.iinc 3 1, 3) := bq_o132 (a := 3) (b := 1) (bq_3 bwX12_isGroupNow_0 60 (by decide +kernel)) rfl (by decide +kernel)
theorem dX12_isGroupNow_63 : decode cX12_isGroupNow 63 = .ok (.goto (-38), 3) := bq_o167 (a := 255) (b := 218) (bq_3 bwX12_isGroupNow_0 63 (by decide +kernel)) (by decide +kernel)
def bwX12_isGroupNow_64l : List Nat := [255, 218, 132, 2, 1, 167, 255, 202, 4, 172]
theorem bwX12_isGroupNow_64 : ((cX12_isGroupNow.data.toList.drop 64).take 10).map UInt8.toNat = bwX12_isGroupNow_64l := by decide +kernel
theorem dX12_isGroupNow_66 : decode cX12_isGroupNow 66 = .ok (.iinc 2 1, 3) := bq_o132 (a := 2) (b := 1) (bq_3 bwX12_isGroupNow_64 2 (by decide +kernel)) rfl (by decide +kernel)
theorem dX12_isGroupNow_69 : decode cX12_isGroupNow 69 = .ok (.goto (-54), 3) := bq_o167 (a := 255) (b := 202) (bq_3 bwX12_isGroupNow_64 5 (by decide +kernel)) (by decide +kernel)
theorem dX12_isGroupNow_72 : decode cX12_isGroupNow 72 = .ok (.iconst 1, 1) := bq_o4 (bq_of bwX12_isGroupNow_64 8 (by decide +kernel))
theorem dX12_isGroupNow_73 : decode cX12_isGroupNow 73 = .ok (.ireturn, 1) := bq_o172 (bq_of bwX12_isGroupNow_64 9 (by decide +kernel))
def bwX12_listFrom_0l : List Nat := [29, 42, 180, 0, 51, 160, 0, 21, 42, 180, 0, 61, 42, 89, 180, 1, 1, 90, 4, 96, 181, 1, 1, 27, 79, 177, 28, 54, 4, 21, 4, 42, 180, 0, 85, 162, 0, 83, 4, 54, 5, 3, 54, 6, 21, 6, 21, 4, 162, 0, 42, 21, 5, 27, 21, 6, 184, 0, 151, 153, 0, 17, 42, 180, 0, 48]
theorem bwX12_listFrom_0 : ((cX12_listFrom.data.toList.drop 0).take 66).map UInt8.toNat = bwX12_listFrom_0l := by decide +kernel
theorem dX12_listFrom_0 : decode cX12_listFrom 0 = .ok (.iload_n 3, 1) := bq_o29 (bq_of bwX12_listFrom_0 0 (by decide +kernel))
theorem dX12_listFrom_1 : decode cX12_listFrom 1 = .ok (.aload_n 0, 1) := bq_o42 (bq_of bwX12_listFrom_0 1 (by decide +kernel))
theorem dX12_listFrom_2 : decode cX12_listFrom 2 = .ok (.getfield 51, 3) := bq_o180 (a := 0) (b := 51) (bq_3 bwX12_listFrom_0 2 (by decide +kernel)) rfl
theorem dX12_listFrom_5 : decode cX12_listFrom 5 = .ok (.if_icmp .ne 21, 3) := bq_o160 (a := 0) (b := 21) (bq_3 bwX12_listFrom_0 5 (by decide +kernel)) (by decide +kernel)
theorem dX12_listFrom_8 : decode cX12_listFrom 8 = .ok (.aload_n 0, 1) := bq_o42 (bq_of bwX12_listFrom_0 8 (by decide +kernel))
theorem dX12_listFrom_9 : decode cX12_listFrom 9 = .ok (.getfield 61, 3) := bq_o180 (a := 0) (b := 61) (bq_3 bwX12_listFrom_0 9 (by decide +kernel)) rfl
theorem dX12_listFrom_12 : decode cX12_listFrom 12 = .ok (.aload_n 0, 1) := bq_o42 (bq_of bwX12_listFrom_0 12 (by decide +kernel))
theorem dX12_listFrom_13 : decode cX12_listFrom 13 = .ok (.dup, 1) := bq_o89 (bq_of bwX12_listFrom_0 13 (by decide +kernel))
theorem dX12_listFrom_14 : decode cX12_listFrom 14 = .ok (.getfield 257, 3) := bq_o180 (a := 1) (b := 1) (bq_3 bwX12_listFrom_0 14 (by decide +kernel)) rfl
theorem dX12_listFrom_17 : decode cX12_listFrom 17 = .ok (.dup_x1, 1) := bq_o90 (bq_of bwX12_listFrom_0 17 (by decide +kernel))
theorem dX12_listFrom_18 : decode cX12_listFrom 18 = .ok (.iconst 1, 1) := bq_o4 (bq_of bwX12_listFrom_0 18 (by decide +kernel))
theorem dX12_listFrom_19 : decode cX12_listFrom 19 = .ok (.iadd, 1) := bq_o96 (bq_of bwX12_listFrom_0 19 (by decide +kernel))
theorem dX12_listFrom_20 : decode cX12_listFrom 20 = .ok (.putfield 257, 3) := bq_o181 (a := 1) (b := 1) (bq_3 bwX12_listFrom_0 20 (by decide +kernel)) rfl
theorem dX12_listFrom_23 : decode cX12_listFrom 23 = .ok (.iload_n 1, 1) := bq_o27 (bq_of bwX12_listFrom_0 23 (by decide +kernel))
theorem dX12_listFrom_24 : decode cX12_listFrom 24 = .ok (.iastore, 1) := bq_o79 (bq_of bwX12_listFrom_0 24 (by decide +kernel))
theorem dX12_listFrom_25 : decode cX12_listFrom 25 = .ok (.return_, 1) := bq_o177 (bq_of bwX12_listFrom_0 25 (by decide +kernel))
theorem dX12_listFrom_26 : decode cX12_listFrom 26 = .ok (.iload_n 2, 1) := bq_o28 (bq_of bwX12_listFrom_0 26 (by decide +kernel))
theorem dX12_listFrom_27 : decode cX12_listFrom 27 = .ok (.istore 4, 2) := bq_o54 (a := 4) (bq_2 bwX12_listFrom_0 27 (by decide +kernel)) rfl
theorem dX12_listFrom_29 : decode cX12_listFrom 29 = .ok (.iload 4, 2) := bq_o21 (a := 4) (bq_2 bwX12_listFrom_0 29 (by decide +kernel)) rfl
theorem dX12_listFrom_31 : decode cX12_listFrom 31 = .ok (.aload_n 0, 1) := bq_o42 (bq_of bwX12_listFrom_0 31 (by decide +kernel))
theorem dX12_listFrom_32 : decode cX12_listFrom 32 = .ok (.getfield 85, 3) := bq_o180 (a := 0) (b := 85) (bq_3 bwX12_listFrom_0 32 (by decide +kernel)) rfl
theorem dX12_listFrom_35 : decode cX12_listFrom 35 = .ok (.if_icmp .ge 83, 3) := bq_o162 (a := 0) (b := 83) (bq_3 bwX12_listFrom_0 35 (by decide +kernel)) (by decide +kernel)
theorem dX12_listFrom_38 : decode cX12_listFrom 38 = .ok (.iconst 1, 1) := bq_o4 (bq_of bwX12_listFrom_0 38 (by decide +kernel))
theorem dX12_listFrom_39 : decode cX12_listFrom 39 = .ok (.istore 5, 2) := bq_o54 (a := 5) (bq_2 bwX12_listFrom_0 39 (by decide +kernel)) rfl
theorem dX12_listFrom_41 : decode cX12_listFrom 41 = .ok (.iconst 0, 1) := bq_o3 (bq_of bwX12_listFrom_0 41 (by decide +kernel))
theorem dX12_listFrom_42 : decode cX12_listFrom 42 = .ok (.istore 6, 2) := bq_o54 (a := 6) (bq_2 bwX12_listFrom_0 42 (by decide +kernel)) rfl
theorem dX12_listFrom_44 : decode cX12_listFrom 44 = .ok (.iload 6, 2) := bq_o21 (a := 6) (bq_2 bwX12_listFrom_0 44 (by decide +kernel)) rfl
theorem dX12_listFrom_46 : decode cX12_listFrom 46 = .ok (.iload 4, 2) := bq_o21 (a := 4) (bq_2 bwX12_listFrom_0 46 (by decide +kernel)) rfl
theorem dX12_listFrom_48 : decode cX12_listFrom 48 = .ok (.if_icmp .ge 42, 3) := bq_o162 (a := 0) (b := 42) (bq_3 bwX12_listFrom_0 48 (by decide +kernel)) (by decide +kernel)
theorem dX12_listFrom_51 : decode cX12_listFrom 51 = .ok (.iload 5, 2) := bq_o21 (a := 5) (bq_2 bwX12_listFrom_0 51 (by decide +kernel)) rfl
theorem dX12_listFrom_53 : decode cX12_listFrom 53 = .ok (.iload_n 1, 1) := bq_o27 (bq_of bwX12_listFrom_0 53 (by decide +kernel))
theorem dX12_listFrom_54 : decode cX12_listFrom 54 = .ok (.iload 6, 2) := bq_o21 (a := 6) (bq_2 bwX12_listFrom_0 54 (by decide +kernel)) rfl
theorem dX12_listFrom_56 : decode cX12_listFrom 56 = .ok (.invokestatic 151, 3) := bq_o184 (a := 0) (b := 151) (bq_3 bwX12_listFrom_0 56 (by decide +kernel)) rfl
theorem dX12_listFrom_59 : decode cX12_listFrom 59 = .ok (.ifCond .eq 17, 3) := bq_o153 (a := 0) (b := 17) (bq_3 bwX12_listFrom_0 59 (by decide +kernel)) (by decide +kernel)
theorem dX12_listFrom_62 : decode cX12_listFrom 62 = .ok (.aload_n 0, 1) := bq_o42 (bq_of bwX12_listFrom_0 62 (by decide +kernel))
theorem dX12_listFrom_63 : decode cX12_listFrom 63 = .ok (.getfield 48, 3) := bq_o180 (a := 0) (b := 48) (bq_3 bwX12_listFrom_0 63 (by decide +kernel)) rfl
def bwX12_listFrom_64l : List Nat := [0, 48, 21, 4, 50, 21, 6, 46, 2, 160, 0, 7, 4, 167, 0, 4, 3, 126, 54, 5, 132, 6, 1, 167, 255, 213, 21, 5, 153, 0, 20, 42, 27, 4, 21, 4, 120, 128, 21, 4, 4, 96, 29, 4, 96, 182, 1, 4, 132, 4, 1, 167, 255, 170, 177]
theorem bwX12_listFrom_64 : ((cX12_listFrom.data.toList.drop 64).take 55).map UInt8.toNat = bwX12_listFrom_64l := by decide +kernel
theorem dX12_listFrom_66 : decode cX12_listFrom 66 = .ok (.iload 4, 2) := bq_o21 (a := 4) (bq_2 bwX12_listFrom_64 2 (by decide +kernel)) rfl
theorem dX12_listFrom_68 : decode cX12_listFrom 68 = .ok (.aaload, 1) := bq_o50 (bq_of bwX12_listFrom_64 4 (by decide +kernel))
theorem dX12_listFrom_69 : decode cX12_listFrom 69 = .ok (.iload 6, 2) := bq_o21 (a := 6) (bq_2 bwX12_listFrom_64 5 (by decide +kernel)) rfl
theorem dX12_listFrom_71 : decode cX12_listFrom 71 = .ok (.iaload, 1) := bq_o46 (bq_of bwX12_listFrom_64 7 (by decide +kernel))
theorem dX12_listFrom_72 : decode cX12_listFrom 72 = .ok (.iconst (-1), 1) := bq_o2 (bq_of bwX12_listFrom_64 8 (by decide +kernel))
theorem dX12_listFrom_73 : decode cX12_listFrom 73 = .ok (.if_icmp .ne 7, 3) := bq_o160 (a := 0) (b := 7) (bq_3 bwX12_listFrom_64 9 (by decide +kernel)) (by decide +kernel)
theorem dX12_listFrom_76 : decode cX12_listFrom 76 = .ok (.iconst 1, 1) := bq_o4 (bq_of bwX12_listFrom_64 12 (by decide +kernel))
theorem dX12_listFrom_77 : decode cX12_listFrom 77 = .ok (.goto 4, 3) := bq_o167 (a := 0) (b := 4) (bq_3 bwX12_listFrom_64 13 (by decide +kernel)) (by decide +kernel)
theorem dX12_listFrom_80 : decode cX12_listFrom 80 = .ok (.iconst 0, 1) := bq_o3 (bq_of bwX12_listFrom_64 16 (by decide +kernel))
theorem dX12_listFrom_81 : decode cX12_listFrom 81 = .ok (.iand, 1) := bq_o126 (bq_of bwX12_listFrom_64 17 (by decide +kernel))
theorem dX12_listFrom_82 : decode cX12_listFrom 82 = .ok (.istore 5, 2) := bq_o54 (a := 5) (bq_2 bwX12_listFrom_64 18 (by decide +kernel)) rfl
theorem dX12_listFrom_84 : decode cX12_listFrom 84 = .ok (.iinc 6 1, 3) := bq_o132 (a := 6) (b := 1) (bq_3 bwX12_listFrom_64 20 (by decide +kernel)) rfl (by decide +kernel)
theorem dX12_listFrom_87 : decode cX12_listFrom 87 = .ok (.goto (-43), 3) := bq_o167 (a := 255) (b := 213) (bq_3 bwX12_listFrom_64 23 (by decide +kernel)) (by decide +kernel)
theorem dX12_listFrom_90 : decode cX12_listFrom 90 = .ok (.iload 5, 2) := bq_o21 (a := 5) (bq_2 bwX12_listFrom_64 26 (by decide +kernel)) rfl
theorem dX12_listFrom_92 : decode cX12_listFrom 92 = .ok (.ifCond .eq 20, 3) := bq_o153 (a := 0) (b := 20) (bq_3 bwX12_listFrom_64 28 (by decide +kernel)) (by decide +kernel)
theorem dX12_listFrom_95 : decode cX12_listFrom 95 = .ok (.aload_n 0, 1) := bq_o42 (bq_of bwX12_listFrom_64 31 (by decide +kernel))
theorem dX12_listFrom_96 : decode cX12_listFrom 96 = .ok (.iload_n 1, 1) := bq_o27 (bq_of bwX12_listFrom_64 32 (by decide +kernel))
theorem dX12_listFrom_97 : decode cX12_listFrom 97 = .ok (.iconst 1, 1) := bq_o4 (bq_of bwX12_listFrom_64 33 (by decide +kernel))
theorem dX12_listFrom_98 : decode cX12_listFrom 98 = .ok (.iload 4, 2) := bq_o21 (a := 4) (bq_2 bwX12_listFrom_64 34 (by decide +kernel)) rfl
theorem dX12_listFrom_100 : decode cX12_listFrom 100 = .ok (.ishl, 1) := bq_o120 (bq_of bwX12_listFrom_64 36 (by decide +kernel))
theorem dX12_listFrom_101 : decode cX12_listFrom 101 = .ok (.ior, 1) := bq_o128 (bq_of bwX12_listFrom_64 37 (by decide +kernel))
theorem dX12_listFrom_102 : decode cX12_listFrom 102 = .ok (.iload 4, 2) := bq_o21 (a := 4) (bq_2 bwX12_listFrom_64 38 (by decide +kernel)) rfl
theorem dX12_listFrom_104 : decode cX12_listFrom 104 = .ok (.iconst 1, 1) := bq_o4 (bq_of bwX12_listFrom_64 40 (by decide +kernel))
theorem dX12_listFrom_105 : decode cX12_listFrom 105 = .ok (.iadd, 1) := bq_o96 (bq_of bwX12_listFrom_64 41 (by decide +kernel))
theorem dX12_listFrom_106 : decode cX12_listFrom 106 = .ok (.iload_n 3, 1) := bq_o29 (bq_of bwX12_listFrom_64 42 (by decide +kernel))
theorem dX12_listFrom_107 : decode cX12_listFrom 107 = .ok (.iconst 1, 1) := bq_o4 (bq_of bwX12_listFrom_64 43 (by decide +kernel))
theorem dX12_listFrom_108 : decode cX12_listFrom 108 = .ok (.iadd, 1) := bq_o96 (bq_of bwX12_listFrom_64 44 (by decide +kernel))
theorem dX12_listFrom_109 : decode cX12_listFrom 109 = .ok (.invokevirtual 260, 3) := bq_o182 (a := 1) (b := 4) (bq_3 bwX12_listFrom_64 45 (by decide +kernel)) rfl
theorem dX12_listFrom_112 : decode cX12_listFrom 112 = .ok (.iinc 4 1, 3) := bq_o132 (a := 4) (b := 1) (bq_3 bwX12_listFrom_64 48 (by decide +kernel)) rfl (by decide +kernel)
theorem dX12_listFrom_115 : decode cX12_listFrom 115 = .ok (.goto (-86), 3) := bq_o167 (a := 255) (b := 170) (bq_3 bwX12_listFrom_64 51 (by decide +kernel)) (by decide +kernel)
theorem dX12_listFrom_118 : decode cX12_listFrom 118 = .ok (.return_, 1) := bq_o177 (bq_of bwX12_listFrom_64 54 (by decide +kernel))
theorem dX12_listAll_0 : decode cX12_listAll 0 = .ok (.aload_n 0, 1) := by decide +kernel
theorem dX12_listAll_1 : decode cX12_listAll 1 = .ok (.iconst 0, 1) := by decide +kernel
theorem dX12_listAll_2 : decode cX12_listAll 2 = .ok (.putfield 257, 3) := by decide +kernel
theorem dX12_listAll_5 : decode cX12_listAll 5 = .ok (.aload_n 0, 1) := by decide +kernel
theorem dX12_listAll_6 : decode cX12_listAll 6 = .ok (.iconst 0, 1) := by decide +kernel
theorem dX12_listAll_7 : decode cX12_listAll 7 = .ok (.iconst 0, 1) := by decide +kernel
theorem dX12_listAll_8 : decode cX12_listAll 8 = .ok (.iconst 0, 1) := by decide +kernel
theorem dX12_listAll_9 : decode cX12_listAll 9 = .ok (.invokevirtual 260, 3) := by decide +kernel
theorem dX12_listAll_12 : decode cX12_listAll 12 = .ok (.return_, 1) := by decide +kernel
theorem dX12_isGroup_0 : decode cX12_isGroup 0 = .ok (.aload_n 0, 1) := by decide +kernel
theorem dX12_isGroup_1 : decode cX12_isGroup 1 = .ok (.iload_n 1, 1) := by decide +kernel
theorem dX12_isGroup_2 : decode cX12_isGroup 2 = .ok (.invokevirtual 263, 3) := by decide +kernel
theorem dX12_isGroup_5 : decode cX12_isGroup 5 = .ok (.ifCond .ne 10, 3) := by decide +kernel
theorem dX12_isGroup_8 : decode cX12_isGroup 8 = .ok (.aload_n 0, 1) := by decide +kernel
theorem dX12_isGroup_9 : decode cX12_isGroup 9 = .ok (.bipush (-2), 2) := by decide +kernel
theorem dX12_isGroup_11 : decode cX12_isGroup 11 = .ok (.invokevirtual 102, 3) := by decide +kernel
theorem dX12_isGroup_14 : decode cX12_isGroup 14 = .ok (.ireturn, 1) := by decide +kernel
theorem dX12_isGroup_15 : decode cX12_isGroup 15 = .ok (.aload_n 0, 1) := by decide +kernel
theorem dX12_isGroup_16 : decode cX12_isGroup 16 = .ok (.iload_n 1, 1) := by decide +kernel
theorem dX12_isGroup_17 : decode cX12_isGroup 17 = .ok (.invokevirtual 266, 3) := by decide +kernel
theorem dX12_isGroup_20 : decode cX12_isGroup 20 = .ok (.ifCond .eq 7, 3) := by decide +kernel
theorem dX12_isGroup_23 : decode cX12_isGroup 23 = .ok (.iconst 1, 1) := by decide +kernel
theorem dX12_isGroup_24 : decode cX12_isGroup 24 = .ok (.goto 4, 3) := by decide +kernel
theorem dX12_isGroup_27 : decode cX12_isGroup 27 = .ok (.iconst 0, 1) := by decide +kernel
theorem dX12_isGroup_28 : decode cX12_isGroup 28 = .ok (.ireturn, 1) := by decide +kernel
theorem dX12_groupsOf_0 : decode cX12_groupsOf 0 = .ok (.aload_n 0, 1) := by decide +kernel
theorem dX12_groupsOf_1 : decode cX12_groupsOf 1 = .ok (.invokevirtual 269, 3) := by decide +kernel
theorem dX12_groupsOf_4 : decode cX12_groupsOf 4 = .ok (.iconst 0, 1) := by decide +kernel
theorem dX12_groupsOf_5 : decode cX12_groupsOf 5 = .ok (.istore_n 2, 1) := by decide +kernel
theorem dX12_groupsOf_6 : decode cX12_groupsOf 6 = .ok (.iconst 0, 1) := by decide +kernel
theorem dX12_groupsOf_7 : decode cX12_groupsOf 7 = .ok (.istore_n 3, 1) := by decide +kernel
theorem dX12_groupsOf_8 : decode cX12_groupsOf 8 = .ok (.iload_n 3, 1) := by decide +kernel
theorem dX12_groupsOf_9 : decode cX12_groupsOf 9 = .ok (.aload_n 0, 1) := by decide +kernel
theorem dX12_groupsOf_10 : decode cX12_groupsOf 10 = .ok (.getfield 257, 3) := by decide +kernel
theorem dX12_groupsOf_13 : decode cX12_groupsOf 13 = .ok (.if_icmp .ge 30, 3) := by decide +kernel
theorem dX12_groupsOf_16 : decode cX12_groupsOf 16 = .ok (.iload_n 2, 1) := by decide +kernel
theorem dX12_groupsOf_17 : decode cX12_groupsOf 17 = .ok (.aload_n 0, 1) := by decide +kernel
theorem dX12_groupsOf_18 : decode cX12_groupsOf 18 = .ok (.getfield 61, 3) := by decide +kernel
theorem dX12_groupsOf_21 : decode cX12_groupsOf 21 = .ok (.iload_n 3, 1) := by decide +kernel
theorem dX12_groupsOf_22 : decode cX12_groupsOf 22 = .ok (.iaload, 1) := by decide +kernel
theorem dX12_groupsOf_23 : decode cX12_groupsOf 23 = .ok (.iload_n 1, 1) := by decide +kernel
theorem dX12_groupsOf_24 : decode cX12_groupsOf 24 = .ok (.iconst (-1), 1) := by decide +kernel
theorem dX12_groupsOf_25 : decode cX12_groupsOf 25 = .ok (.ixor, 1) := by decide +kernel
theorem dX12_groupsOf_26 : decode cX12_groupsOf 26 = .ok (.iand, 1) := by decide +kernel
theorem dX12_groupsOf_27 : decode cX12_groupsOf 27 = .ok (.ifCond .ne 7, 3) := by decide +kernel
theorem dX12_groupsOf_30 : decode cX12_groupsOf 30 = .ok (.iconst 1, 1) := by decide +kernel
theorem dX12_groupsOf_31 : decode cX12_groupsOf 31 = .ok (.goto 4, 3) := by decide +kernel
theorem dX12_groupsOf_34 : decode cX12_groupsOf 34 = .ok (.iconst 0, 1) := by decide +kernel
theorem dX12_groupsOf_35 : decode cX12_groupsOf 35 = .ok (.iadd, 1) := by decide +kernel
theorem dX12_groupsOf_36 : decode cX12_groupsOf 36 = .ok (.istore_n 2, 1) := by decide +kernel
theorem dX12_groupsOf_37 : decode cX12_groupsOf 37 = .ok (.iinc 3 1, 3) := by decide +kernel
theorem dX12_groupsOf_40 : decode cX12_groupsOf 40 = .ok (.goto (-32), 3) := by decide +kernel
theorem dX12_groupsOf_43 : decode cX12_groupsOf 43 = .ok (.iload_n 2, 1) := by decide +kernel
theorem dX12_groupsOf_44 : decode cX12_groupsOf 44 = .ok (.ireturn, 1) := by decide +kernel
theorem dX12_groups_0 : decode cX12_groups 0 = .ok (.aload_n 0, 1) := by decide +kernel
theorem dX12_groups_1 : decode cX12_groups 1 = .ok (.iload_n 1, 1) := by decide +kernel
theorem dX12_groups_2 : decode cX12_groups 2 = .ok (.invokevirtual 263, 3) := by decide +kernel
theorem dX12_groups_5 : decode cX12_groups 5 = .ok (.ifCond .eq 11, 3) := by decide +kernel
theorem dX12_groups_8 : decode cX12_groups 8 = .ok (.aload_n 0, 1) := by decide +kernel
theorem dX12_groups_9 : decode cX12_groups 9 = .ok (.iload_n 1, 1) := by decide +kernel
theorem dX12_groups_10 : decode cX12_groups 10 = .ok (.invokevirtual 272, 3) := by decide +kernel
theorem dX12_groups_13 : decode cX12_groups 13 = .ok (.goto 9, 3) := by decide +kernel
theorem dX12_groups_16 : decode cX12_groups 16 = .ok (.aload_n 0, 1) := by decide +kernel
theorem dX12_groups_17 : decode cX12_groups 17 = .ok (.bipush (-2), 2) := by decide +kernel
theorem dX12_groups_19 : decode cX12_groups 19 = .ok (.invokevirtual 102, 3) := by decide +kernel
theorem dX12_groups_22 : decode cX12_groups 22 = .ok (.ireturn, 1) := by decide +kernel
theorem dX12_firstIn_0 : decode cX12_firstIn 0 = .ok (.iconst 0, 1) := by decide +kernel
theorem dX12_firstIn_1 : decode cX12_firstIn 1 = .ok (.istore_n 2, 1) := by decide +kernel
theorem dX12_firstIn_2 : decode cX12_firstIn 2 = .ok (.iload_n 2, 1) := by decide +kernel
theorem dX12_firstIn_3 : decode cX12_firstIn 3 = .ok (.aload_n 0, 1) := by decide +kernel
theorem dX12_firstIn_4 : decode cX12_firstIn 4 = .ok (.getfield 257, 3) := by decide +kernel
theorem dX12_firstIn_7 : decode cX12_firstIn 7 = .ok (.if_icmp .ge 29, 3) := by decide +kernel
theorem dX12_firstIn_10 : decode cX12_firstIn 10 = .ok (.aload_n 0, 1) := by decide +kernel
theorem dX12_firstIn_11 : decode cX12_firstIn 11 = .ok (.getfield 61, 3) := by decide +kernel
theorem dX12_firstIn_14 : decode cX12_firstIn 14 = .ok (.iload_n 2, 1) := by decide +kernel
theorem dX12_firstIn_15 : decode cX12_firstIn 15 = .ok (.iaload, 1) := by decide +kernel
theorem dX12_firstIn_16 : decode cX12_firstIn 16 = .ok (.iload_n 1, 1) := by decide +kernel
theorem dX12_firstIn_17 : decode cX12_firstIn 17 = .ok (.iconst (-1), 1) := by decide +kernel
theorem dX12_firstIn_18 : decode cX12_firstIn 18 = .ok (.ixor, 1) := by decide +kernel
theorem dX12_firstIn_19 : decode cX12_firstIn 19 = .ok (.iand, 1) := by decide +kernel
theorem dX12_firstIn_20 : decode cX12_firstIn 20 = .ok (.ifCond .ne 10, 3) := by decide +kernel
theorem dX12_firstIn_23 : decode cX12_firstIn 23 = .ok (.aload_n 0, 1) := by decide +kernel
theorem dX12_firstIn_24 : decode cX12_firstIn 24 = .ok (.getfield 61, 3) := by decide +kernel
theorem dX12_firstIn_27 : decode cX12_firstIn 27 = .ok (.iload_n 2, 1) := by decide +kernel
theorem dX12_firstIn_28 : decode cX12_firstIn 28 = .ok (.iaload, 1) := by decide +kernel
theorem dX12_firstIn_29 : decode cX12_firstIn 29 = .ok (.ireturn, 1) := by decide +kernel
theorem dX12_firstIn_30 : decode cX12_firstIn 30 = .ok (.iinc 2 1, 3) := by decide +kernel
theorem dX12_firstIn_33 : decode cX12_firstIn 33 = .ok (.goto (-31), 3) := by decide +kernel
theorem dX12_firstIn_36 : decode cX12_firstIn 36 = .ok (.iconst 0, 1) := by decide +kernel
theorem dX12_firstIn_37 : decode cX12_firstIn 37 = .ok (.ireturn, 1) := by decide +kernel
theorem dX12_firstOf_0 : decode cX12_firstOf 0 = .ok (.aload_n 0, 1) := by decide +kernel
theorem dX12_firstOf_1 : decode cX12_firstOf 1 = .ok (.iload_n 1, 1) := by decide +kernel
theorem dX12_firstOf_2 : decode cX12_firstOf 2 = .ok (.invokevirtual 263, 3) := by decide +kernel
theorem dX12_firstOf_5 : decode cX12_firstOf 5 = .ok (.ifCond .ne 10, 3) := by decide +kernel
theorem dX12_firstOf_8 : decode cX12_firstOf 8 = .ok (.aload_n 0, 1) := by decide +kernel
theorem dX12_firstOf_9 : decode cX12_firstOf 9 = .ok (.bipush (-2), 2) := by decide +kernel
theorem dX12_firstOf_11 : decode cX12_firstOf 11 = .ok (.invokevirtual 102, 3) := by decide +kernel
theorem dX12_firstOf_14 : decode cX12_firstOf 14 = .ok (.ireturn, 1) := by decide +kernel
theorem dX12_firstOf_15 : decode cX12_firstOf 15 = .ok (.aload_n 0, 1) := by decide +kernel
theorem dX12_firstOf_16 : decode cX12_firstOf 16 = .ok (.invokevirtual 269, 3) := by decide +kernel
theorem dX12_firstOf_19 : decode cX12_firstOf 19 = .ok (.aload_n 0, 1) := by decide +kernel
theorem dX12_firstOf_20 : decode cX12_firstOf 20 = .ok (.iload_n 1, 1) := by decide +kernel
theorem dX12_firstOf_21 : decode cX12_firstOf 21 = .ok (.invokevirtual 275, 3) := by decide +kernel
theorem dX12_firstOf_24 : decode cX12_firstOf 24 = .ok (.ireturn, 1) := by decide +kernel
def bwX12_mostIn_0l : List Nat := [3, 61, 3, 62, 29, 42, 180, 1, 1, 162, 0, 53, 42, 180, 0, 61, 29, 46, 27, 2, 130, 126, 154, 0, 34, 4, 42, 27, 42, 180, 0, 61, 29, 46, 2, 130, 126, 182, 1, 22, 96, 54, 4, 21, 4, 28, 164, 0, 8, 21, 4, 167, 0, 4, 28, 61, 132, 3, 1, 167, 255, 201, 28, 172]
theorem bwX12_mostIn_0 : ((cX12_mostIn.data.toList.drop 0).take 64).map UInt8.toNat = bwX12_mostIn_0l := by decide +kernel
theorem dX12_mostIn_0 : decode cX12_mostIn 0 = .ok (.iconst 0, 1) := bq_o3 (bq_of bwX12_mostIn_0 0 (by decide +kernel))
theorem dX12_mostIn_1 : decode cX12_mostIn 1 = .ok (.istore_n 2, 1) := bq_o61 (bq_of bwX12_mostIn_0 1 (by decide +kernel))
theorem dX12_mostIn_2 : decode cX12_mostIn 2 = .ok (.iconst 0, 1) := bq_o3 (bq_of bwX12_mostIn_0 2 (by decide +kernel))
theorem dX12_mostIn_3 : decode cX12_mostIn 3 = .ok (.istore_n 3, 1) := bq_o62 (bq_of bwX12_mostIn_0 3 (by decide +kernel))
theorem dX12_mostIn_4 : decode cX12_mostIn 4 = .ok (.iload_n 3, 1) := bq_o29 (bq_of bwX12_mostIn_0 4 (by decide +kernel))
theorem dX12_mostIn_5 : decode cX12_mostIn 5 = .ok (.aload_n 0, 1) := bq_o42 (bq_of bwX12_mostIn_0 5 (by decide +kernel))
theorem dX12_mostIn_6 : decode cX12_mostIn 6 = .ok (.getfield 257, 3) := bq_o180 (a := 1) (b := 1) (bq_3 bwX12_mostIn_0 6 (by decide +kernel)) rfl
theorem dX12_mostIn_9 : decode cX12_mostIn 9 = .ok (.if_icmp .ge 53, 3) := bq_o162 (a := 0) (b := 53) (bq_3 bwX12_mostIn_0 9 (by decide +kernel)) (by decide +kernel)
theorem dX12_mostIn_12 : decode cX12_mostIn 12 = .ok (.aload_n 0, 1) := bq_o42 (bq_of bwX12_mostIn_0 12 (by decide +kernel))
theorem dX12_mostIn_13 : decode cX12_mostIn 13 = .ok (.getfield 61, 3) := bq_o180 (a := 0) (b := 61) (bq_3 bwX12_mostIn_0 13 (by decide +kernel)) rfl
theorem dX12_mostIn_16 : decode cX12_mostIn 16 = .ok (.iload_n 3, 1) := bq_o29 (bq_of bwX12_mostIn_0 16 (by decide +kernel))
theorem dX12_mostIn_17 : decode cX12_mostIn 17 = .ok (.iaload, 1) := bq_o46 (bq_of bwX12_mostIn_0 17 (by decide +kernel))
theorem dX12_mostIn_18 : decode cX12_mostIn 18 = .ok (.iload_n 1, 1) := bq_o27 (bq_of bwX12_mostIn_0 18 (by decide +kernel))
theorem dX12_mostIn_19 : decode cX12_mostIn 19 = .ok (.iconst (-1), 1) := bq_o2 (bq_of bwX12_mostIn_0 19 (by decide +kernel))
theorem dX12_mostIn_20 : decode cX12_mostIn 20 = .ok (.ixor, 1) := bq_o130 (bq_of bwX12_mostIn_0 20 (by decide +kernel))
theorem dX12_mostIn_21 : decode cX12_mostIn 21 = .ok (.iand, 1) := bq_o126 (bq_of bwX12_mostIn_0 21 (by decide +kernel))
theorem dX12_mostIn_22 : decode cX12_mostIn 22 = .ok (.ifCond .ne 34, 3) := bq_o154 (a := 0) (b := 34) (bq_3 bwX12_mostIn_0 22 (by decide +kernel)) (by decide +kernel)
theorem dX12_mostIn_25 : decode cX12_mostIn 25 = .ok (.iconst 1, 1) := bq_o4 (bq_of bwX12_mostIn_0 25 (by decide +kernel))
theorem dX12_mostIn_26 : decode cX12_mostIn 26 = .ok (.aload_n 0, 1) := bq_o42 (bq_of bwX12_mostIn_0 26 (by decide +kernel))
theorem dX12_mostIn_27 : decode cX12_mostIn 27 = .ok (.iload_n 1, 1) := bq_o27 (bq_of bwX12_mostIn_0 27 (by decide +kernel))
theorem dX12_mostIn_28 : decode cX12_mostIn 28 = .ok (.aload_n 0, 1) := bq_o42 (bq_of bwX12_mostIn_0 28 (by decide +kernel))
theorem dX12_mostIn_29 : decode cX12_mostIn 29 = .ok (.getfield 61, 3) := bq_o180 (a := 0) (b := 61) (bq_3 bwX12_mostIn_0 29 (by decide +kernel)) rfl
theorem dX12_mostIn_32 : decode cX12_mostIn 32 = .ok (.iload_n 3, 1) := bq_o29 (bq_of bwX12_mostIn_0 32 (by decide +kernel))
theorem dX12_mostIn_33 : decode cX12_mostIn 33 = .ok (.iaload, 1) := bq_o46 (bq_of bwX12_mostIn_0 33 (by decide +kernel))
theorem dX12_mostIn_34 : decode cX12_mostIn 34 = .ok (.iconst (-1), 1) := bq_o2 (bq_of bwX12_mostIn_0 34 (by decide +kernel))
theorem dX12_mostIn_35 : decode cX12_mostIn 35 = .ok (.ixor, 1) := bq_o130 (bq_of bwX12_mostIn_0 35 (by decide +kernel))
theorem dX12_mostIn_36 : decode cX12_mostIn 36 = .ok (.iand, 1) := bq_o126 (bq_of bwX12_mostIn_0 36 (by decide +kernel))
theorem dX12_mostIn_37 : decode cX12_mostIn 37 = .ok (.invokevirtual 278, 3) := bq_o182 (a := 1) (b := 22) (bq_3 bwX12_mostIn_0 37 (by decide +kernel)) rfl
theorem dX12_mostIn_40 : decode cX12_mostIn 40 = .ok (.iadd, 1) := bq_o96 (bq_of bwX12_mostIn_0 40 (by decide +kernel))
theorem dX12_mostIn_41 : decode cX12_mostIn 41 = .ok (.istore 4, 2) := bq_o54 (a := 4) (bq_2 bwX12_mostIn_0 41 (by decide +kernel)) rfl
theorem dX12_mostIn_43 : decode cX12_mostIn 43 = .ok (.iload 4, 2) := bq_o21 (a := 4) (bq_2 bwX12_mostIn_0 43 (by decide +kernel)) rfl
theorem dX12_mostIn_45 : decode cX12_mostIn 45 = .ok (.iload_n 2, 1) := bq_o28 (bq_of bwX12_mostIn_0 45 (by decide +kernel))
theorem dX12_mostIn_46 : decode cX12_mostIn 46 = .ok (.if_icmp .le 8, 3) := bq_o164 (a := 0) (b := 8) (bq_3 bwX12_mostIn_0 46 (by decide +kernel)) (by decide +kernel)
theorem dX12_mostIn_49 : decode cX12_mostIn 49 = .ok (.iload 4, 2) := bq_o21 (a := 4) (bq_2 bwX12_mostIn_0 49 (by decide +kernel)) rfl
theorem dX12_mostIn_51 : decode cX12_mostIn 51 = .ok (.goto 4, 3) := bq_o167 (a := 0) (b := 4) (bq_3 bwX12_mostIn_0 51 (by decide +kernel)) (by decide +kernel)
theorem dX12_mostIn_54 : decode cX12_mostIn 54 = .ok (.iload_n 2, 1) := bq_o28 (bq_of bwX12_mostIn_0 54 (by decide +kernel))
theorem dX12_mostIn_55 : decode cX12_mostIn 55 = .ok (.istore_n 2, 1) := bq_o61 (bq_of bwX12_mostIn_0 55 (by decide +kernel))
theorem dX12_mostIn_56 : decode cX12_mostIn 56 = .ok (.iinc 3 1, 3) := bq_o132 (a := 3) (b := 1) (bq_3 bwX12_mostIn_0 56 (by decide +kernel)) rfl (by decide +kernel)
theorem dX12_mostIn_59 : decode cX12_mostIn 59 = .ok (.goto (-55), 3) := bq_o167 (a := 255) (b := 201) (bq_3 bwX12_mostIn_0 59 (by decide +kernel)) (by decide +kernel)
theorem dX12_mostIn_62 : decode cX12_mostIn 62 = .ok (.iload_n 2, 1) := bq_o28 (bq_of bwX12_mostIn_0 62 (by decide +kernel))
theorem dX12_mostIn_63 : decode cX12_mostIn 63 = .ok (.ireturn, 1) := bq_o172 (bq_of bwX12_mostIn_0 63 (by decide +kernel))
theorem dX12_most_0 : decode cX12_most 0 = .ok (.aload_n 0, 1) := by decide +kernel
theorem dX12_most_1 : decode cX12_most 1 = .ok (.iload_n 1, 1) := by decide +kernel
theorem dX12_most_2 : decode cX12_most 2 = .ok (.invokevirtual 263, 3) := by decide +kernel
theorem dX12_most_5 : decode cX12_most 5 = .ok (.ifCond .ne 10, 3) := by decide +kernel
theorem dX12_most_8 : decode cX12_most 8 = .ok (.aload_n 0, 1) := by decide +kernel
theorem dX12_most_9 : decode cX12_most 9 = .ok (.bipush (-2), 2) := by decide +kernel
theorem dX12_most_11 : decode cX12_most 11 = .ok (.invokevirtual 102, 3) := by decide +kernel
theorem dX12_most_14 : decode cX12_most 14 = .ok (.ireturn, 1) := by decide +kernel
theorem dX12_most_15 : decode cX12_most 15 = .ok (.aload_n 0, 1) := by decide +kernel
theorem dX12_most_16 : decode cX12_most 16 = .ok (.invokevirtual 269, 3) := by decide +kernel
theorem dX12_most_19 : decode cX12_most 19 = .ok (.aload_n 0, 1) := by decide +kernel
theorem dX12_most_20 : decode cX12_most 20 = .ok (.iload_n 1, 1) := by decide +kernel
theorem dX12_most_21 : decode cX12_most 21 = .ok (.invokevirtual 278, 3) := by decide +kernel
theorem dX12_most_24 : decode cX12_most 24 = .ok (.ireturn, 1) := by decide +kernel
def bwX12_bestIn_0l : List Nat := [42, 27, 182, 1, 22, 61, 3, 62, 29, 42, 180, 1, 1, 162, 0, 49, 42, 180, 0, 61, 29, 46, 27, 2, 130, 126, 154, 0, 30, 42, 27, 42, 180, 0, 61, 29, 46, 2, 130, 126, 182, 1, 22, 28, 4, 100, 160, 0, 10, 42, 180, 0, 61, 29, 46, 172, 132, 3, 1, 167, 255, 205, 3, 172]
theorem bwX12_bestIn_0 : ((cX12_bestIn.data.toList.drop 0).take 64).map UInt8.toNat = bwX12_bestIn_0l := by decide +kernel
theorem dX12_bestIn_0 : decode cX12_bestIn 0 = .ok (.aload_n 0, 1) := bq_o42 (bq_of bwX12_bestIn_0 0 (by decide +kernel))
theorem dX12_bestIn_1 : decode cX12_bestIn 1 = .ok (.iload_n 1, 1) := bq_o27 (bq_of bwX12_bestIn_0 1 (by decide +kernel))
theorem dX12_bestIn_2 : decode cX12_bestIn 2 = .ok (.invokevirtual 278, 3) := bq_o182 (a := 1) (b := 22) (bq_3 bwX12_bestIn_0 2 (by decide +kernel)) rfl
theorem dX12_bestIn_5 : decode cX12_bestIn 5 = .ok (.istore_n 2, 1) := bq_o61 (bq_of bwX12_bestIn_0 5 (by decide +kernel))
theorem dX12_bestIn_6 : decode cX12_bestIn 6 = .ok (.iconst 0, 1) := bq_o3 (bq_of bwX12_bestIn_0 6 (by decide +kernel))
theorem dX12_bestIn_7 : decode cX12_bestIn 7 = .ok (.istore_n 3, 1) := bq_o62 (bq_of bwX12_bestIn_0 7 (by decide +kernel))
theorem dX12_bestIn_8 : decode cX12_bestIn 8 = .ok (.iload_n 3, 1) := bq_o29 (bq_of bwX12_bestIn_0 8 (by decide +kernel))
theorem dX12_bestIn_9 : decode cX12_bestIn 9 = .ok (.aload_n 0, 1) := bq_o42 (bq_of bwX12_bestIn_0 9 (by decide +kernel))
theorem dX12_bestIn_10 : decode cX12_bestIn 10 = .ok (.getfield 257, 3) := bq_o180 (a := 1) (b := 1) (bq_3 bwX12_bestIn_0 10 (by decide +kernel)) rfl
theorem dX12_bestIn_13 : decode cX12_bestIn 13 = .ok (.if_icmp .ge 49, 3) := bq_o162 (a := 0) (b := 49) (bq_3 bwX12_bestIn_0 13 (by decide +kernel)) (by decide +kernel)
theorem dX12_bestIn_16 : decode cX12_bestIn 16 = .ok (.aload_n 0, 1) := bq_o42 (bq_of bwX12_bestIn_0 16 (by decide +kernel))
theorem dX12_bestIn_17 : decode cX12_bestIn 17 = .ok (.getfield 61, 3) := bq_o180 (a := 0) (b := 61) (bq_3 bwX12_bestIn_0 17 (by decide +kernel)) rfl
theorem dX12_bestIn_20 : decode cX12_bestIn 20 = .ok (.iload_n 3, 1) := bq_o29 (bq_of bwX12_bestIn_0 20 (by decide +kernel))
theorem dX12_bestIn_21 : decode cX12_bestIn 21 = .ok (.iaload, 1) := bq_o46 (bq_of bwX12_bestIn_0 21 (by decide +kernel))
theorem dX12_bestIn_22 : decode cX12_bestIn 22 = .ok (.iload_n 1, 1) := bq_o27 (bq_of bwX12_bestIn_0 22 (by decide +kernel))
theorem dX12_bestIn_23 : decode cX12_bestIn 23 = .ok (.iconst (-1), 1) := bq_o2 (bq_of bwX12_bestIn_0 23 (by decide +kernel))
theorem dX12_bestIn_24 : decode cX12_bestIn 24 = .ok (.ixor, 1) := bq_o130 (bq_of bwX12_bestIn_0 24 (by decide +kernel))
theorem dX12_bestIn_25 : decode cX12_bestIn 25 = .ok (.iand, 1) := bq_o126 (bq_of bwX12_bestIn_0 25 (by decide +kernel))
theorem dX12_bestIn_26 : decode cX12_bestIn 26 = .ok (.ifCond .ne 30, 3) := bq_o154 (a := 0) (b := 30) (bq_3 bwX12_bestIn_0 26 (by decide +kernel)) (by decide +kernel)
theorem dX12_bestIn_29 : decode cX12_bestIn 29 = .ok (.aload_n 0, 1) := bq_o42 (bq_of bwX12_bestIn_0 29 (by decide +kernel))
theorem dX12_bestIn_30 : decode cX12_bestIn 30 = .ok (.iload_n 1, 1) := bq_o27 (bq_of bwX12_bestIn_0 30 (by decide +kernel))
theorem dX12_bestIn_31 : decode cX12_bestIn 31 = .ok (.aload_n 0, 1) := bq_o42 (bq_of bwX12_bestIn_0 31 (by decide +kernel))
theorem dX12_bestIn_32 : decode cX12_bestIn 32 = .ok (.getfield 61, 3) := bq_o180 (a := 0) (b := 61) (bq_3 bwX12_bestIn_0 32 (by decide +kernel)) rfl
theorem dX12_bestIn_35 : decode cX12_bestIn 35 = .ok (.iload_n 3, 1) := bq_o29 (bq_of bwX12_bestIn_0 35 (by decide +kernel))
theorem dX12_bestIn_36 : decode cX12_bestIn 36 = .ok (.iaload, 1) := bq_o46 (bq_of bwX12_bestIn_0 36 (by decide +kernel))
theorem dX12_bestIn_37 : decode cX12_bestIn 37 = .ok (.iconst (-1), 1) := bq_o2 (bq_of bwX12_bestIn_0 37 (by decide +kernel))
theorem dX12_bestIn_38 : decode cX12_bestIn 38 = .ok (.ixor, 1) := bq_o130 (bq_of bwX12_bestIn_0 38 (by decide +kernel))
theorem dX12_bestIn_39 : decode cX12_bestIn 39 = .ok (.iand, 1) := bq_o126 (bq_of bwX12_bestIn_0 39 (by decide +kernel))
theorem dX12_bestIn_40 : decode cX12_bestIn 40 = .ok (.invokevirtual 278, 3) := bq_o182 (a := 1) (b := 22) (bq_3 bwX12_bestIn_0 40 (by decide +kernel)) rfl
theorem dX12_bestIn_43 : decode cX12_bestIn 43 = .ok (.iload_n 2, 1) := bq_o28 (bq_of bwX12_bestIn_0 43 (by decide +kernel))
theorem dX12_bestIn_44 : decode cX12_bestIn 44 = .ok (.iconst 1, 1) := bq_o4 (bq_of bwX12_bestIn_0 44 (by decide +kernel))
theorem dX12_bestIn_45 : decode cX12_bestIn 45 = .ok (.isub, 1) := bq_o100 (bq_of bwX12_bestIn_0 45 (by decide +kernel))
theorem dX12_bestIn_46 : decode cX12_bestIn 46 = .ok (.if_icmp .ne 10, 3) := bq_o160 (a := 0) (b := 10) (bq_3 bwX12_bestIn_0 46 (by decide +kernel)) (by decide +kernel)
theorem dX12_bestIn_49 : decode cX12_bestIn 49 = .ok (.aload_n 0, 1) := bq_o42 (bq_of bwX12_bestIn_0 49 (by decide +kernel))
theorem dX12_bestIn_50 : decode cX12_bestIn 50 = .ok (.getfield 61, 3) := bq_o180 (a := 0) (b := 61) (bq_3 bwX12_bestIn_0 50 (by decide +kernel)) rfl
theorem dX12_bestIn_53 : decode cX12_bestIn 53 = .ok (.iload_n 3, 1) := bq_o29 (bq_of bwX12_bestIn_0 53 (by decide +kernel))
theorem dX12_bestIn_54 : decode cX12_bestIn 54 = .ok (.iaload, 1) := bq_o46 (bq_of bwX12_bestIn_0 54 (by decide +kernel))
theorem dX12_bestIn_55 : decode cX12_bestIn 55 = .ok (.ireturn, 1) := bq_o172 (bq_of bwX12_bestIn_0 55 (by decide +kernel))
theorem dX12_bestIn_56 : decode cX12_bestIn 56 = .ok (.iinc 3 1, 3) := bq_o132 (a := 3) (b := 1) (bq_3 bwX12_bestIn_0 56 (by decide +kernel)) rfl (by decide +kernel)
theorem dX12_bestIn_59 : decode cX12_bestIn 59 = .ok (.goto (-51), 3) := bq_o167 (a := 255) (b := 205) (bq_3 bwX12_bestIn_0 59 (by decide +kernel)) (by decide +kernel)
theorem dX12_bestIn_62 : decode cX12_bestIn 62 = .ok (.iconst 0, 1) := bq_o3 (bq_of bwX12_bestIn_0 62 (by decide +kernel))
theorem dX12_bestIn_63 : decode cX12_bestIn 63 = .ok (.ireturn, 1) := bq_o172 (bq_of bwX12_bestIn_0 63 (by decide +kernel))
def bwX12_mostOf_0l : List Nat := [42, 27, 182, 1, 7, 154, 0, 10, 42, 16, 254, 182, 0, 102, 172, 42, 182, 1, 13, 28, 133, 9, 42, 27, 182, 1, 22, 4, 100, 133, 184, 0, 88, 154, 0, 10, 42, 16, 251, 182, 0, 102, 172, 27, 62, 3, 54, 4, 21, 4, 28, 162, 0, 19, 29, 42, 29, 182, 1, 25, 2, 130, 126, 62, 132, 4]
theorem bwX12_mostOf_0 : ((cX12_mostOf.data.toList.drop 0).take 66).map UInt8.toNat = bwX12_mostOf_0l := by decide +kernel
theorem dX12_mostOf_0 : decode cX12_mostOf 0 = .ok (.aload_n 0, 1) := bq_o42 (bq_of bwX12_mostOf_0 0 (by decide +kernel))
theorem dX12_mostOf_1 : decode cX12_mostOf 1 = .ok (.iload_n 1, 1) := bq_o27 (bq_of bwX12_mostOf_0 1 (by decide +kernel))
theorem dX12_mostOf_2 : decode cX12_mostOf 2 = .ok (.invokevirtual 263, 3) := bq_o182 (a := 1) (b := 7) (bq_3 bwX12_mostOf_0 2 (by decide +kernel)) rfl
theorem dX12_mostOf_5 : decode cX12_mostOf 5 = .ok (.ifCond .ne 10, 3) := bq_o154 (a := 0) (b := 10) (bq_3 bwX12_mostOf_0 5 (by decide +kernel)) (by decide +kernel)
theorem dX12_mostOf_8 : decode cX12_mostOf 8 = .ok (.aload_n 0, 1) := bq_o42 (bq_of bwX12_mostOf_0 8 (by decide +kernel))
theorem dX12_mostOf_9 : decode cX12_mostOf 9 = .ok (.bipush (-2), 2) := bq_o16 (a := 254) (bq_2 bwX12_mostOf_0 9 (by decide +kernel)) (by decide +kernel)
theorem dX12_mostOf_11 : decode cX12_mostOf 11 = .ok (.invokevirtual 102, 3) := bq_o182 (a := 0) (b := 102) (bq_3 bwX12_mostOf_0 11 (by decide +kernel)) rfl
theorem dX12_mostOf_14 : decode cX12_mostOf 14 = .ok (.ireturn, 1) := bq_o172 (bq_of bwX12_mostOf_0 14 (by decide +kernel))
theorem dX12_mostOf_15 : decode cX12_mostOf 15 = .ok (.aload_n 0, 1) := bq_o42 (bq_of bwX12_mostOf_0 15 (by decide +kernel))
theorem dX12_mostOf_16 : decode cX12_mostOf 16 = .ok (.invokevirtual 269, 3) := bq_o182 (a := 1) (b := 13) (bq_3 bwX12_mostOf_0 16 (by decide +kernel)) rfl
theorem dX12_mostOf_19 : decode cX12_mostOf 19 = .ok (.iload_n 2, 1) := bq_o28 (bq_of bwX12_mostOf_0 19 (by decide +kernel))
theorem dX12_mostOf_20 : decode cX12_mostOf 20 = .ok (.i2l, 1) := bq_o133 (bq_of bwX12_mostOf_0 20 (by decide +kernel))
theorem dX12_mostOf_21 : decode cX12_mostOf 21 = .ok (.lconst 0, 1) := bq_o9 (bq_of bwX12_mostOf_0 21 (by decide +kernel))
theorem dX12_mostOf_22 : decode cX12_mostOf 22 = .ok (.aload_n 0, 1) := bq_o42 (bq_of bwX12_mostOf_0 22 (by decide +kernel))
theorem dX12_mostOf_23 : decode cX12_mostOf 23 = .ok (.iload_n 1, 1) := bq_o27 (bq_of bwX12_mostOf_0 23 (by decide +kernel))
theorem dX12_mostOf_24 : decode cX12_mostOf 24 = .ok (.invokevirtual 278, 3) := bq_o182 (a := 1) (b := 22) (bq_3 bwX12_mostOf_0 24 (by decide +kernel)) rfl
theorem dX12_mostOf_27 : decode cX12_mostOf 27 = .ok (.iconst 1, 1) := bq_o4 (bq_of bwX12_mostOf_0 27 (by decide +kernel))
theorem dX12_mostOf_28 : decode cX12_mostOf 28 = .ok (.isub, 1) := bq_o100 (bq_of bwX12_mostOf_0 28 (by decide +kernel))
theorem dX12_mostOf_29 : decode cX12_mostOf 29 = .ok (.i2l, 1) := bq_o133 (bq_of bwX12_mostOf_0 29 (by decide +kernel))
theorem dX12_mostOf_30 : decode cX12_mostOf 30 = .ok (.invokestatic 88, 3) := bq_o184 (a := 0) (b := 88) (bq_3 bwX12_mostOf_0 30 (by decide +kernel)) rfl
theorem dX12_mostOf_33 : decode cX12_mostOf 33 = .ok (.ifCond .ne 10, 3) := bq_o154 (a := 0) (b := 10) (bq_3 bwX12_mostOf_0 33 (by decide +kernel)) (by decide +kernel)
theorem dX12_mostOf_36 : decode cX12_mostOf 36 = .ok (.aload_n 0, 1) := bq_o42 (bq_of bwX12_mostOf_0 36 (by decide +kernel))
theorem dX12_mostOf_37 : decode cX12_mostOf 37 = .ok (.bipush (-5), 2) := bq_o16 (a := 251) (bq_2 bwX12_mostOf_0 37 (by decide +kernel)) (by decide +kernel)
theorem dX12_mostOf_39 : decode cX12_mostOf 39 = .ok (.invokevirtual 102, 3) := bq_o182 (a := 0) (b := 102) (bq_3 bwX12_mostOf_0 39 (by decide +kernel)) rfl
theorem dX12_mostOf_42 : decode cX12_mostOf 42 = .ok (.ireturn, 1) := bq_o172 (bq_of bwX12_mostOf_0 42 (by decide +kernel))
theorem dX12_mostOf_43 : decode cX12_mostOf 43 = .ok (.iload_n 1, 1) := bq_o27 (bq_of bwX12_mostOf_0 43 (by decide +kernel))
theorem dX12_mostOf_44 : decode cX12_mostOf 44 = .ok (.istore_n 3, 1) := bq_o62 (bq_of bwX12_mostOf_0 44 (by decide +kernel))
theorem dX12_mostOf_45 : decode cX12_mostOf 45 = .ok (.iconst 0, 1) := bq_o3 (bq_of bwX12_mostOf_0 45 (by decide +kernel))
theorem dX12_mostOf_46 : decode cX12_mostOf 46 = .ok (.istore 4, 2) := bq_o54 (a := 4) (bq_2 bwX12_mostOf_0 46 (by decide +kernel)) rfl
theorem dX12_mostOf_48 : decode cX12_mostOf 48 = .ok (.iload 4, 2) := bq_o21 (a := 4) (bq_2 bwX12_mostOf_0 48 (by decide +kernel)) rfl
theorem dX12_mostOf_50 : decode cX12_mostOf 50 = .ok (.iload_n 2, 1) := bq_o28 (bq_of bwX12_mostOf_0 50 (by decide +kernel))
theorem dX12_mostOf_51 : decode cX12_mostOf 51 = .ok (.if_icmp .ge 19, 3) := bq_o162 (a := 0) (b := 19) (bq_3 bwX12_mostOf_0 51 (by decide +kernel)) (by decide +kernel)
theorem dX12_mostOf_54 : decode cX12_mostOf 54 = .ok (.iload_n 3, 1) := bq_o29 (bq_of bwX12_mostOf_0 54 (by decide +kernel))
theorem dX12_mostOf_55 : decode cX12_mostOf 55 = .ok (.aload_n 0, 1) := bq_o42 (bq_of bwX12_mostOf_0 55 (by decide +kernel))
theorem dX12_mostOf_56 : decode cX12_mostOf 56 = .ok (.iload_n 3, 1) := bq_o29 (bq_of bwX12_mostOf_0 56 (by decide +kernel))
theorem dX12_mostOf_57 : decode cX12_mostOf 57 = .ok (.invokevirtual 281, 3) := bq_o182 (a := 1) (b := 25) (bq_3 bwX12_mostOf_0 57 (by decide +kernel)) rfl
theorem dX12_mostOf_60 : decode cX12_mostOf 60 = .ok (.iconst (-1), 1) := bq_o2 (bq_of bwX12_mostOf_0 60 (by decide +kernel))
theorem dX12_mostOf_61 : decode cX12_mostOf 61 = .ok (.ixor, 1) := bq_o130 (bq_of bwX12_mostOf_0 61 (by decide +kernel))
theorem dX12_mostOf_62 : decode cX12_mostOf 62 = .ok (.iand, 1) := bq_o126 (bq_of bwX12_mostOf_0 62 (by decide +kernel))
theorem dX12_mostOf_63 : decode cX12_mostOf 63 = .ok (.istore_n 3, 1) := bq_o62 (bq_of bwX12_mostOf_0 63 (by decide +kernel))
def bwX12_mostOf_64l : List Nat := [132, 4, 1, 167, 255, 237, 42, 29, 182, 1, 25, 172]
theorem bwX12_mostOf_64 : ((cX12_mostOf.data.toList.drop 64).take 12).map UInt8.toNat = bwX12_mostOf_64l := by decide +kernel
theorem dX12_mostOf_64 : decode cX12_mostOf 64 = .ok (.iinc 4 1, 3) := bq_o132 (a := 4) (b := 1) (bq_3 bwX12_mostOf_64 0 (by decide +kernel)) rfl (by decide +kernel)
theorem dX12_mostOf_67 : decode cX12_mostOf 67 = .ok (.goto (-19), 3) := bq_o167 (a := 255) (b := 237) (bq_3 bwX12_mostOf_64 3 (by decide +kernel)) (by decide +kernel)
theorem dX12_mostOf_70 : decode cX12_mostOf 70 = .ok (.aload_n 0, 1) := bq_o42 (bq_of bwX12_mostOf_64 6 (by decide +kernel))
theorem dX12_mostOf_71 : decode cX12_mostOf 71 = .ok (.iload_n 3, 1) := bq_o29 (bq_of bwX12_mostOf_64 7 (by decide +kernel))
theorem dX12_mostOf_72 : decode cX12_mostOf 72 = .ok (.invokevirtual 281, 3) := bq_o182 (a := 1) (b := 25) (bq_3 bwX12_mostOf_64 8 (by decide +kernel)) rfl
theorem dX12_mostOf_75 : decode cX12_mostOf 75 = .ok (.ireturn, 1) := bq_o172 (bq_of bwX12_mostOf_64 11 (by decide +kernel))
theorem dX12_costOf_0 : decode cX12_costOf 0 = .ok (.iconst 0, 1) := by decide +kernel
theorem dX12_costOf_1 : decode cX12_costOf 1 = .ok (.istore_n 2, 1) := by decide +kernel
theorem dX12_costOf_2 : decode cX12_costOf 2 = .ok (.iconst 0, 1) := by decide +kernel
theorem dX12_costOf_3 : decode cX12_costOf 3 = .ok (.istore_n 3, 1) := by decide +kernel
theorem dX12_costOf_4 : decode cX12_costOf 4 = .ok (.iload_n 3, 1) := by decide +kernel
theorem dX12_costOf_5 : decode cX12_costOf 5 = .ok (.aload_n 0, 1) := by decide +kernel
theorem dX12_costOf_6 : decode cX12_costOf 6 = .ok (.getfield 85, 3) := by decide +kernel
theorem dX12_costOf_9 : decode cX12_costOf 9 = .ok (.if_icmp .ge 30, 3) := by decide +kernel
theorem dX12_costOf_12 : decode cX12_costOf 12 = .ok (.iload_n 2, 1) := by decide +kernel
theorem dX12_costOf_13 : decode cX12_costOf 13 = .ok (.iload_n 1, 1) := by decide +kernel
theorem dX12_costOf_14 : decode cX12_costOf 14 = .ok (.iload_n 3, 1) := by decide +kernel
theorem dX12_costOf_15 : decode cX12_costOf 15 = .ok (.invokestatic 151, 3) := by decide +kernel
theorem dX12_costOf_18 : decode cX12_costOf 18 = .ok (.ifCond .eq 12, 3) := by decide +kernel
theorem dX12_costOf_21 : decode cX12_costOf 21 = .ok (.aload_n 0, 1) := by decide +kernel
theorem dX12_costOf_22 : decode cX12_costOf 22 = .ok (.getfield 43, 3) := by decide +kernel
theorem dX12_costOf_25 : decode cX12_costOf 25 = .ok (.iload_n 3, 1) := by decide +kernel
theorem dX12_costOf_26 : decode cX12_costOf 26 = .ok (.iaload, 1) := by decide +kernel
theorem dX12_costOf_27 : decode cX12_costOf 27 = .ok (.goto 4, 3) := by decide +kernel
theorem dX12_costOf_30 : decode cX12_costOf 30 = .ok (.iconst 0, 1) := by decide +kernel
theorem dX12_costOf_31 : decode cX12_costOf 31 = .ok (.iadd, 1) := by decide +kernel
theorem dX12_costOf_32 : decode cX12_costOf 32 = .ok (.istore_n 2, 1) := by decide +kernel
theorem dX12_costOf_33 : decode cX12_costOf 33 = .ok (.iinc 3 1, 3) := by decide +kernel
theorem dX12_costOf_36 : decode cX12_costOf 36 = .ok (.goto (-32), 3) := by decide +kernel
theorem dX12_costOf_39 : decode cX12_costOf 39 = .ok (.iload_n 2, 1) := by decide +kernel
theorem dX12_costOf_40 : decode cX12_costOf 40 = .ok (.ireturn, 1) := by decide +kernel
theorem dX12_meetsOf_0 : decode cX12_meetsOf 0 = .ok (.iconst 0, 1) := by decide +kernel
theorem dX12_meetsOf_1 : decode cX12_meetsOf 1 = .ok (.istore_n 2, 1) := by decide +kernel
theorem dX12_meetsOf_2 : decode cX12_meetsOf 2 = .ok (.iconst 0, 1) := by decide +kernel
theorem dX12_meetsOf_3 : decode cX12_meetsOf 3 = .ok (.istore_n 3, 1) := by decide +kernel
theorem dX12_meetsOf_4 : decode cX12_meetsOf 4 = .ok (.iload_n 3, 1) := by decide +kernel
theorem dX12_meetsOf_5 : decode cX12_meetsOf 5 = .ok (.aload_n 0, 1) := by decide +kernel
theorem dX12_meetsOf_6 : decode cX12_meetsOf 6 = .ok (.getfield 85, 3) := by decide +kernel
theorem dX12_meetsOf_9 : decode cX12_meetsOf 9 = .ok (.if_icmp .ge 32, 3) := by decide +kernel
theorem dX12_meetsOf_12 : decode cX12_meetsOf 12 = .ok (.iload_n 2, 1) := by decide +kernel
theorem dX12_meetsOf_13 : decode cX12_meetsOf 13 = .ok (.iload_n 1, 1) := by decide +kernel
theorem dX12_meetsOf_14 : decode cX12_meetsOf 14 = .ok (.iload_n 3, 1) := by decide +kernel
theorem dX12_meetsOf_15 : decode cX12_meetsOf 15 = .ok (.invokestatic 151, 3) := by decide +kernel
theorem dX12_meetsOf_18 : decode cX12_meetsOf 18 = .ok (.ifCond .eq 14, 3) := by decide +kernel
theorem dX12_meetsOf_21 : decode cX12_meetsOf 21 = .ok (.aload_n 0, 1) := by decide +kernel
theorem dX12_meetsOf_22 : decode cX12_meetsOf 22 = .ok (.iload_n 3, 1) := by decide +kernel
theorem dX12_meetsOf_23 : decode cX12_meetsOf 23 = .ok (.invokevirtual 251, 3) := by decide +kernel
theorem dX12_meetsOf_26 : decode cX12_meetsOf 26 = .ok (.invokestatic 254, 3) := by decide +kernel
theorem dX12_meetsOf_29 : decode cX12_meetsOf 29 = .ok (.goto 4, 3) := by decide +kernel
theorem dX12_meetsOf_32 : decode cX12_meetsOf 32 = .ok (.iconst 0, 1) := by decide +kernel
theorem dX12_meetsOf_33 : decode cX12_meetsOf 33 = .ok (.iadd, 1) := by decide +kernel
theorem dX12_meetsOf_34 : decode cX12_meetsOf 34 = .ok (.istore_n 2, 1) := by decide +kernel
theorem dX12_meetsOf_35 : decode cX12_meetsOf 35 = .ok (.iinc 3 1, 3) := by decide +kernel
theorem dX12_meetsOf_38 : decode cX12_meetsOf 38 = .ok (.goto (-34), 3) := by decide +kernel
theorem dX12_meetsOf_41 : decode cX12_meetsOf 41 = .ok (.iload_n 2, 1) := by decide +kernel
theorem dX12_meetsOf_42 : decode cX12_meetsOf 42 = .ok (.ireturn, 1) := by decide +kernel
def bwX12_sentBy_0l : List Nat := [42, 182, 1, 13, 27, 6, 160, 0, 18, 21, 4, 158, 0, 13, 29, 184, 0, 254, 28, 162, 0, 5, 3, 172, 27, 4, 159, 0, 8, 27, 6, 160, 0, 9, 42, 29, 182, 1, 19, 172, 27, 5, 159, 0, 14, 27, 7, 159, 0, 9, 42, 29, 182, 1, 25, 172, 3, 54, 5, 3, 54, 6, 21, 6, 42, 180]
theorem bwX12_sentBy_0 : ((cX12_sentBy.data.toList.drop 0).take 66).map UInt8.toNat = bwX12_sentBy_0l := by decide +kernel
theorem dX12_sentBy_0 : decode cX12_sentBy 0 = .ok (.aload_n 0, 1) := bq_o42 (bq_of bwX12_sentBy_0 0 (by decide +kernel))
theorem dX12_sentBy_1 : decode cX12_sentBy 1 = .ok (.invokevirtual 269, 3) := bq_o182 (a := 1) (b := 13) (bq_3 bwX12_sentBy_0 1 (by decide +kernel)) rfl
theorem dX12_sentBy_4 : decode cX12_sentBy 4 = .ok (.iload_n 1, 1) := bq_o27 (bq_of bwX12_sentBy_0 4 (by decide +kernel))
theorem dX12_sentBy_5 : decode cX12_sentBy 5 = .ok (.iconst 3, 1) := bq_o6 (bq_of bwX12_sentBy_0 5 (by decide +kernel))
theorem dX12_sentBy_6 : decode cX12_sentBy 6 = .ok (.if_icmp .ne 18, 3) := bq_o160 (a := 0) (b := 18) (bq_3 bwX12_sentBy_0 6 (by decide +kernel)) (by decide +kernel)
theorem dX12_sentBy_9 : decode cX12_sentBy 9 = .ok (.iload 4, 2) := bq_o21 (a := 4) (bq_2 bwX12_sentBy_0 9 (by decide +kernel)) rfl
theorem dX12_sentBy_11 : decode cX12_sentBy 11 = .ok (.ifCond .le 13, 3) := bq_o158 (a := 0) (b := 13) (bq_3 bwX12_sentBy_0 11 (by decide +kernel)) (by decide +kernel)
theorem dX12_sentBy_14 : decode cX12_sentBy 14 = .ok (.iload_n 3, 1) := bq_o29 (bq_of bwX12_sentBy_0 14 (by decide +kernel))
theorem dX12_sentBy_15 : decode cX12_sentBy 15 = .ok (.invokestatic 254, 3) := bq_o184 (a := 0) (b := 254) (bq_3 bwX12_sentBy_0 15 (by decide +kernel)) rfl
theorem dX12_sentBy_18 : decode cX12_sentBy 18 = .ok (.iload_n 2, 1) := bq_o28 (bq_of bwX12_sentBy_0 18 (by decide +kernel))
theorem dX12_sentBy_19 : decode cX12_sentBy 19 = .ok (.if_icmp .ge 5, 3) := bq_o162 (a := 0) (b := 5) (bq_3 bwX12_sentBy_0 19 (by decide +kernel)) (by decide +kernel)
theorem dX12_sentBy_22 : decode cX12_sentBy 22 = .ok (.iconst 0, 1) := bq_o3 (bq_of bwX12_sentBy_0 22 (by decide +kernel))
theorem dX12_sentBy_23 : decode cX12_sentBy 23 = .ok (.ireturn, 1) := bq_o172 (bq_of bwX12_sentBy_0 23 (by decide +kernel))
theorem dX12_sentBy_24 : decode cX12_sentBy 24 = .ok (.iload_n 1, 1) := bq_o27 (bq_of bwX12_sentBy_0 24 (by decide +kernel))
theorem dX12_sentBy_25 : decode cX12_sentBy 25 = .ok (.iconst 1, 1) := bq_o4 (bq_of bwX12_sentBy_0 25 (by decide +kernel))
theorem dX12_sentBy_26 : decode cX12_sentBy 26 = .ok (.if_icmp .eq 8, 3) := bq_o159 (a := 0) (b := 8) (bq_3 bwX12_sentBy_0 26 (by decide +kernel)) (by decide +kernel)
theorem dX12_sentBy_29 : decode cX12_sentBy 29 = .ok (.iload_n 1, 1) := bq_o27 (bq_of bwX12_sentBy_0 29 (by decide +kernel))
theorem dX12_sentBy_30 : decode cX12_sentBy 30 = .ok (.iconst 3, 1) := bq_o6 (bq_of bwX12_sentBy_0 30 (by decide +kernel))
theorem dX12_sentBy_31 : decode cX12_sentBy 31 = .ok (.if_icmp .ne 9, 3) := bq_o160 (a := 0) (b := 9) (bq_3 bwX12_sentBy_0 31 (by decide +kernel)) (by decide +kernel)
theorem dX12_sentBy_34 : decode cX12_sentBy 34 = .ok (.aload_n 0, 1) := bq_o42 (bq_of bwX12_sentBy_0 34 (by decide +kernel))
theorem dX12_sentBy_35 : decode cX12_sentBy 35 = .ok (.iload_n 3, 1) := bq_o29 (bq_of bwX12_sentBy_0 35 (by decide +kernel))
theorem dX12_sentBy_36 : decode cX12_sentBy 36 = .ok (.invokevirtual 275, 3) := bq_o182 (a := 1) (b := 19) (bq_3 bwX12_sentBy_0 36 (by decide +kernel)) rfl
theorem dX12_sentBy_39 : decode cX12_sentBy 39 = .ok (.ireturn, 1) := bq_o172 (bq_of bwX12_sentBy_0 39 (by decide +kernel))
theorem dX12_sentBy_40 : decode cX12_sentBy 40 = .ok (.iload_n 1, 1) := bq_o27 (bq_of bwX12_sentBy_0 40 (by decide +kernel))
theorem dX12_sentBy_41 : decode cX12_sentBy 41 = .ok (.iconst 2, 1) := bq_o5 (bq_of bwX12_sentBy_0 41 (by decide +kernel))
theorem dX12_sentBy_42 : decode cX12_sentBy 42 = .ok (.if_icmp .eq 14, 3) := bq_o159 (a := 0) (b := 14) (bq_3 bwX12_sentBy_0 42 (by decide +kernel)) (by decide +kernel)
theorem dX12_sentBy_45 : decode cX12_sentBy 45 = .ok (.iload_n 1, 1) := bq_o27 (bq_of bwX12_sentBy_0 45 (by decide +kernel))
theorem dX12_sentBy_46 : decode cX12_sentBy 46 = .ok (.iconst 4, 1) := bq_o7 (bq_of bwX12_sentBy_0 46 (by decide +kernel))
theorem dX12_sentBy_47 : decode cX12_sentBy 47 = .ok (.if_icmp .eq 9, 3) := bq_o159 (a := 0) (b := 9) (bq_3 bwX12_sentBy_0 47 (by decide +kernel)) (by decide +kernel)
theorem dX12_sentBy_50 : decode cX12_sentBy 50 = .ok (.aload_n 0, 1) := bq_o42 (bq_of bwX12_sentBy_0 50 (by decide +kernel))
theorem dX12_sentBy_51 : decode cX12_sentBy 51 = .ok (.iload_n 3, 1) := bq_o29 (bq_of bwX12_sentBy_0 51 (by decide +kernel))
theorem dX12_sentBy_52 : decode cX12_sentBy 52 = .ok (.invokevirtual 281, 3) := bq_o182 (a := 1) (b := 25) (bq_3 bwX12_sentBy_0 52 (by decide +kernel)) rfl
theorem dX12_sentBy_55 : decode cX12_sentBy 55 = .ok (.ireturn, 1) := bq_o172 (bq_of bwX12_sentBy_0 55 (by decide +kernel))
theorem dX12_sentBy_56 : decode cX12_sentBy 56 = .ok (.iconst 0, 1) := bq_o3 (bq_of bwX12_sentBy_0 56 (by decide +kernel))
theorem dX12_sentBy_57 : decode cX12_sentBy 57 = .ok (.istore 5, 2) := bq_o54 (a := 5) (bq_2 bwX12_sentBy_0 57 (by decide +kernel)) rfl
theorem dX12_sentBy_59 : decode cX12_sentBy 59 = .ok (.iconst 0, 1) := bq_o3 (bq_of bwX12_sentBy_0 59 (by decide +kernel))
theorem dX12_sentBy_60 : decode cX12_sentBy 60 = .ok (.istore 6, 2) := bq_o54 (a := 6) (bq_2 bwX12_sentBy_0 60 (by decide +kernel)) rfl
theorem dX12_sentBy_62 : decode cX12_sentBy 62 = .ok (.iload 6, 2) := bq_o21 (a := 6) (bq_2 bwX12_sentBy_0 62 (by decide +kernel)) rfl
def bwX12_sentBy_64l : List Nat := [42, 180, 1, 1, 162, 0, 107, 42, 180, 0, 61, 21, 6, 46, 29, 2, 130, 126, 154, 0, 87, 27, 5, 160, 0, 31, 42, 42, 180, 0, 61, 21, 6, 46, 182, 1, 28, 42, 21, 5, 182, 1, 28, 164, 0, 7, 4, 167, 0, 32, 3, 167, 0, 28, 42, 42, 180, 0, 61, 21, 6, 46, 182, 1, 31, 42]
theorem bwX12_sentBy_64 : ((cX12_sentBy.data.toList.drop 64).take 66).map UInt8.toNat = bwX12_sentBy_64l := by decide +kernel
theorem dX12_sentBy_64 : decode cX12_sentBy 64 = .ok (.aload_n 0, 1) := bq_o42 (bq_of bwX12_sentBy_64 0 (by decide +kernel))
theorem dX12_sentBy_65 : decode cX12_sentBy 65 = .ok (.getfield 257, 3) := bq_o180 (a := 1) (b := 1) (bq_3 bwX12_sentBy_64 1 (by decide +kernel)) rfl
theorem dX12_sentBy_68 : decode cX12_sentBy 68 = .ok (.if_icmp .ge 107, 3) := bq_o162 (a := 0) (b := 107) (bq_3 bwX12_sentBy_64 4 (by decide +kernel)) (by decide +kernel)
theorem dX12_sentBy_71 : decode cX12_sentBy 71 = .ok (.aload_n 0, 1) := bq_o42 (bq_of bwX12_sentBy_64 7 (by decide +kernel))
theorem dX12_sentBy_72 : decode cX12_sentBy 72 = .ok (.getfield 61, 3) := bq_o180 (a := 0) (b := 61) (bq_3 bwX12_sentBy_64 8 (by decide +kernel)) rfl
theorem dX12_sentBy_75 : decode cX12_sentBy 75 = .ok (.iload 6, 2) := bq_o21 (a := 6) (bq_2 bwX12_sentBy_64 11 (by decide +kernel)) rfl
theorem dX12_sentBy_77 : decode cX12_sentBy 77 = .ok (.iaload, 1) := bq_o46 (bq_of bwX12_sentBy_64 13 (by decide +kernel))
theorem dX12_sentBy_78 : decode cX12_sentBy 78 = .ok (.iload_n 3, 1) := bq_o29 (bq_of bwX12_sentBy_64 14 (by decide +kernel))
theorem dX12_sentBy_79 : decode cX12_sentBy 79 = .ok (.iconst (-1), 1) := bq_o2 (bq_of bwX12_sentBy_64 15 (by decide +kernel))
theorem dX12_sentBy_80 : decode cX12_sentBy 80 = .ok (.ixor, 1) := bq_o130 (bq_of bwX12_sentBy_64 16 (by decide +kernel))
theorem dX12_sentBy_81 : decode cX12_sentBy 81 = .ok (.iand, 1) := bq_o126 (bq_of bwX12_sentBy_64 17 (by decide +kernel))
theorem dX12_sentBy_82 : decode cX12_sentBy 82 = .ok (.ifCond .ne 87, 3) := bq_o154 (a := 0) (b := 87) (bq_3 bwX12_sentBy_64 18 (by decide +kernel)) (by decide +kernel)
theorem dX12_sentBy_85 : decode cX12_sentBy 85 = .ok (.iload_n 1, 1) := bq_o27 (bq_of bwX12_sentBy_64 21 (by decide +kernel))
theorem dX12_sentBy_86 : decode cX12_sentBy 86 = .ok (.iconst 2, 1) := bq_o5 (bq_of bwX12_sentBy_64 22 (by decide +kernel))
theorem dX12_sentBy_87 : decode cX12_sentBy 87 = .ok (.if_icmp .ne 31, 3) := bq_o160 (a := 0) (b := 31) (bq_3 bwX12_sentBy_64 23 (by decide +kernel)) (by decide +kernel)
theorem dX12_sentBy_90 : decode cX12_sentBy 90 = .ok (.aload_n 0, 1) := bq_o42 (bq_of bwX12_sentBy_64 26 (by decide +kernel))
theorem dX12_sentBy_91 : decode cX12_sentBy 91 = .ok (.aload_n 0, 1) := bq_o42 (bq_of bwX12_sentBy_64 27 (by decide +kernel))
theorem dX12_sentBy_92 : decode cX12_sentBy 92 = .ok (.getfield 61, 3) := bq_o180 (a := 0) (b := 61) (bq_3 bwX12_sentBy_64 28 (by decide +kernel)) rfl
theorem dX12_sentBy_95 : decode cX12_sentBy 95 = .ok (.iload 6, 2) := bq_o21 (a := 6) (bq_2 bwX12_sentBy_64 31 (by decide +kernel)) rfl
theorem dX12_sentBy_97 : decode cX12_sentBy 97 = .ok (.iaload, 1) := bq_o46 (bq_of bwX12_sentBy_64 33 (by decide +kernel))
theorem dX12_sentBy_98 : decode cX12_sentBy 98 = .ok (.invokevirtual 284, 3) := bq_o182 (a := 1) (b := 28) (bq_3 bwX12_sentBy_64 34 (by decide +kernel)) rfl
theorem dX12_sentBy_101 : decode cX12_sentBy 101 = .ok (.aload_n 0, 1) := bq_o42 (bq_of bwX12_sentBy_64 37 (by decide +kernel))
theorem dX12_sentBy_102 : decode cX12_sentBy 102 = .ok (.iload 5, 2) := bq_o21 (a := 5) (bq_2 bwX12_sentBy_64 38 (by decide +kernel)) rfl
theorem dX12_sentBy_104 : decode cX12_sentBy 104 = .ok (.invokevirtual 284, 3) := bq_o182 (a := 1) (b := 28) (bq_3 bwX12_sentBy_64 40 (by decide +kernel)) rfl
theorem dX12_sentBy_107 : decode cX12_sentBy 107 = .ok (.if_icmp .le 7, 3) := bq_o164 (a := 0) (b := 7) (bq_3 bwX12_sentBy_64 43 (by decide +kernel)) (by decide +kernel)
theorem dX12_sentBy_110 : decode cX12_sentBy 110 = .ok (.iconst 1, 1) := bq_o4 (bq_of bwX12_sentBy_64 46 (by decide +kernel))
theorem dX12_sentBy_111 : decode cX12_sentBy 111 = .ok (.goto 32, 3) := bq_o167 (a := 0) (b := 32) (bq_3 bwX12_sentBy_64 47 (by decide +kernel)) (by decide +kernel)
theorem dX12_sentBy_114 : decode cX12_sentBy 114 = .ok (.iconst 0, 1) := bq_o3 (bq_of bwX12_sentBy_64 50 (by decide +kernel))
theorem dX12_sentBy_115 : decode cX12_sentBy 115 = .ok (.goto 28, 3) := bq_o167 (a := 0) (b := 28) (bq_3 bwX12_sentBy_64 51 (by decide +kernel)) (by decide +kernel)
theorem dX12_sentBy_118 : decode cX12_sentBy 118 = .ok (.aload_n 0, 1) := bq_o42 (bq_of bwX12_sentBy_64 54 (by decide +kernel))
theorem dX12_sentBy_119 : decode cX12_sentBy 119 = .ok (.aload_n 0, 1) := bq_o42 (bq_of bwX12_sentBy_64 55 (by decide +kernel))
theorem dX12_sentBy_120 : decode cX12_sentBy 120 = .ok (.getfield 61, 3) := bq_o180 (a := 0) (b := 61) (bq_3 bwX12_sentBy_64 56 (by decide +kernel)) rfl
theorem dX12_sentBy_123 : decode cX12_sentBy 123 = .ok (.iload 6, 2) := bq_o21 (a := 6) (bq_2 bwX12_sentBy_64 59 (by decide +kernel)) rfl
theorem dX12_sentBy_125 : decode cX12_sentBy 125 = .ok (.iaload, 1) := bq_o46 (bq_of bwX12_sentBy_64 61 (by decide +kernel))
theorem dX12_sentBy_126 : decode cX12_sentBy 126 = .ok (.invokevirtual 287, 3) := bq_o182 (a := 1) (b := 31) (bq_3 bwX12_sentBy_64 62 (by decide +kernel)) rfl
def bwX12_sentBy_128l : List Nat := [31, 42, 21, 5, 182, 1, 31, 162, 0, 7, 4, 167, 0, 4, 3, 54, 7, 21, 5, 153, 0, 8, 21, 7, 153, 0, 13, 42, 180, 0, 61, 21, 6, 46, 167, 0, 5, 21, 5, 54, 5, 132, 6, 1, 167, 255, 146, 21, 5, 172]
theorem bwX12_sentBy_128 : ((cX12_sentBy.data.toList.drop 128).take 50).map UInt8.toNat = bwX12_sentBy_128l := by decide +kernel
theorem dX12_sentBy_129 : decode cX12_sentBy 129 = .ok (.aload_n 0, 1) := bq_o42 (bq_of bwX12_sentBy_128 1 (by decide +kernel))
theorem dX12_sentBy_130 : decode cX12_sentBy 130 = .ok (.iload 5, 2) := bq_o21 (a := 5) (bq_2 bwX12_sentBy_128 2 (by decide +kernel)) rfl
theorem dX12_sentBy_132 : decode cX12_sentBy 132 = .ok (.invokevirtual 287, 3) := bq_o182 (a := 1) (b := 31) (bq_3 bwX12_sentBy_128 4 (by decide +kernel)) rfl
theorem dX12_sentBy_135 : decode cX12_sentBy 135 = .ok (.if_icmp .ge 7, 3) := bq_o162 (a := 0) (b := 7) (bq_3 bwX12_sentBy_128 7 (by decide +kernel)) (by decide +kernel)
theorem dX12_sentBy_138 : decode cX12_sentBy 138 = .ok (.iconst 1, 1) := bq_o4 (bq_of bwX12_sentBy_128 10 (by decide +kernel))
theorem dX12_sentBy_139 : decode cX12_sentBy 139 = .ok (.goto 4, 3) := bq_o167 (a := 0) (b := 4) (bq_3 bwX12_sentBy_128 11 (by decide +kernel)) (by decide +kernel)
theorem dX12_sentBy_142 : decode cX12_sentBy 142 = .ok (.iconst 0, 1) := bq_o3 (bq_of bwX12_sentBy_128 14 (by decide +kernel))
theorem dX12_sentBy_143 : decode cX12_sentBy 143 = .ok (.istore 7, 2) := bq_o54 (a := 7) (bq_2 bwX12_sentBy_128 15 (by decide +kernel)) rfl
theorem dX12_sentBy_145 : decode cX12_sentBy 145 = .ok (.iload 5, 2) := bq_o21 (a := 5) (bq_2 bwX12_sentBy_128 17 (by decide +kernel)) rfl
theorem dX12_sentBy_147 : decode cX12_sentBy 147 = .ok (.ifCond .eq 8, 3) := bq_o153 (a := 0) (b := 8) (bq_3 bwX12_sentBy_128 19 (by decide +kernel)) (by decide +kernel)
theorem dX12_sentBy_150 : decode cX12_sentBy 150 = .ok (.iload 7, 2) := bq_o21 (a := 7) (bq_2 bwX12_sentBy_128 22 (by decide +kernel)) rfl
theorem dX12_sentBy_152 : decode cX12_sentBy 152 = .ok (.ifCond .eq 13, 3) := bq_o153 (a := 0) (b := 13) (bq_3 bwX12_sentBy_128 24 (by decide +kernel)) (by decide +kernel)
theorem dX12_sentBy_155 : decode cX12_sentBy 155 = .ok (.aload_n 0, 1) := bq_o42 (bq_of bwX12_sentBy_128 27 (by decide +kernel))
theorem dX12_sentBy_156 : decode cX12_sentBy 156 = .ok (.getfield 61, 3) := bq_o180 (a := 0) (b := 61) (bq_3 bwX12_sentBy_128 28 (by decide +kernel)) rfl
theorem dX12_sentBy_159 : decode cX12_sentBy 159 = .ok (.iload 6, 2) := bq_o21 (a := 6) (bq_2 bwX12_sentBy_128 31 (by decide +kernel)) rfl
theorem dX12_sentBy_161 : decode cX12_sentBy 161 = .ok (.iaload, 1) := bq_o46 (bq_of bwX12_sentBy_128 33 (by decide +kernel))
theorem dX12_sentBy_162 : decode cX12_sentBy 162 = .ok (.goto 5, 3) := bq_o167 (a := 0) (b := 5) (bq_3 bwX12_sentBy_128 34 (by decide +kernel)) (by decide +kernel)
theorem dX12_sentBy_165 : decode cX12_sentBy 165 = .ok (.iload 5, 2) := bq_o21 (a := 5) (bq_2 bwX12_sentBy_128 37 (by decide +kernel)) rfl
theorem dX12_sentBy_167 : decode cX12_sentBy 167 = .ok (.istore 5, 2) := bq_o54 (a := 5) (bq_2 bwX12_sentBy_128 39 (by decide +kernel)) rfl
theorem dX12_sentBy_169 : decode cX12_sentBy 169 = .ok (.iinc 6 1, 3) := bq_o132 (a := 6) (b := 1) (bq_3 bwX12_sentBy_128 41 (by decide +kernel)) rfl (by decide +kernel)
theorem dX12_sentBy_172 : decode cX12_sentBy 172 = .ok (.goto (-110), 3) := bq_o167 (a := 255) (b := 146) (bq_3 bwX12_sentBy_128 44 (by decide +kernel)) (by decide +kernel)
theorem dX12_sentBy_175 : decode cX12_sentBy 175 = .ok (.iload 5, 2) := bq_o21 (a := 5) (bq_2 bwX12_sentBy_128 47 (by decide +kernel)) rfl
theorem dX12_sentBy_177 : decode cX12_sentBy 177 = .ok (.ireturn, 1) := bq_o172 (bq_of bwX12_sentBy_128 49 (by decide +kernel))
def bwX12_sends_0l : List Nat := [27, 133, 9, 20, 0, 96, 184, 0, 88, 153, 0, 23, 42, 28, 182, 1, 7, 153, 0, 15, 29, 133, 9, 20, 0, 96, 184, 0, 88, 154, 0, 10, 42, 16, 254, 182, 0, 102, 172, 42, 27, 182, 1, 34, 54, 4, 21, 4, 153, 0, 8, 21, 4, 167, 0, 21, 42, 42, 180, 0, 28, 27, 46, 42, 180, 0]
theorem bwX12_sends_0 : ((cX12_sends.data.toList.drop 0).take 66).map UInt8.toNat = bwX12_sends_0l := by decide +kernel
theorem dX12_sends_0 : decode cX12_sends 0 = .ok (.iload_n 1, 1) := bq_o27 (bq_of bwX12_sends_0 0 (by decide +kernel))
theorem dX12_sends_1 : decode cX12_sends 1 = .ok (.i2l, 1) := bq_o133 (bq_of bwX12_sends_0 1 (by decide +kernel))
theorem dX12_sends_2 : decode cX12_sends 2 = .ok (.lconst 0, 1) := bq_o9 (bq_of bwX12_sends_0 2 (by decide +kernel))
theorem dX12_sends_3 : decode cX12_sends 3 = .ok (.ldc2_w 96, 3) := bq_o20 (a := 0) (b := 96) (bq_3 bwX12_sends_0 3 (by decide +kernel)) rfl
theorem dX12_sends_6 : decode cX12_sends 6 = .ok (.invokestatic 88, 3) := bq_o184 (a := 0) (b := 88) (bq_3 bwX12_sends_0 6 (by decide +kernel)) rfl
theorem dX12_sends_9 : decode cX12_sends 9 = .ok (.ifCond .eq 23, 3) := bq_o153 (a := 0) (b := 23) (bq_3 bwX12_sends_0 9 (by decide +kernel)) (by decide +kernel)
theorem dX12_sends_12 : decode cX12_sends 12 = .ok (.aload_n 0, 1) := bq_o42 (bq_of bwX12_sends_0 12 (by decide +kernel))
theorem dX12_sends_13 : decode cX12_sends 13 = .ok (.iload_n 2, 1) := bq_o28 (bq_of bwX12_sends_0 13 (by decide +kernel))
theorem dX12_sends_14 : decode cX12_sends 14 = .ok (.invokevirtual 263, 3) := bq_o182 (a := 1) (b := 7) (bq_3 bwX12_sends_0 14 (by decide +kernel)) rfl
theorem dX12_sends_17 : decode cX12_sends 17 = .ok (.ifCond .eq 15, 3) := bq_o153 (a := 0) (b := 15) (bq_3 bwX12_sends_0 17 (by decide +kernel)) (by decide +kernel)
theorem dX12_sends_20 : decode cX12_sends 20 = .ok (.iload_n 3, 1) := bq_o29 (bq_of bwX12_sends_0 20 (by decide +kernel))
theorem dX12_sends_21 : decode cX12_sends 21 = .ok (.i2l, 1) := bq_o133 (bq_of bwX12_sends_0 21 (by decide +kernel))
theorem dX12_sends_22 : decode cX12_sends 22 = .ok (.lconst 0, 1) := bq_o9 (bq_of bwX12_sends_0 22 (by decide +kernel))
theorem dX12_sends_23 : decode cX12_sends 23 = .ok (.ldc2_w 96, 3) := bq_o20 (a := 0) (b := 96) (bq_3 bwX12_sends_0 23 (by decide +kernel)) rfl
theorem dX12_sends_26 : decode cX12_sends 26 = .ok (.invokestatic 88, 3) := bq_o184 (a := 0) (b := 88) (bq_3 bwX12_sends_0 26 (by decide +kernel)) rfl
theorem dX12_sends_29 : decode cX12_sends 29 = .ok (.ifCond .ne 10, 3) := bq_o154 (a := 0) (b := 10) (bq_3 bwX12_sends_0 29 (by decide +kernel)) (by decide +kernel)
theorem dX12_sends_32 : decode cX12_sends 32 = .ok (.aload_n 0, 1) := bq_o42 (bq_of bwX12_sends_0 32 (by decide +kernel))
theorem dX12_sends_33 : decode cX12_sends 33 = .ok (.bipush (-2), 2) := bq_o16 (a := 254) (bq_2 bwX12_sends_0 33 (by decide +kernel)) (by decide +kernel)
theorem dX12_sends_35 : decode cX12_sends 35 = .ok (.invokevirtual 102, 3) := bq_o182 (a := 0) (b := 102) (bq_3 bwX12_sends_0 35 (by decide +kernel)) rfl
theorem dX12_sends_38 : decode cX12_sends 38 = .ok (.ireturn, 1) := bq_o172 (bq_of bwX12_sends_0 38 (by decide +kernel))
theorem dX12_sends_39 : decode cX12_sends 39 = .ok (.aload_n 0, 1) := bq_o42 (bq_of bwX12_sends_0 39 (by decide +kernel))
theorem dX12_sends_40 : decode cX12_sends 40 = .ok (.iload_n 1, 1) := bq_o27 (bq_of bwX12_sends_0 40 (by decide +kernel))
theorem dX12_sends_41 : decode cX12_sends 41 = .ok (.invokevirtual 290, 3) := bq_o182 (a := 1) (b := 34) (bq_3 bwX12_sends_0 41 (by decide +kernel)) rfl
theorem dX12_sends_44 : decode cX12_sends 44 = .ok (.istore 4, 2) := bq_o54 (a := 4) (bq_2 bwX12_sends_0 44 (by decide +kernel)) rfl
theorem dX12_sends_46 : decode cX12_sends 46 = .ok (.iload 4, 2) := bq_o21 (a := 4) (bq_2 bwX12_sends_0 46 (by decide +kernel)) rfl
theorem dX12_sends_48 : decode cX12_sends 48 = .ok (.ifCond .eq 8, 3) := bq_o153 (a := 0) (b := 8) (bq_3 bwX12_sends_0 48 (by decide +kernel)) (by decide +kernel)
theorem dX12_sends_51 : decode cX12_sends 51 = .ok (.iload 4, 2) := bq_o21 (a := 4) (bq_2 bwX12_sends_0 51 (by decide +kernel)) rfl
theorem dX12_sends_53 : decode cX12_sends 53 = .ok (.goto 21, 3) := bq_o167 (a := 0) (b := 21) (bq_3 bwX12_sends_0 53 (by decide +kernel)) (by decide +kernel)
theorem dX12_sends_56 : decode cX12_sends 56 = .ok (.aload_n 0, 1) := bq_o42 (bq_of bwX12_sends_0 56 (by decide +kernel))
theorem dX12_sends_57 : decode cX12_sends 57 = .ok (.aload_n 0, 1) := bq_o42 (bq_of bwX12_sends_0 57 (by decide +kernel))
theorem dX12_sends_58 : decode cX12_sends 58 = .ok (.getfield 28, 3) := bq_o180 (a := 0) (b := 28) (bq_3 bwX12_sends_0 58 (by decide +kernel)) rfl
theorem dX12_sends_61 : decode cX12_sends 61 = .ok (.iload_n 1, 1) := bq_o27 (bq_of bwX12_sends_0 61 (by decide +kernel))
theorem dX12_sends_62 : decode cX12_sends 62 = .ok (.iaload, 1) := bq_o46 (bq_of bwX12_sends_0 62 (by decide +kernel))
theorem dX12_sends_63 : decode cX12_sends 63 = .ok (.aload_n 0, 1) := bq_o42 (bq_of bwX12_sends_0 63 (by decide +kernel))
def bwX12_sends_64l : List Nat := [180, 0, 31, 27, 46, 28, 29, 182, 0, 121, 172]
theorem bwX12_sends_64 : ((cX12_sends.data.toList.drop 64).take 11).map UInt8.toNat = bwX12_sends_64l := by decide +kernel
theorem dX12_sends_64 : decode cX12_sends 64 = .ok (.getfield 31, 3) := bq_o180 (a := 0) (b := 31) (bq_3 bwX12_sends_64 0 (by decide +kernel)) rfl
theorem dX12_sends_67 : decode cX12_sends 67 = .ok (.iload_n 1, 1) := bq_o27 (bq_of bwX12_sends_64 3 (by decide +kernel))
theorem dX12_sends_68 : decode cX12_sends 68 = .ok (.iaload, 1) := bq_o46 (bq_of bwX12_sends_64 4 (by decide +kernel))
theorem dX12_sends_69 : decode cX12_sends 69 = .ok (.iload_n 2, 1) := bq_o28 (bq_of bwX12_sends_64 5 (by decide +kernel))
theorem dX12_sends_70 : decode cX12_sends 70 = .ok (.iload_n 3, 1) := bq_o29 (bq_of bwX12_sends_64 6 (by decide +kernel))
theorem dX12_sends_71 : decode cX12_sends 71 = .ok (.invokevirtual 121, 3) := bq_o182 (a := 0) (b := 121) (bq_3 bwX12_sends_64 7 (by decide +kernel)) rfl
theorem dX12_sends_74 : decode cX12_sends 74 = .ok (.ireturn, 1) := bq_o172 (bq_of bwX12_sends_64 10 (by decide +kernel))
theorem dX12_findComing_0 : decode cX12_findComing 0 = .ok (.iconst 0, 1) := by decide +kernel
theorem dX12_findComing_1 : decode cX12_findComing 1 = .ok (.istore_n 1, 1) := by decide +kernel
theorem dX12_findComing_2 : decode cX12_findComing 2 = .ok (.iconst 0, 1) := by decide +kernel
theorem dX12_findComing_3 : decode cX12_findComing 3 = .ok (.istore_n 2, 1) := by decide +kernel
theorem dX12_findComing_4 : decode cX12_findComing 4 = .ok (.iload_n 2, 1) := by decide +kernel
theorem dX12_findComing_5 : decode cX12_findComing 5 = .ok (.bipush 24, 2) := by decide +kernel
theorem dX12_findComing_7 : decode cX12_findComing 7 = .ok (.if_icmp .ge 45, 3) := by decide +kernel
theorem dX12_findComing_10 : decode cX12_findComing 10 = .ok (.iconst 0, 1) := by decide +kernel
theorem dX12_findComing_11 : decode cX12_findComing 11 = .ok (.istore_n 3, 1) := by decide +kernel
theorem dX12_findComing_12 : decode cX12_findComing 12 = .ok (.iload_n 3, 1) := by decide +kernel
theorem dX12_findComing_13 : decode cX12_findComing 13 = .ok (.aload_n 0, 1) := by decide +kernel
theorem dX12_findComing_14 : decode cX12_findComing 14 = .ok (.getfield 85, 3) := by decide +kernel
theorem dX12_findComing_17 : decode cX12_findComing 17 = .ok (.if_icmp .ge 29, 3) := by decide +kernel
theorem dX12_findComing_20 : decode cX12_findComing 20 = .ok (.aload_n 0, 1) := by decide +kernel
theorem dX12_findComing_21 : decode cX12_findComing 21 = .ok (.getfield 40, 3) := by decide +kernel
theorem dX12_findComing_24 : decode cX12_findComing 24 = .ok (.iload_n 3, 1) := by decide +kernel
theorem dX12_findComing_25 : decode cX12_findComing 25 = .ok (.iaload, 1) := by decide +kernel
theorem dX12_findComing_26 : decode cX12_findComing 26 = .ok (.iload_n 2, 1) := by decide +kernel
theorem dX12_findComing_27 : decode cX12_findComing 27 = .ok (.if_icmp .ne 13, 3) := by decide +kernel
theorem dX12_findComing_30 : decode cX12_findComing 30 = .ok (.aload_n 0, 1) := by decide +kernel
theorem dX12_findComing_31 : decode cX12_findComing 31 = .ok (.getfield 64, 3) := by decide +kernel
theorem dX12_findComing_34 : decode cX12_findComing 34 = .ok (.iload_n 1, 1) := by decide +kernel
theorem dX12_findComing_35 : decode cX12_findComing 35 = .ok (.iinc 1 1, 3) := by decide +kernel
theorem dX12_findComing_38 : decode cX12_findComing 38 = .ok (.iload_n 3, 1) := by decide +kernel
theorem dX12_findComing_39 : decode cX12_findComing 39 = .ok (.iastore, 1) := by decide +kernel
theorem dX12_findComing_40 : decode cX12_findComing 40 = .ok (.iinc 3 1, 3) := by decide +kernel
theorem dX12_findComing_43 : decode cX12_findComing 43 = .ok (.goto (-31), 3) := by decide +kernel
theorem dX12_findComing_46 : decode cX12_findComing 46 = .ok (.iinc 2 1, 3) := by decide +kernel
theorem dX12_findComing_49 : decode cX12_findComing 49 = .ok (.goto (-45), 3) := by decide +kernel
theorem dX12_findComing_52 : decode cX12_findComing 52 = .ok (.return_, 1) := by decide +kernel
def bwX12_goesBy_0l : List Nat := [42, 182, 1, 37, 42, 3, 181, 1, 40, 3, 62, 3, 54, 4, 21, 4, 42, 180, 0, 85, 162, 0, 167, 29, 4, 42, 180, 0, 64, 21, 4, 46, 120, 128, 62, 42, 180, 0, 40, 42, 180, 0, 64, 21, 4, 46, 46, 54, 5, 42, 27, 28, 29, 42, 180, 0, 85, 4, 100, 21, 4, 100, 182, 0, 121, 54]
theorem bwX12_goesBy_0 : ((cX12_goesBy.data.toList.drop 0).take 66).map UInt8.toNat = bwX12_goesBy_0l := by decide +kernel
theorem dX12_goesBy_0 : decode cX12_goesBy 0 = .ok (.aload_n 0, 1) := bq_o42 (bq_of bwX12_goesBy_0 0 (by decide +kernel))
theorem dX12_goesBy_1 : decode cX12_goesBy 1 = .ok (.invokevirtual 293, 3) := bq_o182 (a := 1) (b := 37) (bq_3 bwX12_goesBy_0 1 (by decide +kernel)) rfl
theorem dX12_goesBy_4 : decode cX12_goesBy 4 = .ok (.aload_n 0, 1) := bq_o42 (bq_of bwX12_goesBy_0 4 (by decide +kernel))
theorem dX12_goesBy_5 : decode cX12_goesBy 5 = .ok (.iconst 0, 1) := bq_o3 (bq_of bwX12_goesBy_0 5 (by decide +kernel))
theorem dX12_goesBy_6 : decode cX12_goesBy 6 = .ok (.putfield 296, 3) := bq_o181 (a := 1) (b := 40) (bq_3 bwX12_goesBy_0 6 (by decide +kernel)) rfl
theorem dX12_goesBy_9 : decode cX12_goesBy 9 = .ok (.iconst 0, 1) := bq_o3 (bq_of bwX12_goesBy_0 9 (by decide +kernel))
theorem dX12_goesBy_10 : decode cX12_goesBy 10 = .ok (.istore_n 3, 1) := bq_o62 (bq_of bwX12_goesBy_0 10 (by decide +kernel))
theorem dX12_goesBy_11 : decode cX12_goesBy 11 = .ok (.iconst 0, 1) := bq_o3 (bq_of bwX12_goesBy_0 11 (by decide +kernel))
theorem dX12_goesBy_12 : decode cX12_goesBy 12 = .ok (.istore 4, 2) := bq_o54 (a := 4) (bq_2 bwX12_goesBy_0 12 (by decide +kernel)) rfl
theorem dX12_goesBy_14 : decode cX12_goesBy 14 = .ok (.iload 4, 2) := bq_o21 (a := 4) (bq_2 bwX12_goesBy_0 14 (by decide +kernel)) rfl
theorem dX12_goesBy_16 : decode cX12_goesBy 16 = .ok (.aload_n 0, 1) := bq_o42 (bq_of bwX12_goesBy_0 16 (by decide +kernel))
theorem dX12_goesBy_17 : decode cX12_goesBy 17 = .ok (.getfield 85, 3) := bq_o180 (a := 0) (b := 85) (bq_3 bwX12_goesBy_0 17 (by decide +kernel)) rfl
theorem dX12_goesBy_20 : decode cX12_goesBy 20 = .ok (.if_icmp .ge 167, 3) := bq_o162 (a := 0) (b := 167) (bq_3 bwX12_goesBy_0 20 (by decide +kernel)) (by decide +kernel)
theorem dX12_goesBy_23 : decode cX12_goesBy 23 = .ok (.iload_n 3, 1) := bq_o29 (bq_of bwX12_goesBy_0 23 (by decide +kernel))
theorem dX12_goesBy_24 : decode cX12_goesBy 24 = .ok (.iconst 1, 1) := bq_o4 (bq_of bwX12_goesBy_0 24 (by decide +kernel))
theorem dX12_goesBy_25 : decode cX12_goesBy 25 = .ok (.aload_n 0, 1) := bq_o42 (bq_of bwX12_goesBy_0 25 (by decide +kernel))
theorem dX12_goesBy_26 : decode cX12_goesBy 26 = .ok (.getfield 64, 3) := bq_o180 (a := 0) (b := 64) (bq_3 bwX12_goesBy_0 26 (by decide +kernel)) rfl
theorem dX12_goesBy_29 : decode cX12_goesBy 29 = .ok (.iload 4, 2) := bq_o21 (a := 4) (bq_2 bwX12_goesBy_0 29 (by decide +kernel)) rfl
theorem dX12_goesBy_31 : decode cX12_goesBy 31 = .ok (.iaload, 1) := bq_o46 (bq_of bwX12_goesBy_0 31 (by decide +kernel))
theorem dX12_goesBy_32 : decode cX12_goesBy 32 = .ok (.ishl, 1) := bq_o120 (bq_of bwX12_goesBy_0 32 (by decide +kernel))
theorem dX12_goesBy_33 : decode cX12_goesBy 33 = .ok (.ior, 1) := bq_o128 (bq_of bwX12_goesBy_0 33 (by decide +kernel))
theorem dX12_goesBy_34 : decode cX12_goesBy 34 = .ok (.istore_n 3, 1) := bq_o62 (bq_of bwX12_goesBy_0 34 (by decide +kernel))
theorem dX12_goesBy_35 : decode cX12_goesBy 35 = .ok (.aload_n 0, 1) := bq_o42 (bq_of bwX12_goesBy_0 35 (by decide +kernel))
theorem dX12_goesBy_36 : decode cX12_goesBy 36 = .ok (.getfield 40, 3) := bq_o180 (a := 0) (b := 40) (bq_3 bwX12_goesBy_0 36 (by decide +kernel)) rfl
theorem dX12_goesBy_39 : decode cX12_goesBy 39 = .ok (.aload_n 0, 1) := bq_o42 (bq_of bwX12_goesBy_0 39 (by decide +kernel))
theorem dX12_goesBy_40 : decode cX12_goesBy 40 = .ok (.getfield 64, 3) := bq_o180 (a := 0) (b := 64) (bq_3 bwX12_goesBy_0 40 (by decide +kernel)) rfl
theorem dX12_goesBy_43 : decode cX12_goesBy 43 = .ok (.iload 4, 2) := bq_o21 (a := 4) (bq_2 bwX12_goesBy_0 43 (by decide +kernel)) rfl
theorem dX12_goesBy_45 : decode cX12_goesBy 45 = .ok (.iaload, 1) := bq_o46 (bq_of bwX12_goesBy_0 45 (by decide +kernel))
theorem dX12_goesBy_46 : decode cX12_goesBy 46 = .ok (.iaload, 1) := bq_o46 (bq_of bwX12_goesBy_0 46 (by decide +kernel))
theorem dX12_goesBy_47 : decode cX12_goesBy 47 = .ok (.istore 5, 2) := bq_o54 (a := 5) (bq_2 bwX12_goesBy_0 47 (by decide +kernel)) rfl
theorem dX12_goesBy_49 : decode cX12_goesBy 49 = .ok (.aload_n 0, 1) := bq_o42 (bq_of bwX12_goesBy_0 49 (by decide +kernel))
theorem dX12_goesBy_50 : decode cX12_goesBy 50 = .ok (.iload_n 1, 1) := bq_o27 (bq_of bwX12_goesBy_0 50 (by decide +kernel))
theorem dX12_goesBy_51 : decode cX12_goesBy 51 = .ok (.iload_n 2, 1) := bq_o28 (bq_of bwX12_goesBy_0 51 (by decide +kernel))
theorem dX12_goesBy_52 : decode cX12_goesBy 52 = .ok (.iload_n 3, 1) := bq_o29 (bq_of bwX12_goesBy_0 52 (by decide +kernel))
theorem dX12_goesBy_53 : decode cX12_goesBy 53 = .ok (.aload_n 0, 1) := bq_o42 (bq_of bwX12_goesBy_0 53 (by decide +kernel))
theorem dX12_goesBy_54 : decode cX12_goesBy 54 = .ok (.getfield 85, 3) := bq_o180 (a := 0) (b := 85) (bq_3 bwX12_goesBy_0 54 (by decide +kernel)) rfl
theorem dX12_goesBy_57 : decode cX12_goesBy 57 = .ok (.iconst 1, 1) := bq_o4 (bq_of bwX12_goesBy_0 57 (by decide +kernel))
theorem dX12_goesBy_58 : decode cX12_goesBy 58 = .ok (.isub, 1) := bq_o100 (bq_of bwX12_goesBy_0 58 (by decide +kernel))
theorem dX12_goesBy_59 : decode cX12_goesBy 59 = .ok (.iload 4, 2) := bq_o21 (a := 4) (bq_2 bwX12_goesBy_0 59 (by decide +kernel)) rfl
theorem dX12_goesBy_61 : decode cX12_goesBy 61 = .ok (.isub, 1) := bq_o100 (bq_of bwX12_goesBy_0 61 (by decide +kernel))
theorem dX12_goesBy_62 : decode cX12_goesBy 62 = .ok (.invokevirtual 121, 3) := bq_o182 (a := 0) (b := 121) (bq_3 bwX12_goesBy_0 62 (by decide +kernel)) rfl
def bwX12_goesBy_64l : List Nat := [121, 54, 6, 21, 6, 153, 0, 112, 42, 180, 0, 67, 42, 89, 180, 1, 40, 90, 4, 96, 181, 1, 40, 21, 6, 79, 29, 21, 6, 2, 130, 126, 62, 3, 54, 7, 21, 7, 42, 180, 0, 85, 162, 0, 54, 42, 180, 0, 70, 21, 7, 21, 6, 21, 7, 184, 0, 151, 153, 0, 24, 42, 180, 0, 43, 21]
theorem bwX12_goesBy_64 : ((cX12_goesBy.data.toList.drop 64).take 66).map UInt8.toNat = bwX12_goesBy_64l := by decide +kernel
theorem dX12_goesBy_65 : decode cX12_goesBy 65 = .ok (.istore 6, 2) := bq_o54 (a := 6) (bq_2 bwX12_goesBy_64 1 (by decide +kernel)) rfl
theorem dX12_goesBy_67 : decode cX12_goesBy 67 = .ok (.iload 6, 2) := bq_o21 (a := 6) (bq_2 bwX12_goesBy_64 3 (by decide +kernel)) rfl
theorem dX12_goesBy_69 : decode cX12_goesBy 69 = .ok (.ifCond .eq 112, 3) := bq_o153 (a := 0) (b := 112) (bq_3 bwX12_goesBy_64 5 (by decide +kernel)) (by decide +kernel)
theorem dX12_goesBy_72 : decode cX12_goesBy 72 = .ok (.aload_n 0, 1) := bq_o42 (bq_of bwX12_goesBy_64 8 (by decide +kernel))
theorem dX12_goesBy_73 : decode cX12_goesBy 73 = .ok (.getfield 67, 3) := bq_o180 (a := 0) (b := 67) (bq_3 bwX12_goesBy_64 9 (by decide +kernel)) rfl
theorem dX12_goesBy_76 : decode cX12_goesBy 76 = .ok (.aload_n 0, 1) := bq_o42 (bq_of bwX12_goesBy_64 12 (by decide +kernel))
theorem dX12_goesBy_77 : decode cX12_goesBy 77 = .ok (.dup, 1) := bq_o89 (bq_of bwX12_goesBy_64 13 (by decide +kernel))
theorem dX12_goesBy_78 : decode cX12_goesBy 78 = .ok (.getfield 296, 3) := bq_o180 (a := 1) (b := 40) (bq_3 bwX12_goesBy_64 14 (by decide +kernel)) rfl
theorem dX12_goesBy_81 : decode cX12_goesBy 81 = .ok (.dup_x1, 1) := bq_o90 (bq_of bwX12_goesBy_64 17 (by decide +kernel))
theorem dX12_goesBy_82 : decode cX12_goesBy 82 = .ok (.iconst 1, 1) := bq_o4 (bq_of bwX12_goesBy_64 18 (by decide +kernel))
theorem dX12_goesBy_83 : decode cX12_goesBy 83 = .ok (.iadd, 1) := bq_o96 (bq_of bwX12_goesBy_64 19 (by decide +kernel))
theorem dX12_goesBy_84 : decode cX12_goesBy 84 = .ok (.putfield 296, 3) := bq_o181 (a := 1) (b := 40) (bq_3 bwX12_goesBy_64 20 (by decide +kernel)) rfl
theorem dX12_goesBy_87 : decode cX12_goesBy 87 = .ok (.iload 6, 2) := bq_o21 (a := 6) (bq_2 bwX12_goesBy_64 23 (by decide +kernel)) rfl
theorem dX12_goesBy_89 : decode cX12_goesBy 89 = .ok (.iastore, 1) := bq_o79 (bq_of bwX12_goesBy_64 25 (by decide +kernel))
theorem dX12_goesBy_90 : decode cX12_goesBy 90 = .ok (.iload_n 3, 1) := bq_o29 (bq_of bwX12_goesBy_64 26 (by decide +kernel))
theorem dX12_goesBy_91 : decode cX12_goesBy 91 = .ok (.iload 6, 2) := bq_o21 (a := 6) (bq_2 bwX12_goesBy_64 27 (by decide +kernel)) rfl
theorem dX12_goesBy_93 : decode cX12_goesBy 93 = .ok (.iconst (-1), 1) := bq_o2 (bq_of bwX12_goesBy_64 29 (by decide +kernel))
theorem dX12_goesBy_94 : decode cX12_goesBy 94 = .ok (.ixor, 1) := bq_o130 (bq_of bwX12_goesBy_64 30 (by decide +kernel))
theorem dX12_goesBy_95 : decode cX12_goesBy 95 = .ok (.iand, 1) := bq_o126 (bq_of bwX12_goesBy_64 31 (by decide +kernel))
theorem dX12_goesBy_96 : decode cX12_goesBy 96 = .ok (.istore_n 3, 1) := bq_o62 (bq_of bwX12_goesBy_64 32 (by decide +kernel))
theorem dX12_goesBy_97 : decode cX12_goesBy 97 = .ok (.iconst 0, 1) := bq_o3 (bq_of bwX12_goesBy_64 33 (by decide +kernel))
theorem dX12_goesBy_98 : decode cX12_goesBy 98 = .ok (.istore 7, 2) := bq_o54 (a := 7) (bq_2 bwX12_goesBy_64 34 (by decide +kernel)) rfl
theorem dX12_goesBy_100 : decode cX12_goesBy 100 = .ok (.iload 7, 2) := bq_o21 (a := 7) (bq_2 bwX12_goesBy_64 36 (by decide +kernel)) rfl
theorem dX12_goesBy_102 : decode cX12_goesBy 102 = .ok (.aload_n 0, 1) := bq_o42 (bq_of bwX12_goesBy_64 38 (by decide +kernel))
theorem dX12_goesBy_103 : decode cX12_goesBy 103 = .ok (.getfield 85, 3) := bq_o180 (a := 0) (b := 85) (bq_3 bwX12_goesBy_64 39 (by decide +kernel)) rfl
theorem dX12_goesBy_106 : decode cX12_goesBy 106 = .ok (.if_icmp .ge 54, 3) := bq_o162 (a := 0) (b := 54) (bq_3 bwX12_goesBy_64 42 (by decide +kernel)) (by decide +kernel)
theorem dX12_goesBy_109 : decode cX12_goesBy 109 = .ok (.aload_n 0, 1) := bq_o42 (bq_of bwX12_goesBy_64 45 (by decide +kernel))
theorem dX12_goesBy_110 : decode cX12_goesBy 110 = .ok (.getfield 70, 3) := bq_o180 (a := 0) (b := 70) (bq_3 bwX12_goesBy_64 46 (by decide +kernel)) rfl
theorem dX12_goesBy_113 : decode cX12_goesBy 113 = .ok (.iload 7, 2) := bq_o21 (a := 7) (bq_2 bwX12_goesBy_64 49 (by decide +kernel)) rfl
theorem dX12_goesBy_115 : decode cX12_goesBy 115 = .ok (.iload 6, 2) := bq_o21 (a := 6) (bq_2 bwX12_goesBy_64 51 (by decide +kernel)) rfl
theorem dX12_goesBy_117 : decode cX12_goesBy 117 = .ok (.iload 7, 2) := bq_o21 (a := 7) (bq_2 bwX12_goesBy_64 53 (by decide +kernel)) rfl
theorem dX12_goesBy_119 : decode cX12_goesBy 119 = .ok (.invokestatic 151, 3) := bq_o184 (a := 0) (b := 151) (bq_3 bwX12_goesBy_64 55 (by decide +kernel)) rfl
theorem dX12_goesBy_122 : decode cX12_goesBy 122 = .ok (.ifCond .eq 24, 3) := bq_o153 (a := 0) (b := 24) (bq_3 bwX12_goesBy_64 58 (by decide +kernel)) (by decide +kernel)
theorem dX12_goesBy_125 : decode cX12_goesBy 125 = .ok (.aload_n 0, 1) := bq_o42 (bq_of bwX12_goesBy_64 61 (by decide +kernel))
theorem dX12_goesBy_126 : decode cX12_goesBy 126 = .ok (.getfield 43, 3) := bq_o180 (a := 0) (b := 43) (bq_3 bwX12_goesBy_64 62 (by decide +kernel)) rfl
def bwX12_goesBy_128l : List Nat := [43, 21, 7, 46, 21, 5, 42, 180, 0, 40, 21, 7, 46, 100, 104, 167, 0, 10, 42, 180, 0, 70, 21, 7, 46, 79, 132, 7, 1, 167, 255, 199, 42, 27, 28, 29, 42, 180, 0, 85, 4, 100, 21, 4, 100, 182, 0, 121, 54, 6, 167, 255, 145, 132, 4, 1, 167, 255, 86, 42, 29, 181, 1, 43, 3, 54]
theorem bwX12_goesBy_128 : ((cX12_goesBy.data.toList.drop 128).take 66).map UInt8.toNat = bwX12_goesBy_128l := by decide +kernel
theorem dX12_goesBy_129 : decode cX12_goesBy 129 = .ok (.iload 7, 2) := bq_o21 (a := 7) (bq_2 bwX12_goesBy_128 1 (by decide +kernel)) rfl
theorem dX12_goesBy_131 : decode cX12_goesBy 131 = .ok (.iaload, 1) := bq_o46 (bq_of bwX12_goesBy_128 3 (by decide +kernel))
theorem dX12_goesBy_132 : decode cX12_goesBy 132 = .ok (.iload 5, 2) := bq_o21 (a := 5) (bq_2 bwX12_goesBy_128 4 (by decide +kernel)) rfl
theorem dX12_goesBy_134 : decode cX12_goesBy 134 = .ok (.aload_n 0, 1) := bq_o42 (bq_of bwX12_goesBy_128 6 (by decide +kernel))
theorem dX12_goesBy_135 : decode cX12_goesBy 135 = .ok (.getfield 40, 3) := bq_o180 (a := 0) (b := 40) (bq_3 bwX12_goesBy_128 7 (by decide +kernel)) rfl
theorem dX12_goesBy_138 : decode cX12_goesBy 138 = .ok (.iload 7, 2) := bq_o21 (a := 7) (bq_2 bwX12_goesBy_128 10 (by decide +kernel)) rfl
theorem dX12_goesBy_140 : decode cX12_goesBy 140 = .ok (.iaload, 1) := bq_o46 (bq_of bwX12_goesBy_128 12 (by decide +kernel))
theorem dX12_goesBy_141 : decode cX12_goesBy 141 = .ok (.isub, 1) := bq_o100 (bq_of bwX12_goesBy_128 13 (by decide +kernel))
theorem dX12_goesBy_142 : decode cX12_goesBy 142 = .ok (.imul, 1) := bq_o104 (bq_of bwX12_goesBy_128 14 (by decide +kernel))
theorem dX12_goesBy_143 : decode cX12_goesBy 143 = .ok (.goto 10, 3) := bq_o167 (a := 0) (b := 10) (bq_3 bwX12_goesBy_128 15 (by decide +kernel)) (by decide +kernel)
theorem dX12_goesBy_146 : decode cX12_goesBy 146 = .ok (.aload_n 0, 1) := bq_o42 (bq_of bwX12_goesBy_128 18 (by decide +kernel))
theorem dX12_goesBy_147 : decode cX12_goesBy 147 = .ok (.getfield 70, 3) := bq_o180 (a := 0) (b := 70) (bq_3 bwX12_goesBy_128 19 (by decide +kernel)) rfl
theorem dX12_goesBy_150 : decode cX12_goesBy 150 = .ok (.iload 7, 2) := bq_o21 (a := 7) (bq_2 bwX12_goesBy_128 22 (by decide +kernel)) rfl
theorem dX12_goesBy_152 : decode cX12_goesBy 152 = .ok (.iaload, 1) := bq_o46 (bq_of bwX12_goesBy_128 24 (by decide +kernel))
theorem dX12_goesBy_153 : decode cX12_goesBy 153 = .ok (.iastore, 1) := bq_o79 (bq_of bwX12_goesBy_128 25 (by decide +kernel))
theorem dX12_goesBy_154 : decode cX12_goesBy 154 = .ok (.iinc 7 1, 3) := bq_o132 (a := 7) (b := 1) (bq_3 bwX12_goesBy_128 26 (by decide +kernel)) rfl (by decide +kernel)
theorem dX12_goesBy_157 : decode cX12_goesBy 157 = .ok (.goto (-57), 3) := bq_o167 (a := 255) (b := 199) (bq_3 bwX12_goesBy_128 29 (by decide +kernel)) (by decide +kernel)
theorem dX12_goesBy_160 : decode cX12_goesBy 160 = .ok (.aload_n 0, 1) := bq_o42 (bq_of bwX12_goesBy_128 32 (by decide +kernel))
theorem dX12_goesBy_161 : decode cX12_goesBy 161 = .ok (.iload_n 1, 1) := bq_o27 (bq_of bwX12_goesBy_128 33 (by decide +kernel))
theorem dX12_goesBy_162 : decode cX12_goesBy 162 = .ok (.iload_n 2, 1) := bq_o28 (bq_of bwX12_goesBy_128 34 (by decide +kernel))
theorem dX12_goesBy_163 : decode cX12_goesBy 163 = .ok (.iload_n 3, 1) := bq_o29 (bq_of bwX12_goesBy_128 35 (by decide +kernel))
theorem dX12_goesBy_164 : decode cX12_goesBy 164 = .ok (.aload_n 0, 1) := bq_o42 (bq_of bwX12_goesBy_128 36 (by decide +kernel))
theorem dX12_goesBy_165 : decode cX12_goesBy 165 = .ok (.getfield 85, 3) := bq_o180 (a := 0) (b := 85) (bq_3 bwX12_goesBy_128 37 (by decide +kernel)) rfl
theorem dX12_goesBy_168 : decode cX12_goesBy 168 = .ok (.iconst 1, 1) := bq_o4 (bq_of bwX12_goesBy_128 40 (by decide +kernel))
theorem dX12_goesBy_169 : decode cX12_goesBy 169 = .ok (.isub, 1) := bq_o100 (bq_of bwX12_goesBy_128 41 (by decide +kernel))
theorem dX12_goesBy_170 : decode cX12_goesBy 170 = .ok (.iload 4, 2) := bq_o21 (a := 4) (bq_2 bwX12_goesBy_128 42 (by decide +kernel)) rfl
theorem dX12_goesBy_172 : decode cX12_goesBy 172 = .ok (.isub, 1) := bq_o100 (bq_of bwX12_goesBy_128 44 (by decide +kernel))
theorem dX12_goesBy_173 : decode cX12_goesBy 173 = .ok (.invokevirtual 121, 3) := bq_o182 (a := 0) (b := 121) (bq_3 bwX12_goesBy_128 45 (by decide +kernel)) rfl
theorem dX12_goesBy_176 : decode cX12_goesBy 176 = .ok (.istore 6, 2) := bq_o54 (a := 6) (bq_2 bwX12_goesBy_128 48 (by decide +kernel)) rfl
theorem dX12_goesBy_178 : decode cX12_goesBy 178 = .ok (.goto (-111), 3) := bq_o167 (a := 255) (b := 145) (bq_3 bwX12_goesBy_128 50 (by decide +kernel)) (by decide +kernel)
theorem dX12_goesBy_181 : decode cX12_goesBy 181 = .ok (.iinc 4 1, 3) := bq_o132 (a := 4) (b := 1) (bq_3 bwX12_goesBy_128 53 (by decide +kernel)) rfl (by decide +kernel)
theorem dX12_goesBy_184 : decode cX12_goesBy 184 = .ok (.goto (-170), 3) := bq_o167 (a := 255) (b := 86) (bq_3 bwX12_goesBy_128 56 (by decide +kernel)) (by decide +kernel)
theorem dX12_goesBy_187 : decode cX12_goesBy 187 = .ok (.aload_n 0, 1) := bq_o42 (bq_of bwX12_goesBy_128 59 (by decide +kernel))
theorem dX12_goesBy_188 : decode cX12_goesBy 188 = .ok (.iload_n 3, 1) := bq_o29 (bq_of bwX12_goesBy_128 60 (by decide +kernel))
theorem dX12_goesBy_189 : decode cX12_goesBy 189 = .ok (.putfield 299, 3) := bq_o181 (a := 1) (b := 43) (bq_3 bwX12_goesBy_128 61 (by decide +kernel)) rfl
def bwX12_goesBy_192l : List Nat := [3, 54, 4, 21, 4, 42, 180, 0, 85, 162, 0, 53, 42, 180, 0, 70, 21, 4, 29, 21, 4, 184, 0, 151, 153, 0, 24, 42, 180, 0, 43, 21, 4, 46, 16, 24, 42, 180, 0, 40, 21, 4, 46, 100, 104, 167, 0, 10, 42, 180, 0, 70, 21, 4, 46, 79, 132, 4, 1, 167, 255, 200, 177]
theorem bwX12_goesBy_192 : ((cX12_goesBy.data.toList.drop 192).take 63).map UInt8.toNat = bwX12_goesBy_192l := by decide +kernel
theorem dX12_goesBy_192 : decode cX12_goesBy 192 = .ok (.iconst 0, 1) := bq_o3 (bq_of bwX12_goesBy_192 0 (by decide +kernel))
theorem dX12_goesBy_193 : decode cX12_goesBy 193 = .ok (.istore 4, 2) := bq_o54 (a := 4) (bq_2 bwX12_goesBy_192 1 (by decide +kernel)) rfl
theorem dX12_goesBy_195 : decode cX12_goesBy 195 = .ok (.iload 4, 2) := bq_o21 (a := 4) (bq_2 bwX12_goesBy_192 3 (by decide +kernel)) rfl
theorem dX12_goesBy_197 : decode cX12_goesBy 197 = .ok (.aload_n 0, 1) := bq_o42 (bq_of bwX12_goesBy_192 5 (by decide +kernel))
theorem dX12_goesBy_198 : decode cX12_goesBy 198 = .ok (.getfield 85, 3) := bq_o180 (a := 0) (b := 85) (bq_3 bwX12_goesBy_192 6 (by decide +kernel)) rfl
theorem dX12_goesBy_201 : decode cX12_goesBy 201 = .ok (.if_icmp .ge 53, 3) := bq_o162 (a := 0) (b := 53) (bq_3 bwX12_goesBy_192 9 (by decide +kernel)) (by decide +kernel)
theorem dX12_goesBy_204 : decode cX12_goesBy 204 = .ok (.aload_n 0, 1) := bq_o42 (bq_of bwX12_goesBy_192 12 (by decide +kernel))
theorem dX12_goesBy_205 : decode cX12_goesBy 205 = .ok (.getfield 70, 3) := bq_o180 (a := 0) (b := 70) (bq_3 bwX12_goesBy_192 13 (by decide +kernel)) rfl
theorem dX12_goesBy_208 : decode cX12_goesBy 208 = .ok (.iload 4, 2) := bq_o21 (a := 4) (bq_2 bwX12_goesBy_192 16 (by decide +kernel)) rfl
theorem dX12_goesBy_210 : decode cX12_goesBy 210 = .ok (.iload_n 3, 1) := bq_o29 (bq_of bwX12_goesBy_192 18 (by decide +kernel))
theorem dX12_goesBy_211 : decode cX12_goesBy 211 = .ok (.iload 4, 2) := bq_o21 (a := 4) (bq_2 bwX12_goesBy_192 19 (by decide +kernel)) rfl
theorem dX12_goesBy_213 : decode cX12_goesBy 213 = .ok (.invokestatic 151, 3) := bq_o184 (a := 0) (b := 151) (bq_3 bwX12_goesBy_192 21 (by decide +kernel)) rfl
theorem dX12_goesBy_216 : decode cX12_goesBy 216 = .ok (.ifCond .eq 24, 3) := bq_o153 (a := 0) (b := 24) (bq_3 bwX12_goesBy_192 24 (by decide +kernel)) (by decide +kernel)
theorem dX12_goesBy_219 : decode cX12_goesBy 219 = .ok (.aload_n 0, 1) := bq_o42 (bq_of bwX12_goesBy_192 27 (by decide +kernel))
theorem dX12_goesBy_220 : decode cX12_goesBy 220 = .ok (.getfield 43, 3) := bq_o180 (a := 0) (b := 43) (bq_3 bwX12_goesBy_192 28 (by decide +kernel)) rfl
theorem dX12_goesBy_223 : decode cX12_goesBy 223 = .ok (.iload 4, 2) := bq_o21 (a := 4) (bq_2 bwX12_goesBy_192 31 (by decide +kernel)) rfl
theorem dX12_goesBy_225 : decode cX12_goesBy 225 = .ok (.iaload, 1) := bq_o46 (bq_of bwX12_goesBy_192 33 (by decide +kernel))
theorem dX12_goesBy_226 : decode cX12_goesBy 226 = .ok (.bipush 24, 2) := bq_o16 (a := 24) (bq_2 bwX12_goesBy_192 34 (by decide +kernel)) (by decide +kernel)
theorem dX12_goesBy_228 : decode cX12_goesBy 228 = .ok (.aload_n 0, 1) := bq_o42 (bq_of bwX12_goesBy_192 36 (by decide +kernel))
theorem dX12_goesBy_229 : decode cX12_goesBy 229 = .ok (.getfield 40, 3) := bq_o180 (a := 0) (b := 40) (bq_3 bwX12_goesBy_192 37 (by decide +kernel)) rfl
theorem dX12_goesBy_232 : decode cX12_goesBy 232 = .ok (.iload 4, 2) := bq_o21 (a := 4) (bq_2 bwX12_goesBy_192 40 (by decide +kernel)) rfl
theorem dX12_goesBy_234 : decode cX12_goesBy 234 = .ok (.iaload, 1) := bq_o46 (bq_of bwX12_goesBy_192 42 (by decide +kernel))
theorem dX12_goesBy_235 : decode cX12_goesBy 235 = .ok (.isub, 1) := bq_o100 (bq_of bwX12_goesBy_192 43 (by decide +kernel))
theorem dX12_goesBy_236 : decode cX12_goesBy 236 = .ok (.imul, 1) := bq_o104 (bq_of bwX12_goesBy_192 44 (by decide +kernel))
theorem dX12_goesBy_237 : decode cX12_goesBy 237 = .ok (.goto 10, 3) := bq_o167 (a := 0) (b := 10) (bq_3 bwX12_goesBy_192 45 (by decide +kernel)) (by decide +kernel)
theorem dX12_goesBy_240 : decode cX12_goesBy 240 = .ok (.aload_n 0, 1) := bq_o42 (bq_of bwX12_goesBy_192 48 (by decide +kernel))
theorem dX12_goesBy_241 : decode cX12_goesBy 241 = .ok (.getfield 70, 3) := bq_o180 (a := 0) (b := 70) (bq_3 bwX12_goesBy_192 49 (by decide +kernel)) rfl
theorem dX12_goesBy_244 : decode cX12_goesBy 244 = .ok (.iload 4, 2) := bq_o21 (a := 4) (bq_2 bwX12_goesBy_192 52 (by decide +kernel)) rfl
theorem dX12_goesBy_246 : decode cX12_goesBy 246 = .ok (.iaload, 1) := bq_o46 (bq_of bwX12_goesBy_192 54 (by decide +kernel))
theorem dX12_goesBy_247 : decode cX12_goesBy 247 = .ok (.iastore, 1) := bq_o79 (bq_of bwX12_goesBy_192 55 (by decide +kernel))
theorem dX12_goesBy_248 : decode cX12_goesBy 248 = .ok (.iinc 4 1, 3) := bq_o132 (a := 4) (b := 1) (bq_3 bwX12_goesBy_192 56 (by decide +kernel)) rfl (by decide +kernel)
theorem dX12_goesBy_251 : decode cX12_goesBy 251 = .ok (.goto (-56), 3) := bq_o167 (a := 255) (b := 200) (bq_3 bwX12_goesBy_192 59 (by decide +kernel)) (by decide +kernel)
theorem dX12_goesBy_254 : decode cX12_goesBy 254 = .ok (.return_, 1) := bq_o177 (bq_of bwX12_goesBy_192 62 (by decide +kernel))
theorem dX12_waitedAll_0 : decode cX12_waitedAll 0 = .ok (.iconst 0, 1) := by decide +kernel
theorem dX12_waitedAll_1 : decode cX12_waitedAll 1 = .ok (.istore_n 1, 1) := by decide +kernel
theorem dX12_waitedAll_2 : decode cX12_waitedAll 2 = .ok (.iconst 0, 1) := by decide +kernel
theorem dX12_waitedAll_3 : decode cX12_waitedAll 3 = .ok (.istore_n 2, 1) := by decide +kernel
theorem dX12_waitedAll_4 : decode cX12_waitedAll 4 = .ok (.iload_n 2, 1) := by decide +kernel
theorem dX12_waitedAll_5 : decode cX12_waitedAll 5 = .ok (.aload_n 0, 1) := by decide +kernel
theorem dX12_waitedAll_6 : decode cX12_waitedAll 6 = .ok (.getfield 85, 3) := by decide +kernel
theorem dX12_waitedAll_9 : decode cX12_waitedAll 9 = .ok (.if_icmp .ge 18, 3) := by decide +kernel
theorem dX12_waitedAll_12 : decode cX12_waitedAll 12 = .ok (.iload_n 1, 1) := by decide +kernel
theorem dX12_waitedAll_13 : decode cX12_waitedAll 13 = .ok (.aload_n 0, 1) := by decide +kernel
theorem dX12_waitedAll_14 : decode cX12_waitedAll 14 = .ok (.getfield 70, 3) := by decide +kernel
theorem dX12_waitedAll_17 : decode cX12_waitedAll 17 = .ok (.iload_n 2, 1) := by decide +kernel
theorem dX12_waitedAll_18 : decode cX12_waitedAll 18 = .ok (.iaload, 1) := by decide +kernel
theorem dX12_waitedAll_19 : decode cX12_waitedAll 19 = .ok (.iadd, 1) := by decide +kernel
theorem dX12_waitedAll_20 : decode cX12_waitedAll 20 = .ok (.istore_n 1, 1) := by decide +kernel
theorem dX12_waitedAll_21 : decode cX12_waitedAll 21 = .ok (.iinc 2 1, 3) := by decide +kernel
theorem dX12_waitedAll_24 : decode cX12_waitedAll 24 = .ok (.goto (-20), 3) := by decide +kernel
theorem dX12_waitedAll_27 : decode cX12_waitedAll 27 = .ok (.iload_n 1, 1) := by decide +kernel
theorem dX12_waitedAll_28 : decode cX12_waitedAll 28 = .ok (.ireturn, 1) := by decide +kernel
theorem dX12_run_0 : decode cX12_run 0 = .ok (.aload_n 0, 1) := by decide +kernel
theorem dX12_run_1 : decode cX12_run 1 = .ok (.iload_n 1, 1) := by decide +kernel
theorem dX12_run_2 : decode cX12_run 2 = .ok (.invokevirtual 290, 3) := by decide +kernel
theorem dX12_run_5 : decode cX12_run 5 = .ok (.istore_n 2, 1) := by decide +kernel
theorem dX12_run_6 : decode cX12_run 6 = .ok (.iload_n 2, 1) := by decide +kernel
theorem dX12_run_7 : decode cX12_run 7 = .ok (.ifCond .eq 5, 3) := by decide +kernel
theorem dX12_run_10 : decode cX12_run 10 = .ok (.iload_n 2, 1) := by decide +kernel
theorem dX12_run_11 : decode cX12_run 11 = .ok (.ireturn, 1) := by decide +kernel
theorem dX12_run_12 : decode cX12_run 12 = .ok (.aload_n 0, 1) := by decide +kernel
theorem dX12_run_13 : decode cX12_run 13 = .ok (.aload_n 0, 1) := by decide +kernel
theorem dX12_run_14 : decode cX12_run 14 = .ok (.getfield 28, 3) := by decide +kernel
theorem dX12_run_17 : decode cX12_run 17 = .ok (.iload_n 1, 1) := by decide +kernel
theorem dX12_run_18 : decode cX12_run 18 = .ok (.iaload, 1) := by decide +kernel
theorem dX12_run_19 : decode cX12_run 19 = .ok (.aload_n 0, 1) := by decide +kernel
theorem dX12_run_20 : decode cX12_run 20 = .ok (.getfield 31, 3) := by decide +kernel
theorem dX12_run_23 : decode cX12_run 23 = .ok (.iload_n 1, 1) := by decide +kernel
theorem dX12_run_24 : decode cX12_run 24 = .ok (.iaload, 1) := by decide +kernel
theorem dX12_run_25 : decode cX12_run 25 = .ok (.invokevirtual 302, 3) := by decide +kernel
theorem dX12_run_28 : decode cX12_run 28 = .ok (.aload_n 0, 1) := by decide +kernel
theorem dX12_run_29 : decode cX12_run 29 = .ok (.getfield 296, 3) := by decide +kernel
theorem dX12_run_32 : decode cX12_run 32 = .ok (.ireturn, 1) := by decide +kernel
def bwX12_coach_0l : List Nat := [42, 27, 182, 1, 34, 62, 29, 153, 0, 5, 29, 172, 42, 42, 180, 0, 28, 27, 46, 42, 180, 0, 31, 27, 46, 182, 1, 46, 28, 133, 9, 42, 180, 1, 40, 4, 100, 133, 184, 0, 88, 153, 0, 12, 42, 180, 0, 67, 28, 46, 167, 0, 9, 42, 16, 251, 182, 0, 102, 172]
theorem bwX12_coach_0 : ((cX12_coach.data.toList.drop 0).take 60).map UInt8.toNat = bwX12_coach_0l := by decide +kernel
theorem dX12_coach_0 : decode cX12_coach 0 = .ok (.aload_n 0, 1) := bq_o42 (bq_of bwX12_coach_0 0 (by decide +kernel))
theorem dX12_coach_1 : decode cX12_coach 1 = .ok (.iload_n 1, 1) := bq_o27 (bq_of bwX12_coach_0 1 (by decide +kernel))
theorem dX12_coach_2 : decode cX12_coach 2 = .ok (.invokevirtual 290, 3) := bq_o182 (a := 1) (b := 34) (bq_3 bwX12_coach_0 2 (by decide +kernel)) rfl
theorem dX12_coach_5 : decode cX12_coach 5 = .ok (.istore_n 3, 1) := bq_o62 (bq_of bwX12_coach_0 5 (by decide +kernel))
theorem dX12_coach_6 : decode cX12_coach 6 = .ok (.iload_n 3, 1) := bq_o29 (bq_of bwX12_coach_0 6 (by decide +kernel))
theorem dX12_coach_7 : decode cX12_coach 7 = .ok (.ifCond .eq 5, 3) := bq_o153 (a := 0) (b := 5) (bq_3 bwX12_coach_0 7 (by decide +kernel)) (by decide +kernel)
theorem dX12_coach_10 : decode cX12_coach 10 = .ok (.iload_n 3, 1) := bq_o29 (bq_of bwX12_coach_0 10 (by decide +kernel))
theorem dX12_coach_11 : decode cX12_coach 11 = .ok (.ireturn, 1) := bq_o172 (bq_of bwX12_coach_0 11 (by decide +kernel))
theorem dX12_coach_12 : decode cX12_coach 12 = .ok (.aload_n 0, 1) := bq_o42 (bq_of bwX12_coach_0 12 (by decide +kernel))
theorem dX12_coach_13 : decode cX12_coach 13 = .ok (.aload_n 0, 1) := bq_o42 (bq_of bwX12_coach_0 13 (by decide +kernel))
theorem dX12_coach_14 : decode cX12_coach 14 = .ok (.getfield 28, 3) := bq_o180 (a := 0) (b := 28) (bq_3 bwX12_coach_0 14 (by decide +kernel)) rfl
theorem dX12_coach_17 : decode cX12_coach 17 = .ok (.iload_n 1, 1) := bq_o27 (bq_of bwX12_coach_0 17 (by decide +kernel))
theorem dX12_coach_18 : decode cX12_coach 18 = .ok (.iaload, 1) := bq_o46 (bq_of bwX12_coach_0 18 (by decide +kernel))
theorem dX12_coach_19 : decode cX12_coach 19 = .ok (.aload_n 0, 1) := bq_o42 (bq_of bwX12_coach_0 19 (by decide +kernel))
theorem dX12_coach_20 : decode cX12_coach 20 = .ok (.getfield 31, 3) := bq_o180 (a := 0) (b := 31) (bq_3 bwX12_coach_0 20 (by decide +kernel)) rfl
theorem dX12_coach_23 : decode cX12_coach 23 = .ok (.iload_n 1, 1) := bq_o27 (bq_of bwX12_coach_0 23 (by decide +kernel))
theorem dX12_coach_24 : decode cX12_coach 24 = .ok (.iaload, 1) := bq_o46 (bq_of bwX12_coach_0 24 (by decide +kernel))
theorem dX12_coach_25 : decode cX12_coach 25 = .ok (.invokevirtual 302, 3) := bq_o182 (a := 1) (b := 46) (bq_3 bwX12_coach_0 25 (by decide +kernel)) rfl
theorem dX12_coach_28 : decode cX12_coach 28 = .ok (.iload_n 2, 1) := bq_o28 (bq_of bwX12_coach_0 28 (by decide +kernel))
theorem dX12_coach_29 : decode cX12_coach 29 = .ok (.i2l, 1) := bq_o133 (bq_of bwX12_coach_0 29 (by decide +kernel))
theorem dX12_coach_30 : decode cX12_coach 30 = .ok (.lconst 0, 1) := bq_o9 (bq_of bwX12_coach_0 30 (by decide +kernel))
theorem dX12_coach_31 : decode cX12_coach 31 = .ok (.aload_n 0, 1) := bq_o42 (bq_of bwX12_coach_0 31 (by decide +kernel))
theorem dX12_coach_32 : decode cX12_coach 32 = .ok (.getfield 296, 3) := bq_o180 (a := 1) (b := 40) (bq_3 bwX12_coach_0 32 (by decide +kernel)) rfl
theorem dX12_coach_35 : decode cX12_coach 35 = .ok (.iconst 1, 1) := bq_o4 (bq_of bwX12_coach_0 35 (by decide +kernel))
theorem dX12_coach_36 : decode cX12_coach 36 = .ok (.isub, 1) := bq_o100 (bq_of bwX12_coach_0 36 (by decide +kernel))
theorem dX12_coach_37 : decode cX12_coach 37 = .ok (.i2l, 1) := bq_o133 (bq_of bwX12_coach_0 37 (by decide +kernel))
theorem dX12_coach_38 : decode cX12_coach 38 = .ok (.invokestatic 88, 3) := bq_o184 (a := 0) (b := 88) (bq_3 bwX12_coach_0 38 (by decide +kernel)) rfl
theorem dX12_coach_41 : decode cX12_coach 41 = .ok (.ifCond .eq 12, 3) := bq_o153 (a := 0) (b := 12) (bq_3 bwX12_coach_0 41 (by decide +kernel)) (by decide +kernel)
theorem dX12_coach_44 : decode cX12_coach 44 = .ok (.aload_n 0, 1) := bq_o42 (bq_of bwX12_coach_0 44 (by decide +kernel))
theorem dX12_coach_45 : decode cX12_coach 45 = .ok (.getfield 67, 3) := bq_o180 (a := 0) (b := 67) (bq_3 bwX12_coach_0 45 (by decide +kernel)) rfl
theorem dX12_coach_48 : decode cX12_coach 48 = .ok (.iload_n 2, 1) := bq_o28 (bq_of bwX12_coach_0 48 (by decide +kernel))
theorem dX12_coach_49 : decode cX12_coach 49 = .ok (.iaload, 1) := bq_o46 (bq_of bwX12_coach_0 49 (by decide +kernel))
theorem dX12_coach_50 : decode cX12_coach 50 = .ok (.goto 9, 3) := bq_o167 (a := 0) (b := 9) (bq_3 bwX12_coach_0 50 (by decide +kernel)) (by decide +kernel)
theorem dX12_coach_53 : decode cX12_coach 53 = .ok (.aload_n 0, 1) := bq_o42 (bq_of bwX12_coach_0 53 (by decide +kernel))
theorem dX12_coach_54 : decode cX12_coach 54 = .ok (.bipush (-5), 2) := bq_o16 (a := 251) (bq_2 bwX12_coach_0 54 (by decide +kernel)) (by decide +kernel)
theorem dX12_coach_56 : decode cX12_coach 56 = .ok (.invokevirtual 102, 3) := bq_o182 (a := 0) (b := 102) (bq_3 bwX12_coach_0 56 (by decide +kernel)) rfl
theorem dX12_coach_59 : decode cX12_coach 59 = .ok (.ireturn, 1) := bq_o172 (bq_of bwX12_coach_0 59 (by decide +kernel))
theorem dX12_left_0 : decode cX12_left 0 = .ok (.aload_n 0, 1) := by decide +kernel
theorem dX12_left_1 : decode cX12_left 1 = .ok (.iload_n 1, 1) := by decide +kernel
theorem dX12_left_2 : decode cX12_left 2 = .ok (.invokevirtual 290, 3) := by decide +kernel
theorem dX12_left_5 : decode cX12_left 5 = .ok (.istore_n 2, 1) := by decide +kernel
theorem dX12_left_6 : decode cX12_left 6 = .ok (.iload_n 2, 1) := by decide +kernel
theorem dX12_left_7 : decode cX12_left 7 = .ok (.ifCond .eq 5, 3) := by decide +kernel
theorem dX12_left_10 : decode cX12_left 10 = .ok (.iload_n 2, 1) := by decide +kernel
theorem dX12_left_11 : decode cX12_left 11 = .ok (.ireturn, 1) := by decide +kernel
theorem dX12_left_12 : decode cX12_left 12 = .ok (.aload_n 0, 1) := by decide +kernel
theorem dX12_left_13 : decode cX12_left 13 = .ok (.aload_n 0, 1) := by decide +kernel
theorem dX12_left_14 : decode cX12_left 14 = .ok (.getfield 28, 3) := by decide +kernel
theorem dX12_left_17 : decode cX12_left 17 = .ok (.iload_n 1, 1) := by decide +kernel
theorem dX12_left_18 : decode cX12_left 18 = .ok (.iaload, 1) := by decide +kernel
theorem dX12_left_19 : decode cX12_left 19 = .ok (.aload_n 0, 1) := by decide +kernel
theorem dX12_left_20 : decode cX12_left 20 = .ok (.getfield 31, 3) := by decide +kernel
theorem dX12_left_23 : decode cX12_left 23 = .ok (.iload_n 1, 1) := by decide +kernel
theorem dX12_left_24 : decode cX12_left 24 = .ok (.iaload, 1) := by decide +kernel
theorem dX12_left_25 : decode cX12_left 25 = .ok (.invokevirtual 302, 3) := by decide +kernel
theorem dX12_left_28 : decode cX12_left 28 = .ok (.aload_n 0, 1) := by decide +kernel
theorem dX12_left_29 : decode cX12_left 29 = .ok (.getfield 299, 3) := by decide +kernel
theorem dX12_left_32 : decode cX12_left 32 = .ok (.ireturn, 1) := by decide +kernel
def bwX12_waits_0l : List Nat := [27, 133, 9, 20, 0, 96, 184, 0, 88, 153, 0, 16, 28, 2, 159, 0, 18, 42, 28, 182, 0, 131, 154, 0, 10, 42, 16, 254, 182, 0, 102, 172, 42, 27, 182, 1, 34, 62, 29, 153, 0, 5, 29, 172, 42, 42, 180, 0, 28, 27, 46, 42, 180, 0, 31, 27, 46, 182, 1, 46, 28, 2, 160, 0, 10, 42]
theorem bwX12_waits_0 : ((cX12_waits.data.toList.drop 0).take 66).map UInt8.toNat = bwX12_waits_0l := by decide +kernel
theorem dX12_waits_0 : decode cX12_waits 0 = .ok (.iload_n 1, 1) := bq_o27 (bq_of bwX12_waits_0 0 (by decide +kernel))
theorem dX12_waits_1 : decode cX12_waits 1 = .ok (.i2l, 1) := bq_o133 (bq_of bwX12_waits_0 1 (by decide +kernel))
theorem dX12_waits_2 : decode cX12_waits 2 = .ok (.lconst 0, 1) := bq_o9 (bq_of bwX12_waits_0 2 (by decide +kernel))
theorem dX12_waits_3 : decode cX12_waits 3 = .ok (.ldc2_w 96, 3) := bq_o20 (a := 0) (b := 96) (bq_3 bwX12_waits_0 3 (by decide +kernel)) rfl
theorem dX12_waits_6 : decode cX12_waits 6 = .ok (.invokestatic 88, 3) := bq_o184 (a := 0) (b := 88) (bq_3 bwX12_waits_0 6 (by decide +kernel)) rfl
theorem dX12_waits_9 : decode cX12_waits 9 = .ok (.ifCond .eq 16, 3) := bq_o153 (a := 0) (b := 16) (bq_3 bwX12_waits_0 9 (by decide +kernel)) (by decide +kernel)
theorem dX12_waits_12 : decode cX12_waits 12 = .ok (.iload_n 2, 1) := bq_o28 (bq_of bwX12_waits_0 12 (by decide +kernel))
theorem dX12_waits_13 : decode cX12_waits 13 = .ok (.iconst (-1), 1) := bq_o2 (bq_of bwX12_waits_0 13 (by decide +kernel))
theorem dX12_waits_14 : decode cX12_waits 14 = .ok (.if_icmp .eq 18, 3) := bq_o159 (a := 0) (b := 18) (bq_3 bwX12_waits_0 14 (by decide +kernel)) (by decide +kernel)
theorem dX12_waits_17 : decode cX12_waits 17 = .ok (.aload_n 0, 1) := bq_o42 (bq_of bwX12_waits_0 17 (by decide +kernel))
theorem dX12_waits_18 : decode cX12_waits 18 = .ok (.iload_n 2, 1) := bq_o28 (bq_of bwX12_waits_0 18 (by decide +kernel))
theorem dX12_waits_19 : decode cX12_waits 19 = .ok (.invokevirtual 131, 3) := bq_o182 (a := 0) (b := 131) (bq_3 bwX12_waits_0 19 (by decide +kernel)) rfl
theorem dX12_waits_22 : decode cX12_waits 22 = .ok (.ifCond .ne 10, 3) := bq_o154 (a := 0) (b := 10) (bq_3 bwX12_waits_0 22 (by decide +kernel)) (by decide +kernel)
theorem dX12_waits_25 : decode cX12_waits 25 = .ok (.aload_n 0, 1) := bq_o42 (bq_of bwX12_waits_0 25 (by decide +kernel))
theorem dX12_waits_26 : decode cX12_waits 26 = .ok (.bipush (-2), 2) := bq_o16 (a := 254) (bq_2 bwX12_waits_0 26 (by decide +kernel)) (by decide +kernel)
theorem dX12_waits_28 : decode cX12_waits 28 = .ok (.invokevirtual 102, 3) := bq_o182 (a := 0) (b := 102) (bq_3 bwX12_waits_0 28 (by decide +kernel)) rfl
theorem dX12_waits_31 : decode cX12_waits 31 = .ok (.ireturn, 1) := bq_o172 (bq_of bwX12_waits_0 31 (by decide +kernel))
theorem dX12_waits_32 : decode cX12_waits 32 = .ok (.aload_n 0, 1) := bq_o42 (bq_of bwX12_waits_0 32 (by decide +kernel))
theorem dX12_waits_33 : decode cX12_waits 33 = .ok (.iload_n 1, 1) := bq_o27 (bq_of bwX12_waits_0 33 (by decide +kernel))
theorem dX12_waits_34 : decode cX12_waits 34 = .ok (.invokevirtual 290, 3) := bq_o182 (a := 1) (b := 34) (bq_3 bwX12_waits_0 34 (by decide +kernel)) rfl
theorem dX12_waits_37 : decode cX12_waits 37 = .ok (.istore_n 3, 1) := bq_o62 (bq_of bwX12_waits_0 37 (by decide +kernel))
theorem dX12_waits_38 : decode cX12_waits 38 = .ok (.iload_n 3, 1) := bq_o29 (bq_of bwX12_waits_0 38 (by decide +kernel))
theorem dX12_waits_39 : decode cX12_waits 39 = .ok (.ifCond .eq 5, 3) := bq_o153 (a := 0) (b := 5) (bq_3 bwX12_waits_0 39 (by decide +kernel)) (by decide +kernel)
theorem dX12_waits_42 : decode cX12_waits 42 = .ok (.iload_n 3, 1) := bq_o29 (bq_of bwX12_waits_0 42 (by decide +kernel))
theorem dX12_waits_43 : decode cX12_waits 43 = .ok (.ireturn, 1) := bq_o172 (bq_of bwX12_waits_0 43 (by decide +kernel))
theorem dX12_waits_44 : decode cX12_waits 44 = .ok (.aload_n 0, 1) := bq_o42 (bq_of bwX12_waits_0 44 (by decide +kernel))
theorem dX12_waits_45 : decode cX12_waits 45 = .ok (.aload_n 0, 1) := bq_o42 (bq_of bwX12_waits_0 45 (by decide +kernel))
theorem dX12_waits_46 : decode cX12_waits 46 = .ok (.getfield 28, 3) := bq_o180 (a := 0) (b := 28) (bq_3 bwX12_waits_0 46 (by decide +kernel)) rfl
theorem dX12_waits_49 : decode cX12_waits 49 = .ok (.iload_n 1, 1) := bq_o27 (bq_of bwX12_waits_0 49 (by decide +kernel))
theorem dX12_waits_50 : decode cX12_waits 50 = .ok (.iaload, 1) := bq_o46 (bq_of bwX12_waits_0 50 (by decide +kernel))
theorem dX12_waits_51 : decode cX12_waits 51 = .ok (.aload_n 0, 1) := bq_o42 (bq_of bwX12_waits_0 51 (by decide +kernel))
theorem dX12_waits_52 : decode cX12_waits 52 = .ok (.getfield 31, 3) := bq_o180 (a := 0) (b := 31) (bq_3 bwX12_waits_0 52 (by decide +kernel)) rfl
theorem dX12_waits_55 : decode cX12_waits 55 = .ok (.iload_n 1, 1) := bq_o27 (bq_of bwX12_waits_0 55 (by decide +kernel))
theorem dX12_waits_56 : decode cX12_waits 56 = .ok (.iaload, 1) := bq_o46 (bq_of bwX12_waits_0 56 (by decide +kernel))
theorem dX12_waits_57 : decode cX12_waits 57 = .ok (.invokevirtual 302, 3) := bq_o182 (a := 1) (b := 46) (bq_3 bwX12_waits_0 57 (by decide +kernel)) rfl
theorem dX12_waits_60 : decode cX12_waits 60 = .ok (.iload_n 2, 1) := bq_o28 (bq_of bwX12_waits_0 60 (by decide +kernel))
theorem dX12_waits_61 : decode cX12_waits 61 = .ok (.iconst (-1), 1) := bq_o2 (bq_of bwX12_waits_0 61 (by decide +kernel))
theorem dX12_waits_62 : decode cX12_waits 62 = .ok (.if_icmp .ne 10, 3) := bq_o160 (a := 0) (b := 10) (bq_3 bwX12_waits_0 62 (by decide +kernel)) (by decide +kernel)
def bwX12_waits_64l : List Nat := [10, 42, 182, 1, 49, 167, 0, 9, 42, 180, 0, 70, 28, 46, 172]
theorem bwX12_waits_64 : ((cX12_waits.data.toList.drop 64).take 15).map UInt8.toNat = bwX12_waits_64l := by decide +kernel
theorem dX12_waits_65 : decode cX12_waits 65 = .ok (.aload_n 0, 1) := bq_o42 (bq_of bwX12_waits_64 1 (by decide +kernel))
theorem dX12_waits_66 : decode cX12_waits 66 = .ok (.invokevirtual 305, 3) := bq_o182 (a := 1) (b := 49) (bq_3 bwX12_waits_64 2 (by decide +kernel)) rfl
theorem dX12_waits_69 : decode cX12_waits 69 = .ok (.goto 9, 3) := bq_o167 (a := 0) (b := 9) (bq_3 bwX12_waits_64 5 (by decide +kernel)) (by decide +kernel)
theorem dX12_waits_72 : decode cX12_waits 72 = .ok (.aload_n 0, 1) := bq_o42 (bq_of bwX12_waits_64 8 (by decide +kernel))
theorem dX12_waits_73 : decode cX12_waits 73 = .ok (.getfield 70, 3) := bq_o180 (a := 0) (b := 70) (bq_3 bwX12_waits_64 9 (by decide +kernel)) rfl
theorem dX12_waits_76 : decode cX12_waits 76 = .ok (.iload_n 2, 1) := bq_o28 (bq_of bwX12_waits_64 12 (by decide +kernel))
theorem dX12_waits_77 : decode cX12_waits 77 = .ok (.iaload, 1) := bq_o46 (bq_of bwX12_waits_64 13 (by decide +kernel))
theorem dX12_waits_78 : decode cX12_waits 78 = .ok (.ireturn, 1) := bq_o172 (bq_of bwX12_waits_64 14 (by decide +kernel))
def bwX12_leastFrom_0l : List Nat := [27, 16, 7, 120, 28, 128, 62, 42, 180, 0, 73, 29, 46, 155, 0, 10, 42, 180, 0, 73, 29, 46, 172, 27, 42, 180, 0, 85, 160, 0, 69, 3, 54, 4, 3, 54, 5, 21, 5, 42, 180, 0, 85, 162, 0, 48, 21, 4, 28, 21, 5, 184, 0, 151, 153, 0, 27, 16, 10, 42, 180, 0, 43, 21, 5, 46]
theorem bwX12_leastFrom_0 : ((cX12_leastFrom.data.toList.drop 0).take 66).map UInt8.toNat = bwX12_leastFrom_0l := by decide +kernel
theorem dX12_leastFrom_0 : decode cX12_leastFrom 0 = .ok (.iload_n 1, 1) := bq_o27 (bq_of bwX12_leastFrom_0 0 (by decide +kernel))
theorem dX12_leastFrom_1 : decode cX12_leastFrom 1 = .ok (.bipush 7, 2) := bq_o16 (a := 7) (bq_2 bwX12_leastFrom_0 1 (by decide +kernel)) (by decide +kernel)
theorem dX12_leastFrom_3 : decode cX12_leastFrom 3 = .ok (.ishl, 1) := bq_o120 (bq_of bwX12_leastFrom_0 3 (by decide +kernel))
theorem dX12_leastFrom_4 : decode cX12_leastFrom 4 = .ok (.iload_n 2, 1) := bq_o28 (bq_of bwX12_leastFrom_0 4 (by decide +kernel))
theorem dX12_leastFrom_5 : decode cX12_leastFrom 5 = .ok (.ior, 1) := bq_o128 (bq_of bwX12_leastFrom_0 5 (by decide +kernel))
theorem dX12_leastFrom_6 : decode cX12_leastFrom 6 = .ok (.istore_n 3, 1) := bq_o62 (bq_of bwX12_leastFrom_0 6 (by decide +kernel))
theorem dX12_leastFrom_7 : decode cX12_leastFrom 7 = .ok (.aload_n 0, 1) := bq_o42 (bq_of bwX12_leastFrom_0 7 (by decide +kernel))
theorem dX12_leastFrom_8 : decode cX12_leastFrom 8 = .ok (.getfield 73, 3) := bq_o180 (a := 0) (b := 73) (bq_3 bwX12_leastFrom_0 8 (by decide +kernel)) rfl
theorem dX12_leastFrom_11 : decode cX12_leastFrom 11 = .ok (.iload_n 3, 1) := bq_o29 (bq_of bwX12_leastFrom_0 11 (by decide +kernel))
theorem dX12_leastFrom_12 : decode cX12_leastFrom 12 = .ok (.iaload, 1) := bq_o46 (bq_of bwX12_leastFrom_0 12 (by decide +kernel))
theorem dX12_leastFrom_13 : decode cX12_leastFrom 13 = .ok (.ifCond .lt 10, 3) := bq_o155 (a := 0) (b := 10) (bq_3 bwX12_leastFrom_0 13 (by decide +kernel)) (by decide +kernel)
theorem dX12_leastFrom_16 : decode cX12_leastFrom 16 = .ok (.aload_n 0, 1) := bq_o42 (bq_of bwX12_leastFrom_0 16 (by decide +kernel))
theorem dX12_leastFrom_17 : decode cX12_leastFrom 17 = .ok (.getfield 73, 3) := bq_o180 (a := 0) (b := 73) (bq_3 bwX12_leastFrom_0 17 (by decide +kernel)) rfl
theorem dX12_leastFrom_20 : decode cX12_leastFrom 20 = .ok (.iload_n 3, 1) := bq_o29 (bq_of bwX12_leastFrom_0 20 (by decide +kernel))
theorem dX12_leastFrom_21 : decode cX12_leastFrom 21 = .ok (.iaload, 1) := bq_o46 (bq_of bwX12_leastFrom_0 21 (by decide +kernel))
theorem dX12_leastFrom_22 : decode cX12_leastFrom 22 = .ok (.ireturn, 1) := bq_o172 (bq_of bwX12_leastFrom_0 22 (by decide +kernel))
theorem dX12_leastFrom_23 : decode cX12_leastFrom 23 = .ok (.iload_n 1, 1) := bq_o27 (bq_of bwX12_leastFrom_0 23 (by decide +kernel))
theorem dX12_leastFrom_24 : decode cX12_leastFrom 24 = .ok (.aload_n 0, 1) := bq_o42 (bq_of bwX12_leastFrom_0 24 (by decide +kernel))
theorem dX12_leastFrom_25 : decode cX12_leastFrom 25 = .ok (.getfield 85, 3) := bq_o180 (a := 0) (b := 85) (bq_3 bwX12_leastFrom_0 25 (by decide +kernel)) rfl
theorem dX12_leastFrom_28 : decode cX12_leastFrom 28 = .ok (.if_icmp .ne 69, 3) := bq_o160 (a := 0) (b := 69) (bq_3 bwX12_leastFrom_0 28 (by decide +kernel)) (by decide +kernel)
theorem dX12_leastFrom_31 : decode cX12_leastFrom 31 = .ok (.iconst 0, 1) := bq_o3 (bq_of bwX12_leastFrom_0 31 (by decide +kernel))
theorem dX12_leastFrom_32 : decode cX12_leastFrom 32 = .ok (.istore 4, 2) := bq_o54 (a := 4) (bq_2 bwX12_leastFrom_0 32 (by decide +kernel)) rfl
theorem dX12_leastFrom_34 : decode cX12_leastFrom 34 = .ok (.iconst 0, 1) := bq_o3 (bq_of bwX12_leastFrom_0 34 (by decide +kernel))
theorem dX12_leastFrom_35 : decode cX12_leastFrom 35 = .ok (.istore 5, 2) := bq_o54 (a := 5) (bq_2 bwX12_leastFrom_0 35 (by decide +kernel)) rfl
theorem dX12_leastFrom_37 : decode cX12_leastFrom 37 = .ok (.iload 5, 2) := bq_o21 (a := 5) (bq_2 bwX12_leastFrom_0 37 (by decide +kernel)) rfl
theorem dX12_leastFrom_39 : decode cX12_leastFrom 39 = .ok (.aload_n 0, 1) := bq_o42 (bq_of bwX12_leastFrom_0 39 (by decide +kernel))
theorem dX12_leastFrom_40 : decode cX12_leastFrom 40 = .ok (.getfield 85, 3) := bq_o180 (a := 0) (b := 85) (bq_3 bwX12_leastFrom_0 40 (by decide +kernel)) rfl
theorem dX12_leastFrom_43 : decode cX12_leastFrom 43 = .ok (.if_icmp .ge 48, 3) := bq_o162 (a := 0) (b := 48) (bq_3 bwX12_leastFrom_0 43 (by decide +kernel)) (by decide +kernel)
theorem dX12_leastFrom_46 : decode cX12_leastFrom 46 = .ok (.iload 4, 2) := bq_o21 (a := 4) (bq_2 bwX12_leastFrom_0 46 (by decide +kernel)) rfl
theorem dX12_leastFrom_48 : decode cX12_leastFrom 48 = .ok (.iload_n 2, 1) := bq_o28 (bq_of bwX12_leastFrom_0 48 (by decide +kernel))
theorem dX12_leastFrom_49 : decode cX12_leastFrom 49 = .ok (.iload 5, 2) := bq_o21 (a := 5) (bq_2 bwX12_leastFrom_0 49 (by decide +kernel)) rfl
theorem dX12_leastFrom_51 : decode cX12_leastFrom 51 = .ok (.invokestatic 151, 3) := bq_o184 (a := 0) (b := 151) (bq_3 bwX12_leastFrom_0 51 (by decide +kernel)) rfl
theorem dX12_leastFrom_54 : decode cX12_leastFrom 54 = .ok (.ifCond .eq 27, 3) := bq_o153 (a := 0) (b := 27) (bq_3 bwX12_leastFrom_0 54 (by decide +kernel)) (by decide +kernel)
theorem dX12_leastFrom_57 : decode cX12_leastFrom 57 = .ok (.bipush 10, 2) := bq_o16 (a := 10) (bq_2 bwX12_leastFrom_0 57 (by decide +kernel)) (by decide +kernel)
theorem dX12_leastFrom_59 : decode cX12_leastFrom 59 = .ok (.aload_n 0, 1) := bq_o42 (bq_of bwX12_leastFrom_0 59 (by decide +kernel))
theorem dX12_leastFrom_60 : decode cX12_leastFrom 60 = .ok (.getfield 43, 3) := bq_o180 (a := 0) (b := 43) (bq_3 bwX12_leastFrom_0 60 (by decide +kernel)) rfl
theorem dX12_leastFrom_63 : decode cX12_leastFrom 63 = .ok (.iload 5, 2) := bq_o21 (a := 5) (bq_2 bwX12_leastFrom_0 63 (by decide +kernel)) rfl
def bwX12_leastFrom_64l : List Nat := [5, 46, 104, 16, 24, 42, 180, 0, 40, 21, 5, 46, 100, 104, 167, 0, 4, 3, 96, 54, 4, 132, 5, 1, 167, 255, 205, 132, 4, 9, 167, 0, 22, 42, 27, 4, 96, 28, 4, 42, 180, 0, 64, 27, 46, 120, 128, 182, 1, 52, 54, 4, 27, 154, 0, 7, 3, 167, 0, 16, 42, 180, 0, 40, 42, 180]
theorem bwX12_leastFrom_64 : ((cX12_leastFrom.data.toList.drop 64).take 66).map UInt8.toNat = bwX12_leastFrom_64l := by decide +kernel
theorem dX12_leastFrom_65 : decode cX12_leastFrom 65 = .ok (.iaload, 1) := bq_o46 (bq_of bwX12_leastFrom_64 1 (by decide +kernel))
theorem dX12_leastFrom_66 : decode cX12_leastFrom 66 = .ok (.imul, 1) := bq_o104 (bq_of bwX12_leastFrom_64 2 (by decide +kernel))
theorem dX12_leastFrom_67 : decode cX12_leastFrom 67 = .ok (.bipush 24, 2) := bq_o16 (a := 24) (bq_2 bwX12_leastFrom_64 3 (by decide +kernel)) (by decide +kernel)
theorem dX12_leastFrom_69 : decode cX12_leastFrom 69 = .ok (.aload_n 0, 1) := bq_o42 (bq_of bwX12_leastFrom_64 5 (by decide +kernel))
theorem dX12_leastFrom_70 : decode cX12_leastFrom 70 = .ok (.getfield 40, 3) := bq_o180 (a := 0) (b := 40) (bq_3 bwX12_leastFrom_64 6 (by decide +kernel)) rfl
theorem dX12_leastFrom_73 : decode cX12_leastFrom 73 = .ok (.iload 5, 2) := bq_o21 (a := 5) (bq_2 bwX12_leastFrom_64 9 (by decide +kernel)) rfl
theorem dX12_leastFrom_75 : decode cX12_leastFrom 75 = .ok (.iaload, 1) := bq_o46 (bq_of bwX12_leastFrom_64 11 (by decide +kernel))
theorem dX12_leastFrom_76 : decode cX12_leastFrom 76 = .ok (.isub, 1) := bq_o100 (bq_of bwX12_leastFrom_64 12 (by decide +kernel))
theorem dX12_leastFrom_77 : decode cX12_leastFrom 77 = .ok (.imul, 1) := bq_o104 (bq_of bwX12_leastFrom_64 13 (by decide +kernel))
theorem dX12_leastFrom_78 : decode cX12_leastFrom 78 = .ok (.goto 4, 3) := bq_o167 (a := 0) (b := 4) (bq_3 bwX12_leastFrom_64 14 (by decide +kernel)) (by decide +kernel)
theorem dX12_leastFrom_81 : decode cX12_leastFrom 81 = .ok (.iconst 0, 1) := bq_o3 (bq_of bwX12_leastFrom_64 17 (by decide +kernel))
theorem dX12_leastFrom_82 : decode cX12_leastFrom 82 = .ok (.iadd, 1) := bq_o96 (bq_of bwX12_leastFrom_64 18 (by decide +kernel))
theorem dX12_leastFrom_83 : decode cX12_leastFrom 83 = .ok (.istore 4, 2) := bq_o54 (a := 4) (bq_2 bwX12_leastFrom_64 19 (by decide +kernel)) rfl
theorem dX12_leastFrom_85 : decode cX12_leastFrom 85 = .ok (.iinc 5 1, 3) := bq_o132 (a := 5) (b := 1) (bq_3 bwX12_leastFrom_64 21 (by decide +kernel)) rfl (by decide +kernel)
theorem dX12_leastFrom_88 : decode cX12_leastFrom 88 = .ok (.goto (-51), 3) := bq_o167 (a := 255) (b := 205) (bq_3 bwX12_leastFrom_64 24 (by decide +kernel)) (by decide +kernel)
theorem dX12_leastFrom_91 : decode cX12_leastFrom 91 = .ok (.iinc 4 9, 3) := bq_o132 (a := 4) (b := 9) (bq_3 bwX12_leastFrom_64 27 (by decide +kernel)) rfl (by decide +kernel)
theorem dX12_leastFrom_94 : decode cX12_leastFrom 94 = .ok (.goto 22, 3) := bq_o167 (a := 0) (b := 22) (bq_3 bwX12_leastFrom_64 30 (by decide +kernel)) (by decide +kernel)
theorem dX12_leastFrom_97 : decode cX12_leastFrom 97 = .ok (.aload_n 0, 1) := bq_o42 (bq_of bwX12_leastFrom_64 33 (by decide +kernel))
theorem dX12_leastFrom_98 : decode cX12_leastFrom 98 = .ok (.iload_n 1, 1) := bq_o27 (bq_of bwX12_leastFrom_64 34 (by decide +kernel))
theorem dX12_leastFrom_99 : decode cX12_leastFrom 99 = .ok (.iconst 1, 1) := bq_o4 (bq_of bwX12_leastFrom_64 35 (by decide +kernel))
theorem dX12_leastFrom_100 : decode cX12_leastFrom 100 = .ok (.iadd, 1) := bq_o96 (bq_of bwX12_leastFrom_64 36 (by decide +kernel))
theorem dX12_leastFrom_101 : decode cX12_leastFrom 101 = .ok (.iload_n 2, 1) := bq_o28 (bq_of bwX12_leastFrom_64 37 (by decide +kernel))
theorem dX12_leastFrom_102 : decode cX12_leastFrom 102 = .ok (.iconst 1, 1) := bq_o4 (bq_of bwX12_leastFrom_64 38 (by decide +kernel))
theorem dX12_leastFrom_103 : decode cX12_leastFrom 103 = .ok (.aload_n 0, 1) := bq_o42 (bq_of bwX12_leastFrom_64 39 (by decide +kernel))
theorem dX12_leastFrom_104 : decode cX12_leastFrom 104 = .ok (.getfield 64, 3) := bq_o180 (a := 0) (b := 64) (bq_3 bwX12_leastFrom_64 40 (by decide +kernel)) rfl
theorem dX12_leastFrom_107 : decode cX12_leastFrom 107 = .ok (.iload_n 1, 1) := bq_o27 (bq_of bwX12_leastFrom_64 43 (by decide +kernel))
theorem dX12_leastFrom_108 : decode cX12_leastFrom 108 = .ok (.iaload, 1) := bq_o46 (bq_of bwX12_leastFrom_64 44 (by decide +kernel))
theorem dX12_leastFrom_109 : decode cX12_leastFrom 109 = .ok (.ishl, 1) := bq_o120 (bq_of bwX12_leastFrom_64 45 (by decide +kernel))
theorem dX12_leastFrom_110 : decode cX12_leastFrom 110 = .ok (.ior, 1) := bq_o128 (bq_of bwX12_leastFrom_64 46 (by decide +kernel))
theorem dX12_leastFrom_111 : decode cX12_leastFrom 111 = .ok (.invokevirtual 308, 3) := bq_o182 (a := 1) (b := 52) (bq_3 bwX12_leastFrom_64 47 (by decide +kernel)) rfl
theorem dX12_leastFrom_114 : decode cX12_leastFrom 114 = .ok (.istore 4, 2) := bq_o54 (a := 4) (bq_2 bwX12_leastFrom_64 50 (by decide +kernel)) rfl
theorem dX12_leastFrom_116 : decode cX12_leastFrom 116 = .ok (.iload_n 1, 1) := bq_o27 (bq_of bwX12_leastFrom_64 52 (by decide +kernel))
theorem dX12_leastFrom_117 : decode cX12_leastFrom 117 = .ok (.ifCond .ne 7, 3) := bq_o154 (a := 0) (b := 7) (bq_3 bwX12_leastFrom_64 53 (by decide +kernel)) (by decide +kernel)
theorem dX12_leastFrom_120 : decode cX12_leastFrom 120 = .ok (.iconst 0, 1) := bq_o3 (bq_of bwX12_leastFrom_64 56 (by decide +kernel))
theorem dX12_leastFrom_121 : decode cX12_leastFrom 121 = .ok (.goto 16, 3) := bq_o167 (a := 0) (b := 16) (bq_3 bwX12_leastFrom_64 57 (by decide +kernel)) (by decide +kernel)
theorem dX12_leastFrom_124 : decode cX12_leastFrom 124 = .ok (.aload_n 0, 1) := bq_o42 (bq_of bwX12_leastFrom_64 60 (by decide +kernel))
theorem dX12_leastFrom_125 : decode cX12_leastFrom 125 = .ok (.getfield 40, 3) := bq_o180 (a := 0) (b := 40) (bq_3 bwX12_leastFrom_64 61 (by decide +kernel)) rfl
def bwX12_leastFrom_128l : List Nat := [42, 180, 0, 64, 27, 4, 100, 46, 46, 54, 5, 3, 54, 6, 21, 6, 42, 180, 1, 1, 162, 0, 126, 42, 180, 0, 61, 21, 6, 46, 28, 2, 130, 126, 154, 0, 106, 2, 54, 7, 3, 54, 8, 21, 8, 42, 180, 0, 85, 162, 0, 54, 21, 7, 42, 180, 0, 61, 21, 6, 46, 21, 8, 184, 0, 151]
theorem bwX12_leastFrom_128 : ((cX12_leastFrom.data.toList.drop 128).take 66).map UInt8.toNat = bwX12_leastFrom_128l := by decide +kernel
theorem dX12_leastFrom_128 : decode cX12_leastFrom 128 = .ok (.aload_n 0, 1) := bq_o42 (bq_of bwX12_leastFrom_128 0 (by decide +kernel))
theorem dX12_leastFrom_129 : decode cX12_leastFrom 129 = .ok (.getfield 64, 3) := bq_o180 (a := 0) (b := 64) (bq_3 bwX12_leastFrom_128 1 (by decide +kernel)) rfl
theorem dX12_leastFrom_132 : decode cX12_leastFrom 132 = .ok (.iload_n 1, 1) := bq_o27 (bq_of bwX12_leastFrom_128 4 (by decide +kernel))
theorem dX12_leastFrom_133 : decode cX12_leastFrom 133 = .ok (.iconst 1, 1) := bq_o4 (bq_of bwX12_leastFrom_128 5 (by decide +kernel))
theorem dX12_leastFrom_134 : decode cX12_leastFrom 134 = .ok (.isub, 1) := bq_o100 (bq_of bwX12_leastFrom_128 6 (by decide +kernel))
theorem dX12_leastFrom_135 : decode cX12_leastFrom 135 = .ok (.iaload, 1) := bq_o46 (bq_of bwX12_leastFrom_128 7 (by decide +kernel))
theorem dX12_leastFrom_136 : decode cX12_leastFrom 136 = .ok (.iaload, 1) := bq_o46 (bq_of bwX12_leastFrom_128 8 (by decide +kernel))
theorem dX12_leastFrom_137 : decode cX12_leastFrom 137 = .ok (.istore 5, 2) := bq_o54 (a := 5) (bq_2 bwX12_leastFrom_128 9 (by decide +kernel)) rfl
theorem dX12_leastFrom_139 : decode cX12_leastFrom 139 = .ok (.iconst 0, 1) := bq_o3 (bq_of bwX12_leastFrom_128 11 (by decide +kernel))
theorem dX12_leastFrom_140 : decode cX12_leastFrom 140 = .ok (.istore 6, 2) := bq_o54 (a := 6) (bq_2 bwX12_leastFrom_128 12 (by decide +kernel)) rfl
theorem dX12_leastFrom_142 : decode cX12_leastFrom 142 = .ok (.iload 6, 2) := bq_o21 (a := 6) (bq_2 bwX12_leastFrom_128 14 (by decide +kernel)) rfl
theorem dX12_leastFrom_144 : decode cX12_leastFrom 144 = .ok (.aload_n 0, 1) := bq_o42 (bq_of bwX12_leastFrom_128 16 (by decide +kernel))
theorem dX12_leastFrom_145 : decode cX12_leastFrom 145 = .ok (.getfield 257, 3) := bq_o180 (a := 1) (b := 1) (bq_3 bwX12_leastFrom_128 17 (by decide +kernel)) rfl
theorem dX12_leastFrom_148 : decode cX12_leastFrom 148 = .ok (.if_icmp .ge 126, 3) := bq_o162 (a := 0) (b := 126) (bq_3 bwX12_leastFrom_128 20 (by decide +kernel)) (by decide +kernel)
theorem dX12_leastFrom_151 : decode cX12_leastFrom 151 = .ok (.aload_n 0, 1) := bq_o42 (bq_of bwX12_leastFrom_128 23 (by decide +kernel))
theorem dX12_leastFrom_152 : decode cX12_leastFrom 152 = .ok (.getfield 61, 3) := bq_o180 (a := 0) (b := 61) (bq_3 bwX12_leastFrom_128 24 (by decide +kernel)) rfl
theorem dX12_leastFrom_155 : decode cX12_leastFrom 155 = .ok (.iload 6, 2) := bq_o21 (a := 6) (bq_2 bwX12_leastFrom_128 27 (by decide +kernel)) rfl
theorem dX12_leastFrom_157 : decode cX12_leastFrom 157 = .ok (.iaload, 1) := bq_o46 (bq_of bwX12_leastFrom_128 29 (by decide +kernel))
theorem dX12_leastFrom_158 : decode cX12_leastFrom 158 = .ok (.iload_n 2, 1) := bq_o28 (bq_of bwX12_leastFrom_128 30 (by decide +kernel))
theorem dX12_leastFrom_159 : decode cX12_leastFrom 159 = .ok (.iconst (-1), 1) := bq_o2 (bq_of bwX12_leastFrom_128 31 (by decide +kernel))
theorem dX12_leastFrom_160 : decode cX12_leastFrom 160 = .ok (.ixor, 1) := bq_o130 (bq_of bwX12_leastFrom_128 32 (by decide +kernel))
theorem dX12_leastFrom_161 : decode cX12_leastFrom 161 = .ok (.iand, 1) := bq_o126 (bq_of bwX12_leastFrom_128 33 (by decide +kernel))
theorem dX12_leastFrom_162 : decode cX12_leastFrom 162 = .ok (.ifCond .ne 106, 3) := bq_o154 (a := 0) (b := 106) (bq_3 bwX12_leastFrom_128 34 (by decide +kernel)) (by decide +kernel)
theorem dX12_leastFrom_165 : decode cX12_leastFrom 165 = .ok (.iconst (-1), 1) := bq_o2 (bq_of bwX12_leastFrom_128 37 (by decide +kernel))
theorem dX12_leastFrom_166 : decode cX12_leastFrom 166 = .ok (.istore 7, 2) := bq_o54 (a := 7) (bq_2 bwX12_leastFrom_128 38 (by decide +kernel)) rfl
theorem dX12_leastFrom_168 : decode cX12_leastFrom 168 = .ok (.iconst 0, 1) := bq_o3 (bq_of bwX12_leastFrom_128 40 (by decide +kernel))
theorem dX12_leastFrom_169 : decode cX12_leastFrom 169 = .ok (.istore 8, 2) := bq_o54 (a := 8) (bq_2 bwX12_leastFrom_128 41 (by decide +kernel)) rfl
theorem dX12_leastFrom_171 : decode cX12_leastFrom 171 = .ok (.iload 8, 2) := bq_o21 (a := 8) (bq_2 bwX12_leastFrom_128 43 (by decide +kernel)) rfl
theorem dX12_leastFrom_173 : decode cX12_leastFrom 173 = .ok (.aload_n 0, 1) := bq_o42 (bq_of bwX12_leastFrom_128 45 (by decide +kernel))
theorem dX12_leastFrom_174 : decode cX12_leastFrom 174 = .ok (.getfield 85, 3) := bq_o180 (a := 0) (b := 85) (bq_3 bwX12_leastFrom_128 46 (by decide +kernel)) rfl
theorem dX12_leastFrom_177 : decode cX12_leastFrom 177 = .ok (.if_icmp .ge 54, 3) := bq_o162 (a := 0) (b := 54) (bq_3 bwX12_leastFrom_128 49 (by decide +kernel)) (by decide +kernel)
theorem dX12_leastFrom_180 : decode cX12_leastFrom 180 = .ok (.iload 7, 2) := bq_o21 (a := 7) (bq_2 bwX12_leastFrom_128 52 (by decide +kernel)) rfl
theorem dX12_leastFrom_182 : decode cX12_leastFrom 182 = .ok (.aload_n 0, 1) := bq_o42 (bq_of bwX12_leastFrom_128 54 (by decide +kernel))
theorem dX12_leastFrom_183 : decode cX12_leastFrom 183 = .ok (.getfield 61, 3) := bq_o180 (a := 0) (b := 61) (bq_3 bwX12_leastFrom_128 55 (by decide +kernel)) rfl
theorem dX12_leastFrom_186 : decode cX12_leastFrom 186 = .ok (.iload 6, 2) := bq_o21 (a := 6) (bq_2 bwX12_leastFrom_128 58 (by decide +kernel)) rfl
theorem dX12_leastFrom_188 : decode cX12_leastFrom 188 = .ok (.iaload, 1) := bq_o46 (bq_of bwX12_leastFrom_128 60 (by decide +kernel))
theorem dX12_leastFrom_189 : decode cX12_leastFrom 189 = .ok (.iload 8, 2) := bq_o21 (a := 8) (bq_2 bwX12_leastFrom_128 61 (by decide +kernel)) rfl
theorem dX12_leastFrom_191 : decode cX12_leastFrom 191 = .ok (.invokestatic 151, 3) := bq_o184 (a := 0) (b := 151) (bq_3 bwX12_leastFrom_128 63 (by decide +kernel)) rfl
def bwX12_leastFrom_192l : List Nat := [0, 151, 153, 0, 27, 16, 10, 42, 180, 0, 43, 21, 8, 46, 104, 21, 5, 42, 180, 0, 40, 21, 8, 46, 100, 104, 167, 0, 4, 3, 96, 54, 7, 132, 8, 1, 167, 255, 199, 21, 7, 42, 27, 28, 42, 180, 0, 61, 21, 6, 46, 2, 130, 126, 182, 1, 52, 96, 54, 8, 21, 8, 21, 4, 162, 0]
theorem bwX12_leastFrom_192 : ((cX12_leastFrom.data.toList.drop 192).take 66).map UInt8.toNat = bwX12_leastFrom_192l := by decide +kernel
theorem dX12_leastFrom_194 : decode cX12_leastFrom 194 = .ok (.ifCond .eq 27, 3) := bq_o153 (a := 0) (b := 27) (bq_3 bwX12_leastFrom_192 2 (by decide +kernel)) (by decide +kernel)
theorem dX12_leastFrom_197 : decode cX12_leastFrom 197 = .ok (.bipush 10, 2) := bq_o16 (a := 10) (bq_2 bwX12_leastFrom_192 5 (by decide +kernel)) (by decide +kernel)
theorem dX12_leastFrom_199 : decode cX12_leastFrom 199 = .ok (.aload_n 0, 1) := bq_o42 (bq_of bwX12_leastFrom_192 7 (by decide +kernel))
theorem dX12_leastFrom_200 : decode cX12_leastFrom 200 = .ok (.getfield 43, 3) := bq_o180 (a := 0) (b := 43) (bq_3 bwX12_leastFrom_192 8 (by decide +kernel)) rfl
theorem dX12_leastFrom_203 : decode cX12_leastFrom 203 = .ok (.iload 8, 2) := bq_o21 (a := 8) (bq_2 bwX12_leastFrom_192 11 (by decide +kernel)) rfl
theorem dX12_leastFrom_205 : decode cX12_leastFrom 205 = .ok (.iaload, 1) := bq_o46 (bq_of bwX12_leastFrom_192 13 (by decide +kernel))
theorem dX12_leastFrom_206 : decode cX12_leastFrom 206 = .ok (.imul, 1) := bq_o104 (bq_of bwX12_leastFrom_192 14 (by decide +kernel))
theorem dX12_leastFrom_207 : decode cX12_leastFrom 207 = .ok (.iload 5, 2) := bq_o21 (a := 5) (bq_2 bwX12_leastFrom_192 15 (by decide +kernel)) rfl
theorem dX12_leastFrom_209 : decode cX12_leastFrom 209 = .ok (.aload_n 0, 1) := bq_o42 (bq_of bwX12_leastFrom_192 17 (by decide +kernel))
theorem dX12_leastFrom_210 : decode cX12_leastFrom 210 = .ok (.getfield 40, 3) := bq_o180 (a := 0) (b := 40) (bq_3 bwX12_leastFrom_192 18 (by decide +kernel)) rfl
theorem dX12_leastFrom_213 : decode cX12_leastFrom 213 = .ok (.iload 8, 2) := bq_o21 (a := 8) (bq_2 bwX12_leastFrom_192 21 (by decide +kernel)) rfl
theorem dX12_leastFrom_215 : decode cX12_leastFrom 215 = .ok (.iaload, 1) := bq_o46 (bq_of bwX12_leastFrom_192 23 (by decide +kernel))
theorem dX12_leastFrom_216 : decode cX12_leastFrom 216 = .ok (.isub, 1) := bq_o100 (bq_of bwX12_leastFrom_192 24 (by decide +kernel))
theorem dX12_leastFrom_217 : decode cX12_leastFrom 217 = .ok (.imul, 1) := bq_o104 (bq_of bwX12_leastFrom_192 25 (by decide +kernel))
theorem dX12_leastFrom_218 : decode cX12_leastFrom 218 = .ok (.goto 4, 3) := bq_o167 (a := 0) (b := 4) (bq_3 bwX12_leastFrom_192 26 (by decide +kernel)) (by decide +kernel)
theorem dX12_leastFrom_221 : decode cX12_leastFrom 221 = .ok (.iconst 0, 1) := bq_o3 (bq_of bwX12_leastFrom_192 29 (by decide +kernel))
theorem dX12_leastFrom_222 : decode cX12_leastFrom 222 = .ok (.iadd, 1) := bq_o96 (bq_of bwX12_leastFrom_192 30 (by decide +kernel))
theorem dX12_leastFrom_223 : decode cX12_leastFrom 223 = .ok (.istore 7, 2) := bq_o54 (a := 7) (bq_2 bwX12_leastFrom_192 31 (by decide +kernel)) rfl
theorem dX12_leastFrom_225 : decode cX12_leastFrom 225 = .ok (.iinc 8 1, 3) := bq_o132 (a := 8) (b := 1) (bq_3 bwX12_leastFrom_192 33 (by decide +kernel)) rfl (by decide +kernel)
theorem dX12_leastFrom_228 : decode cX12_leastFrom 228 = .ok (.goto (-57), 3) := bq_o167 (a := 255) (b := 199) (bq_3 bwX12_leastFrom_192 36 (by decide +kernel)) (by decide +kernel)
theorem dX12_leastFrom_231 : decode cX12_leastFrom 231 = .ok (.iload 7, 2) := bq_o21 (a := 7) (bq_2 bwX12_leastFrom_192 39 (by decide +kernel)) rfl
theorem dX12_leastFrom_233 : decode cX12_leastFrom 233 = .ok (.aload_n 0, 1) := bq_o42 (bq_of bwX12_leastFrom_192 41 (by decide +kernel))
theorem dX12_leastFrom_234 : decode cX12_leastFrom 234 = .ok (.iload_n 1, 1) := bq_o27 (bq_of bwX12_leastFrom_192 42 (by decide +kernel))
theorem dX12_leastFrom_235 : decode cX12_leastFrom 235 = .ok (.iload_n 2, 1) := bq_o28 (bq_of bwX12_leastFrom_192 43 (by decide +kernel))
theorem dX12_leastFrom_236 : decode cX12_leastFrom 236 = .ok (.aload_n 0, 1) := bq_o42 (bq_of bwX12_leastFrom_192 44 (by decide +kernel))
theorem dX12_leastFrom_237 : decode cX12_leastFrom 237 = .ok (.getfield 61, 3) := bq_o180 (a := 0) (b := 61) (bq_3 bwX12_leastFrom_192 45 (by decide +kernel)) rfl
theorem dX12_leastFrom_240 : decode cX12_leastFrom 240 = .ok (.iload 6, 2) := bq_o21 (a := 6) (bq_2 bwX12_leastFrom_192 48 (by decide +kernel)) rfl
theorem dX12_leastFrom_242 : decode cX12_leastFrom 242 = .ok (.iaload, 1) := bq_o46 (bq_of bwX12_leastFrom_192 50 (by decide +kernel))
theorem dX12_leastFrom_243 : decode cX12_leastFrom 243 = .ok (.iconst (-1), 1) := bq_o2 (bq_of bwX12_leastFrom_192 51 (by decide +kernel))
theorem dX12_leastFrom_244 : decode cX12_leastFrom 244 = .ok (.ixor, 1) := bq_o130 (bq_of bwX12_leastFrom_192 52 (by decide +kernel))
theorem dX12_leastFrom_245 : decode cX12_leastFrom 245 = .ok (.iand, 1) := bq_o126 (bq_of bwX12_leastFrom_192 53 (by decide +kernel))
theorem dX12_leastFrom_246 : decode cX12_leastFrom 246 = .ok (.invokevirtual 308, 3) := bq_o182 (a := 1) (b := 52) (bq_3 bwX12_leastFrom_192 54 (by decide +kernel)) rfl
theorem dX12_leastFrom_249 : decode cX12_leastFrom 249 = .ok (.iadd, 1) := bq_o96 (bq_of bwX12_leastFrom_192 57 (by decide +kernel))
theorem dX12_leastFrom_250 : decode cX12_leastFrom 250 = .ok (.istore 8, 2) := bq_o54 (a := 8) (bq_2 bwX12_leastFrom_192 58 (by decide +kernel)) rfl
theorem dX12_leastFrom_252 : decode cX12_leastFrom 252 = .ok (.iload 8, 2) := bq_o21 (a := 8) (bq_2 bwX12_leastFrom_192 60 (by decide +kernel)) rfl
theorem dX12_leastFrom_254 : decode cX12_leastFrom 254 = .ok (.iload 4, 2) := bq_o21 (a := 4) (bq_2 bwX12_leastFrom_192 62 (by decide +kernel)) rfl
def bwX12_leastFrom_256l : List Nat := [162, 0, 8, 21, 8, 167, 0, 5, 21, 4, 54, 4, 132, 6, 1, 167, 255, 127, 42, 180, 0, 73, 29, 21, 4, 79, 21, 4, 172]
theorem bwX12_leastFrom_256 : ((cX12_leastFrom.data.toList.drop 256).take 29).map UInt8.toNat = bwX12_leastFrom_256l := by decide +kernel
theorem dX12_leastFrom_256 : decode cX12_leastFrom 256 = .ok (.if_icmp .ge 8, 3) := bq_o162 (a := 0) (b := 8) (bq_3 bwX12_leastFrom_256 0 (by decide +kernel)) (by decide +kernel)
theorem dX12_leastFrom_259 : decode cX12_leastFrom 259 = .ok (.iload 8, 2) := bq_o21 (a := 8) (bq_2 bwX12_leastFrom_256 3 (by decide +kernel)) rfl
theorem dX12_leastFrom_261 : decode cX12_leastFrom 261 = .ok (.goto 5, 3) := bq_o167 (a := 0) (b := 5) (bq_3 bwX12_leastFrom_256 5 (by decide +kernel)) (by decide +kernel)
theorem dX12_leastFrom_264 : decode cX12_leastFrom 264 = .ok (.iload 4, 2) := bq_o21 (a := 4) (bq_2 bwX12_leastFrom_256 8 (by decide +kernel)) rfl
theorem dX12_leastFrom_266 : decode cX12_leastFrom 266 = .ok (.istore 4, 2) := bq_o54 (a := 4) (bq_2 bwX12_leastFrom_256 10 (by decide +kernel)) rfl
theorem dX12_leastFrom_268 : decode cX12_leastFrom 268 = .ok (.iinc 6 1, 3) := bq_o132 (a := 6) (b := 1) (bq_3 bwX12_leastFrom_256 12 (by decide +kernel)) rfl (by decide +kernel)
theorem dX12_leastFrom_271 : decode cX12_leastFrom 271 = .ok (.goto (-129), 3) := bq_o167 (a := 255) (b := 127) (bq_3 bwX12_leastFrom_256 15 (by decide +kernel)) (by decide +kernel)
theorem dX12_leastFrom_274 : decode cX12_leastFrom 274 = .ok (.aload_n 0, 1) := bq_o42 (bq_of bwX12_leastFrom_256 18 (by decide +kernel))
theorem dX12_leastFrom_275 : decode cX12_leastFrom 275 = .ok (.getfield 73, 3) := bq_o180 (a := 0) (b := 73) (bq_3 bwX12_leastFrom_256 19 (by decide +kernel)) rfl
theorem dX12_leastFrom_278 : decode cX12_leastFrom 278 = .ok (.iload_n 3, 1) := bq_o29 (bq_of bwX12_leastFrom_256 22 (by decide +kernel))
theorem dX12_leastFrom_279 : decode cX12_leastFrom 279 = .ok (.iload 4, 2) := bq_o21 (a := 4) (bq_2 bwX12_leastFrom_256 23 (by decide +kernel)) rfl
theorem dX12_leastFrom_281 : decode cX12_leastFrom 281 = .ok (.iastore, 1) := bq_o79 (bq_of bwX12_leastFrom_256 25 (by decide +kernel))
theorem dX12_leastFrom_282 : decode cX12_leastFrom 282 = .ok (.iload 4, 2) := bq_o21 (a := 4) (bq_2 bwX12_leastFrom_256 26 (by decide +kernel)) rfl
theorem dX12_leastFrom_284 : decode cX12_leastFrom 284 = .ok (.ireturn, 1) := bq_o172 (bq_of bwX12_leastFrom_256 28 (by decide +kernel))
def bwX12_least_0l : List Nat := [27, 133, 9, 10, 184, 0, 88, 154, 0, 10, 42, 16, 254, 182, 0, 102, 172, 42, 182, 1, 37, 42, 182, 1, 13, 3, 61, 28, 42, 180, 0, 73, 190, 162, 0, 16, 42, 180, 0, 73, 28, 2, 79, 132, 2, 1, 167, 255, 237, 42, 3, 3, 182, 1, 52, 61, 27, 154, 0, 10, 28, 16, 10, 108, 167, 0]
theorem bwX12_least_0 : ((cX12_least.data.toList.drop 0).take 66).map UInt8.toNat = bwX12_least_0l := by decide +kernel
theorem dX12_least_0 : decode cX12_least 0 = .ok (.iload_n 1, 1) := bq_o27 (bq_of bwX12_least_0 0 (by decide +kernel))
theorem dX12_least_1 : decode cX12_least 1 = .ok (.i2l, 1) := bq_o133 (bq_of bwX12_least_0 1 (by decide +kernel))
theorem dX12_least_2 : decode cX12_least 2 = .ok (.lconst 0, 1) := bq_o9 (bq_of bwX12_least_0 2 (by decide +kernel))
theorem dX12_least_3 : decode cX12_least 3 = .ok (.lconst 1, 1) := bq_o10 (bq_of bwX12_least_0 3 (by decide +kernel))
theorem dX12_least_4 : decode cX12_least 4 = .ok (.invokestatic 88, 3) := bq_o184 (a := 0) (b := 88) (bq_3 bwX12_least_0 4 (by decide +kernel)) rfl
theorem dX12_least_7 : decode cX12_least 7 = .ok (.ifCond .ne 10, 3) := bq_o154 (a := 0) (b := 10) (bq_3 bwX12_least_0 7 (by decide +kernel)) (by decide +kernel)
theorem dX12_least_10 : decode cX12_least 10 = .ok (.aload_n 0, 1) := bq_o42 (bq_of bwX12_least_0 10 (by decide +kernel))
theorem dX12_least_11 : decode cX12_least 11 = .ok (.bipush (-2), 2) := bq_o16 (a := 254) (bq_2 bwX12_least_0 11 (by decide +kernel)) (by decide +kernel)
theorem dX12_least_13 : decode cX12_least 13 = .ok (.invokevirtual 102, 3) := bq_o182 (a := 0) (b := 102) (bq_3 bwX12_least_0 13 (by decide +kernel)) rfl
theorem dX12_least_16 : decode cX12_least 16 = .ok (.ireturn, 1) := bq_o172 (bq_of bwX12_least_0 16 (by decide +kernel))
theorem dX12_least_17 : decode cX12_least 17 = .ok (.aload_n 0, 1) := bq_o42 (bq_of bwX12_least_0 17 (by decide +kernel))
theorem dX12_least_18 : decode cX12_least 18 = .ok (.invokevirtual 293, 3) := bq_o182 (a := 1) (b := 37) (bq_3 bwX12_least_0 18 (by decide +kernel)) rfl
theorem dX12_least_21 : decode cX12_least 21 = .ok (.aload_n 0, 1) := bq_o42 (bq_of bwX12_least_0 21 (by decide +kernel))
theorem dX12_least_22 : decode cX12_least 22 = .ok (.invokevirtual 269, 3) := bq_o182 (a := 1) (b := 13) (bq_3 bwX12_least_0 22 (by decide +kernel)) rfl
theorem dX12_least_25 : decode cX12_least 25 = .ok (.iconst 0, 1) := bq_o3 (bq_of bwX12_least_0 25 (by decide +kernel))
theorem dX12_least_26 : decode cX12_least 26 = .ok (.istore_n 2, 1) := bq_o61 (bq_of bwX12_least_0 26 (by decide +kernel))
theorem dX12_least_27 : decode cX12_least 27 = .ok (.iload_n 2, 1) := bq_o28 (bq_of bwX12_least_0 27 (by decide +kernel))
theorem dX12_least_28 : decode cX12_least 28 = .ok (.aload_n 0, 1) := bq_o42 (bq_of bwX12_least_0 28 (by decide +kernel))
theorem dX12_least_29 : decode cX12_least 29 = .ok (.getfield 73, 3) := bq_o180 (a := 0) (b := 73) (bq_3 bwX12_least_0 29 (by decide +kernel)) rfl
theorem dX12_least_32 : decode cX12_least 32 = .ok (.arraylength, 1) := bq_o190 (bq_of bwX12_least_0 32 (by decide +kernel))
theorem dX12_least_33 : decode cX12_least 33 = .ok (.if_icmp .ge 16, 3) := bq_o162 (a := 0) (b := 16) (bq_3 bwX12_least_0 33 (by decide +kernel)) (by decide +kernel)
theorem dX12_least_36 : decode cX12_least 36 = .ok (.aload_n 0, 1) := bq_o42 (bq_of bwX12_least_0 36 (by decide +kernel))
theorem dX12_least_37 : decode cX12_least 37 = .ok (.getfield 73, 3) := bq_o180 (a := 0) (b := 73) (bq_3 bwX12_least_0 37 (by decide +kernel)) rfl
theorem dX12_least_40 : decode cX12_least 40 = .ok (.iload_n 2, 1) := bq_o28 (bq_of bwX12_least_0 40 (by decide +kernel))
theorem dX12_least_41 : decode cX12_least 41 = .ok (.iconst (-1), 1) := bq_o2 (bq_of bwX12_least_0 41 (by decide +kernel))
theorem dX12_least_42 : decode cX12_least 42 = .ok (.iastore, 1) := bq_o79 (bq_of bwX12_least_0 42 (by decide +kernel))
theorem dX12_least_43 : decode cX12_least 43 = .ok (.iinc 2 1, 3) := bq_o132 (a := 2) (b := 1) (bq_3 bwX12_least_0 43 (by decide +kernel)) rfl (by decide +kernel)
theorem dX12_least_46 : decode cX12_least 46 = .ok (.goto (-19), 3) := bq_o167 (a := 255) (b := 237) (bq_3 bwX12_least_0 46 (by decide +kernel)) (by decide +kernel)
theorem dX12_least_49 : decode cX12_least 49 = .ok (.aload_n 0, 1) := bq_o42 (bq_of bwX12_least_0 49 (by decide +kernel))
theorem dX12_least_50 : decode cX12_least 50 = .ok (.iconst 0, 1) := bq_o3 (bq_of bwX12_least_0 50 (by decide +kernel))
theorem dX12_least_51 : decode cX12_least 51 = .ok (.iconst 0, 1) := bq_o3 (bq_of bwX12_least_0 51 (by decide +kernel))
theorem dX12_least_52 : decode cX12_least 52 = .ok (.invokevirtual 308, 3) := bq_o182 (a := 1) (b := 52) (bq_3 bwX12_least_0 52 (by decide +kernel)) rfl
theorem dX12_least_55 : decode cX12_least 55 = .ok (.istore_n 2, 1) := bq_o61 (bq_of bwX12_least_0 55 (by decide +kernel))
theorem dX12_least_56 : decode cX12_least 56 = .ok (.iload_n 1, 1) := bq_o27 (bq_of bwX12_least_0 56 (by decide +kernel))
theorem dX12_least_57 : decode cX12_least 57 = .ok (.ifCond .ne 10, 3) := bq_o154 (a := 0) (b := 10) (bq_3 bwX12_least_0 57 (by decide +kernel)) (by decide +kernel)
theorem dX12_least_60 : decode cX12_least 60 = .ok (.iload_n 2, 1) := bq_o28 (bq_of bwX12_least_0 60 (by decide +kernel))
theorem dX12_least_61 : decode cX12_least 61 = .ok (.bipush 10, 2) := bq_o16 (a := 10) (bq_2 bwX12_least_0 61 (by decide +kernel)) (by decide +kernel)
theorem dX12_least_63 : decode cX12_least 63 = .ok (.idiv, 1) := bq_o108 (bq_of bwX12_least_0 63 (by decide +kernel))
def bwX12_least_64l : List Nat := [167, 0, 10, 16, 9, 28, 16, 10, 112, 100, 172]
theorem bwX12_least_64 : ((cX12_least.data.toList.drop 64).take 11).map UInt8.toNat = bwX12_least_64l := by decide +kernel
theorem dX12_least_64 : decode cX12_least 64 = .ok (.goto 10, 3) := bq_o167 (a := 0) (b := 10) (bq_3 bwX12_least_64 0 (by decide +kernel)) (by decide +kernel)
theorem dX12_least_67 : decode cX12_least 67 = .ok (.bipush 9, 2) := bq_o16 (a := 9) (bq_2 bwX12_least_64 3 (by decide +kernel)) (by decide +kernel)
theorem dX12_least_69 : decode cX12_least 69 = .ok (.iload_n 2, 1) := bq_o28 (bq_of bwX12_least_64 5 (by decide +kernel))
theorem dX12_least_70 : decode cX12_least 70 = .ok (.bipush 10, 2) := bq_o16 (a := 10) (bq_2 bwX12_least_64 6 (by decide +kernel)) (by decide +kernel)
theorem dX12_least_72 : decode cX12_least 72 = .ok (.irem, 1) := bq_o112 (bq_of bwX12_least_64 8 (by decide +kernel))
theorem dX12_least_73 : decode cX12_least 73 = .ok (.isub, 1) := bq_o100 (bq_of bwX12_least_64 9 (by decide +kernel))
theorem dX12_least_74 : decode cX12_least 74 = .ok (.ireturn, 1) := bq_o172 (bq_of bwX12_least_64 10 (by decide +kernel))
def bwX12_head_0l : List Nat := [2, 60, 3, 61, 3, 62, 29, 16, 8, 162, 0, 57, 42, 180, 0, 7, 29, 46, 5, 160, 0, 41, 42, 42, 180, 0, 28, 29, 46, 42, 180, 0, 31, 29, 46, 182, 1, 46, 42, 182, 1, 49, 54, 4, 27, 2, 159, 0, 9, 21, 4, 28, 162, 0, 8, 29, 60, 21, 4, 61, 132, 3, 1, 167, 255, 199]
theorem bwX12_head_0 : ((cX12_head.data.toList.drop 0).take 66).map UInt8.toNat = bwX12_head_0l := by decide +kernel
theorem dX12_head_0 : decode cX12_head 0 = .ok (.iconst (-1), 1) := bq_o2 (bq_of bwX12_head_0 0 (by decide +kernel))
theorem dX12_head_1 : decode cX12_head 1 = .ok (.istore_n 1, 1) := bq_o60 (bq_of bwX12_head_0 1 (by decide +kernel))
theorem dX12_head_2 : decode cX12_head 2 = .ok (.iconst 0, 1) := bq_o3 (bq_of bwX12_head_0 2 (by decide +kernel))
theorem dX12_head_3 : decode cX12_head 3 = .ok (.istore_n 2, 1) := bq_o61 (bq_of bwX12_head_0 3 (by decide +kernel))
theorem dX12_head_4 : decode cX12_head 4 = .ok (.iconst 0, 1) := bq_o3 (bq_of bwX12_head_0 4 (by decide +kernel))
theorem dX12_head_5 : decode cX12_head 5 = .ok (.istore_n 3, 1) := bq_o62 (bq_of bwX12_head_0 5 (by decide +kernel))
theorem dX12_head_6 : decode cX12_head 6 = .ok (.iload_n 3, 1) := bq_o29 (bq_of bwX12_head_0 6 (by decide +kernel))
theorem dX12_head_7 : decode cX12_head 7 = .ok (.bipush 8, 2) := bq_o16 (a := 8) (bq_2 bwX12_head_0 7 (by decide +kernel)) (by decide +kernel)
theorem dX12_head_9 : decode cX12_head 9 = .ok (.if_icmp .ge 57, 3) := bq_o162 (a := 0) (b := 57) (bq_3 bwX12_head_0 9 (by decide +kernel)) (by decide +kernel)
theorem dX12_head_12 : decode cX12_head 12 = .ok (.aload_n 0, 1) := bq_o42 (bq_of bwX12_head_0 12 (by decide +kernel))
theorem dX12_head_13 : decode cX12_head 13 = .ok (.getfield 7, 3) := bq_o180 (a := 0) (b := 7) (bq_3 bwX12_head_0 13 (by decide +kernel)) rfl
theorem dX12_head_16 : decode cX12_head 16 = .ok (.iload_n 3, 1) := bq_o29 (bq_of bwX12_head_0 16 (by decide +kernel))
theorem dX12_head_17 : decode cX12_head 17 = .ok (.iaload, 1) := bq_o46 (bq_of bwX12_head_0 17 (by decide +kernel))
theorem dX12_head_18 : decode cX12_head 18 = .ok (.iconst 2, 1) := bq_o5 (bq_of bwX12_head_0 18 (by decide +kernel))
theorem dX12_head_19 : decode cX12_head 19 = .ok (.if_icmp .ne 41, 3) := bq_o160 (a := 0) (b := 41) (bq_3 bwX12_head_0 19 (by decide +kernel)) (by decide +kernel)
theorem dX12_head_22 : decode cX12_head 22 = .ok (.aload_n 0, 1) := bq_o42 (bq_of bwX12_head_0 22 (by decide +kernel))
theorem dX12_head_23 : decode cX12_head 23 = .ok (.aload_n 0, 1) := bq_o42 (bq_of bwX12_head_0 23 (by decide +kernel))
theorem dX12_head_24 : decode cX12_head 24 = .ok (.getfield 28, 3) := bq_o180 (a := 0) (b := 28) (bq_3 bwX12_head_0 24 (by decide +kernel)) rfl
theorem dX12_head_27 : decode cX12_head 27 = .ok (.iload_n 3, 1) := bq_o29 (bq_of bwX12_head_0 27 (by decide +kernel))
theorem dX12_head_28 : decode cX12_head 28 = .ok (.iaload, 1) := bq_o46 (bq_of bwX12_head_0 28 (by decide +kernel))
theorem dX12_head_29 : decode cX12_head 29 = .ok (.aload_n 0, 1) := bq_o42 (bq_of bwX12_head_0 29 (by decide +kernel))
theorem dX12_head_30 : decode cX12_head 30 = .ok (.getfield 31, 3) := bq_o180 (a := 0) (b := 31) (bq_3 bwX12_head_0 30 (by decide +kernel)) rfl
theorem dX12_head_33 : decode cX12_head 33 = .ok (.iload_n 3, 1) := bq_o29 (bq_of bwX12_head_0 33 (by decide +kernel))
theorem dX12_head_34 : decode cX12_head 34 = .ok (.iaload, 1) := bq_o46 (bq_of bwX12_head_0 34 (by decide +kernel))
theorem dX12_head_35 : decode cX12_head 35 = .ok (.invokevirtual 302, 3) := bq_o182 (a := 1) (b := 46) (bq_3 bwX12_head_0 35 (by decide +kernel)) rfl
theorem dX12_head_38 : decode cX12_head 38 = .ok (.aload_n 0, 1) := bq_o42 (bq_of bwX12_head_0 38 (by decide +kernel))
theorem dX12_head_39 : decode cX12_head 39 = .ok (.invokevirtual 305, 3) := bq_o182 (a := 1) (b := 49) (bq_3 bwX12_head_0 39 (by decide +kernel)) rfl
theorem dX12_head_42 : decode cX12_head 42 = .ok (.istore 4, 2) := bq_o54 (a := 4) (bq_2 bwX12_head_0 42 (by decide +kernel)) rfl
theorem dX12_head_44 : decode cX12_head 44 = .ok (.iload_n 1, 1) := bq_o27 (bq_of bwX12_head_0 44 (by decide +kernel))
theorem dX12_head_45 : decode cX12_head 45 = .ok (.iconst (-1), 1) := bq_o2 (bq_of bwX12_head_0 45 (by decide +kernel))
theorem dX12_head_46 : decode cX12_head 46 = .ok (.if_icmp .eq 9, 3) := bq_o159 (a := 0) (b := 9) (bq_3 bwX12_head_0 46 (by decide +kernel)) (by decide +kernel)
theorem dX12_head_49 : decode cX12_head 49 = .ok (.iload 4, 2) := bq_o21 (a := 4) (bq_2 bwX12_head_0 49 (by decide +kernel)) rfl
theorem dX12_head_51 : decode cX12_head 51 = .ok (.iload_n 2, 1) := bq_o28 (bq_of bwX12_head_0 51 (by decide +kernel))
theorem dX12_head_52 : decode cX12_head 52 = .ok (.if_icmp .ge 8, 3) := bq_o162 (a := 0) (b := 8) (bq_3 bwX12_head_0 52 (by decide +kernel)) (by decide +kernel)
theorem dX12_head_55 : decode cX12_head 55 = .ok (.iload_n 3, 1) := bq_o29 (bq_of bwX12_head_0 55 (by decide +kernel))
theorem dX12_head_56 : decode cX12_head 56 = .ok (.istore_n 1, 1) := bq_o60 (bq_of bwX12_head_0 56 (by decide +kernel))
theorem dX12_head_57 : decode cX12_head 57 = .ok (.iload 4, 2) := bq_o21 (a := 4) (bq_2 bwX12_head_0 57 (by decide +kernel)) rfl
theorem dX12_head_59 : decode cX12_head 59 = .ok (.istore_n 2, 1) := bq_o61 (bq_of bwX12_head_0 59 (by decide +kernel))
theorem dX12_head_60 : decode cX12_head 60 = .ok (.iinc 3 1, 3) := bq_o132 (a := 3) (b := 1) (bq_3 bwX12_head_0 60 (by decide +kernel)) rfl (by decide +kernel)
theorem dX12_head_63 : decode cX12_head 63 = .ok (.goto (-57), 3) := bq_o167 (a := 255) (b := 199) (bq_3 bwX12_head_0 63 (by decide +kernel)) (by decide +kernel)
def bwX12_head_64l : List Nat := [255, 199, 27, 2, 160, 0, 12, 42, 16, 251, 182, 0, 102, 167, 0, 4, 27, 172]
theorem bwX12_head_64 : ((cX12_head.data.toList.drop 64).take 18).map UInt8.toNat = bwX12_head_64l := by decide +kernel
theorem dX12_head_66 : decode cX12_head 66 = .ok (.iload_n 1, 1) := bq_o27 (bq_of bwX12_head_64 2 (by decide +kernel))
theorem dX12_head_67 : decode cX12_head 67 = .ok (.iconst (-1), 1) := bq_o2 (bq_of bwX12_head_64 3 (by decide +kernel))
theorem dX12_head_68 : decode cX12_head 68 = .ok (.if_icmp .ne 12, 3) := bq_o160 (a := 0) (b := 12) (bq_3 bwX12_head_64 4 (by decide +kernel)) (by decide +kernel)
theorem dX12_head_71 : decode cX12_head 71 = .ok (.aload_n 0, 1) := bq_o42 (bq_of bwX12_head_64 7 (by decide +kernel))
theorem dX12_head_72 : decode cX12_head 72 = .ok (.bipush (-5), 2) := bq_o16 (a := 251) (bq_2 bwX12_head_64 8 (by decide +kernel)) (by decide +kernel)
theorem dX12_head_74 : decode cX12_head 74 = .ok (.invokevirtual 102, 3) := bq_o182 (a := 0) (b := 102) (bq_3 bwX12_head_64 10 (by decide +kernel)) rfl
theorem dX12_head_77 : decode cX12_head 77 = .ok (.goto 4, 3) := bq_o167 (a := 0) (b := 4) (bq_3 bwX12_head_64 13 (by decide +kernel)) (by decide +kernel)
theorem dX12_head_80 : decode cX12_head 80 = .ok (.iload_n 1, 1) := bq_o27 (bq_of bwX12_head_64 16 (by decide +kernel))
theorem dX12_head_81 : decode cX12_head 81 = .ok (.ireturn, 1) := bq_o172 (bq_of bwX12_head_64 17 (by decide +kernel))
theorem dX12_dayOf_0 : decode cX12_dayOf 0 = .ok (.aload_n 0, 1) := by decide +kernel
theorem dX12_dayOf_1 : decode cX12_dayOf 1 = .ok (.iload_n 1, 1) := by decide +kernel
theorem dX12_dayOf_2 : decode cX12_dayOf 2 = .ok (.iload_n 2, 1) := by decide +kernel
theorem dX12_dayOf_3 : decode cX12_dayOf 3 = .ok (.invokevirtual 302, 3) := by decide +kernel
theorem dX12_dayOf_6 : decode cX12_dayOf 6 = .ok (.iconst 0, 1) := by decide +kernel
theorem dX12_dayOf_7 : decode cX12_dayOf 7 = .ok (.istore_n 3, 1) := by decide +kernel
theorem dX12_dayOf_8 : decode cX12_dayOf 8 = .ok (.iload_n 3, 1) := by decide +kernel
theorem dX12_dayOf_9 : decode cX12_dayOf 9 = .ok (.aload_n 0, 1) := by decide +kernel
theorem dX12_dayOf_10 : decode cX12_dayOf 10 = .ok (.getfield 296, 3) := by decide +kernel
theorem dX12_dayOf_13 : decode cX12_dayOf 13 = .ok (.if_icmp .ge 20, 3) := by decide +kernel
theorem dX12_dayOf_16 : decode cX12_dayOf 16 = .ok (.aload_n 0, 1) := by decide +kernel
theorem dX12_dayOf_17 : decode cX12_dayOf 17 = .ok (.aload_n 0, 1) := by decide +kernel
theorem dX12_dayOf_18 : decode cX12_dayOf 18 = .ok (.getfield 67, 3) := by decide +kernel
theorem dX12_dayOf_21 : decode cX12_dayOf 21 = .ok (.iload_n 3, 1) := by decide +kernel
theorem dX12_dayOf_22 : decode cX12_dayOf 22 = .ok (.iaload, 1) := by decide +kernel
theorem dX12_dayOf_23 : decode cX12_dayOf 23 = .ok (.invokevirtual 213, 3) := by decide +kernel
theorem dX12_dayOf_26 : decode cX12_dayOf 26 = .ok (.pop, 1) := by decide +kernel
theorem dX12_dayOf_27 : decode cX12_dayOf 27 = .ok (.iinc 3 1, 3) := by decide +kernel
theorem dX12_dayOf_30 : decode cX12_dayOf 30 = .ok (.goto (-22), 3) := by decide +kernel
theorem dX12_dayOf_33 : decode cX12_dayOf 33 = .ok (.aload_n 0, 1) := by decide +kernel
theorem dX12_dayOf_34 : decode cX12_dayOf 34 = .ok (.getfield 296, 3) := by decide +kernel
theorem dX12_dayOf_37 : decode cX12_dayOf 37 = .ok (.ireturn, 1) := by decide +kernel
theorem dX12_days_0 : decode cX12_days 0 = .ok (.aload_n 0, 1) := by decide +kernel
theorem dX12_days_1 : decode cX12_days 1 = .ok (.iload_n 1, 1) := by decide +kernel
theorem dX12_days_2 : decode cX12_days 2 = .ok (.invokevirtual 290, 3) := by decide +kernel
theorem dX12_days_5 : decode cX12_days 5 = .ok (.istore_n 2, 1) := by decide +kernel
theorem dX12_days_6 : decode cX12_days 6 = .ok (.iload_n 2, 1) := by decide +kernel
theorem dX12_days_7 : decode cX12_days 7 = .ok (.ifCond .eq 5, 3) := by decide +kernel
theorem dX12_days_10 : decode cX12_days 10 = .ok (.iload_n 2, 1) := by decide +kernel
theorem dX12_days_11 : decode cX12_days 11 = .ok (.ireturn, 1) := by decide +kernel
theorem dX12_days_12 : decode cX12_days 12 = .ok (.aload_n 0, 1) := by decide +kernel
theorem dX12_days_13 : decode cX12_days 13 = .ok (.invokevirtual 238, 3) := by decide +kernel
theorem dX12_days_16 : decode cX12_days 16 = .ok (.astore_n 3, 1) := by decide +kernel
theorem dX12_days_17 : decode cX12_days 17 = .ok (.iconst 0, 1) := by decide +kernel
theorem dX12_days_18 : decode cX12_days 18 = .ok (.istore 4, 2) := by decide +kernel
theorem dX12_days_20 : decode cX12_days 20 = .ok (.iload 4, 2) := by decide +kernel
theorem dX12_days_22 : decode cX12_days 22 = .ok (.bipush 30, 2) := by decide +kernel
theorem dX12_days_24 : decode cX12_days 24 = .ok (.if_icmp .ge 28, 3) := by decide +kernel
theorem dX12_days_27 : decode cX12_days 27 = .ok (.aload_n 3, 1) := by decide +kernel
theorem dX12_days_28 : decode cX12_days 28 = .ok (.aload_n 0, 1) := by decide +kernel
theorem dX12_days_29 : decode cX12_days 29 = .ok (.getfield 28, 3) := by decide +kernel
theorem dX12_days_32 : decode cX12_days 32 = .ok (.iload_n 1, 1) := by decide +kernel
theorem dX12_days_33 : decode cX12_days 33 = .ok (.iaload, 1) := by decide +kernel
theorem dX12_days_34 : decode cX12_days 34 = .ok (.aload_n 0, 1) := by decide +kernel
theorem dX12_days_35 : decode cX12_days 35 = .ok (.getfield 31, 3) := by decide +kernel
theorem dX12_days_38 : decode cX12_days 38 = .ok (.iload_n 1, 1) := by decide +kernel
theorem dX12_days_39 : decode cX12_days 39 = .ok (.iaload, 1) := by decide +kernel
theorem dX12_days_40 : decode cX12_days 40 = .ok (.invokevirtual 312, 3) := by decide +kernel
theorem dX12_days_43 : decode cX12_days 43 = .ok (.ifCond .le 9, 3) := by decide +kernel
theorem dX12_days_46 : decode cX12_days 46 = .ok (.iinc 4 1, 3) := by decide +kernel
theorem dX12_days_49 : decode cX12_days 49 = .ok (.goto (-29), 3) := by decide +kernel
theorem dX12_days_52 : decode cX12_days 52 = .ok (.iload 4, 2) := by decide +kernel
theorem dX12_days_54 : decode cX12_days 54 = .ok (.ireturn, 1) := by decide +kernel
def bwX12_pairsOf_0l : List Nat := [3, 61, 3, 62, 29, 42, 180, 0, 85, 162, 0, 62, 3, 54, 4, 21, 4, 29, 162, 0, 47, 28, 27, 29, 184, 0, 151, 153, 0, 29, 27, 21, 4, 184, 0, 151, 153, 0, 20, 42, 180, 0, 48, 29, 50, 21, 4, 46, 2, 160, 0, 7, 4, 167, 0, 4, 3, 96, 61, 132, 4, 1, 167, 255, 209, 132]
theorem bwX12_pairsOf_0 : ((cX12_pairsOf.data.toList.drop 0).take 66).map UInt8.toNat = bwX12_pairsOf_0l := by decide +kernel
theorem dX12_pairsOf_0 : decode cX12_pairsOf 0 = .ok (.iconst 0, 1) := bq_o3 (bq_of bwX12_pairsOf_0 0 (by decide +kernel))
theorem dX12_pairsOf_1 : decode cX12_pairsOf 1 = .ok (.istore_n 2, 1) := bq_o61 (bq_of bwX12_pairsOf_0 1 (by decide +kernel))
theorem dX12_pairsOf_2 : decode cX12_pairsOf 2 = .ok (.iconst 0, 1) := bq_o3 (bq_of bwX12_pairsOf_0 2 (by decide +kernel))
theorem dX12_pairsOf_3 : decode cX12_pairsOf 3 = .ok (.istore_n 3, 1) := bq_o62 (bq_of bwX12_pairsOf_0 3 (by decide +kernel))
theorem dX12_pairsOf_4 : decode cX12_pairsOf 4 = .ok (.iload_n 3, 1) := bq_o29 (bq_of bwX12_pairsOf_0 4 (by decide +kernel))
theorem dX12_pairsOf_5 : decode cX12_pairsOf 5 = .ok (.aload_n 0, 1) := bq_o42 (bq_of bwX12_pairsOf_0 5 (by decide +kernel))
theorem dX12_pairsOf_6 : decode cX12_pairsOf 6 = .ok (.getfield 85, 3) := bq_o180 (a := 0) (b := 85) (bq_3 bwX12_pairsOf_0 6 (by decide +kernel)) rfl
theorem dX12_pairsOf_9 : decode cX12_pairsOf 9 = .ok (.if_icmp .ge 62, 3) := bq_o162 (a := 0) (b := 62) (bq_3 bwX12_pairsOf_0 9 (by decide +kernel)) (by decide +kernel)
theorem dX12_pairsOf_12 : decode cX12_pairsOf 12 = .ok (.iconst 0, 1) := bq_o3 (bq_of bwX12_pairsOf_0 12 (by decide +kernel))
theorem dX12_pairsOf_13 : decode cX12_pairsOf 13 = .ok (.istore 4, 2) := bq_o54 (a := 4) (bq_2 bwX12_pairsOf_0 13 (by decide +kernel)) rfl
theorem dX12_pairsOf_15 : decode cX12_pairsOf 15 = .ok (.iload 4, 2) := bq_o21 (a := 4) (bq_2 bwX12_pairsOf_0 15 (by decide +kernel)) rfl
theorem dX12_pairsOf_17 : decode cX12_pairsOf 17 = .ok (.iload_n 3, 1) := bq_o29 (bq_of bwX12_pairsOf_0 17 (by decide +kernel))
theorem dX12_pairsOf_18 : decode cX12_pairsOf 18 = .ok (.if_icmp .ge 47, 3) := bq_o162 (a := 0) (b := 47) (bq_3 bwX12_pairsOf_0 18 (by decide +kernel)) (by decide +kernel)
theorem dX12_pairsOf_21 : decode cX12_pairsOf 21 = .ok (.iload_n 2, 1) := bq_o28 (bq_of bwX12_pairsOf_0 21 (by decide +kernel))
theorem dX12_pairsOf_22 : decode cX12_pairsOf 22 = .ok (.iload_n 1, 1) := bq_o27 (bq_of bwX12_pairsOf_0 22 (by decide +kernel))
theorem dX12_pairsOf_23 : decode cX12_pairsOf 23 = .ok (.iload_n 3, 1) := bq_o29 (bq_of bwX12_pairsOf_0 23 (by decide +kernel))
theorem dX12_pairsOf_24 : decode cX12_pairsOf 24 = .ok (.invokestatic 151, 3) := bq_o184 (a := 0) (b := 151) (bq_3 bwX12_pairsOf_0 24 (by decide +kernel)) rfl
theorem dX12_pairsOf_27 : decode cX12_pairsOf 27 = .ok (.ifCond .eq 29, 3) := bq_o153 (a := 0) (b := 29) (bq_3 bwX12_pairsOf_0 27 (by decide +kernel)) (by decide +kernel)
theorem dX12_pairsOf_30 : decode cX12_pairsOf 30 = .ok (.iload_n 1, 1) := bq_o27 (bq_of bwX12_pairsOf_0 30 (by decide +kernel))
theorem dX12_pairsOf_31 : decode cX12_pairsOf 31 = .ok (.iload 4, 2) := bq_o21 (a := 4) (bq_2 bwX12_pairsOf_0 31 (by decide +kernel)) rfl
theorem dX12_pairsOf_33 : decode cX12_pairsOf 33 = .ok (.invokestatic 151, 3) := bq_o184 (a := 0) (b := 151) (bq_3 bwX12_pairsOf_0 33 (by decide +kernel)) rfl
theorem dX12_pairsOf_36 : decode cX12_pairsOf 36 = .ok (.ifCond .eq 20, 3) := bq_o153 (a := 0) (b := 20) (bq_3 bwX12_pairsOf_0 36 (by decide +kernel)) (by decide +kernel)
theorem dX12_pairsOf_39 : decode cX12_pairsOf 39 = .ok (.aload_n 0, 1) := bq_o42 (bq_of bwX12_pairsOf_0 39 (by decide +kernel))
theorem dX12_pairsOf_40 : decode cX12_pairsOf 40 = .ok (.getfield 48, 3) := bq_o180 (a := 0) (b := 48) (bq_3 bwX12_pairsOf_0 40 (by decide +kernel)) rfl
theorem dX12_pairsOf_43 : decode cX12_pairsOf 43 = .ok (.iload_n 3, 1) := bq_o29 (bq_of bwX12_pairsOf_0 43 (by decide +kernel))
theorem dX12_pairsOf_44 : decode cX12_pairsOf 44 = .ok (.aaload, 1) := bq_o50 (bq_of bwX12_pairsOf_0 44 (by decide +kernel))
theorem dX12_pairsOf_45 : decode cX12_pairsOf 45 = .ok (.iload 4, 2) := bq_o21 (a := 4) (bq_2 bwX12_pairsOf_0 45 (by decide +kernel)) rfl
theorem dX12_pairsOf_47 : decode cX12_pairsOf 47 = .ok (.iaload, 1) := bq_o46 (bq_of bwX12_pairsOf_0 47 (by decide +kernel))
theorem dX12_pairsOf_48 : decode cX12_pairsOf 48 = .ok (.iconst (-1), 1) := bq_o2 (bq_of bwX12_pairsOf_0 48 (by decide +kernel))
theorem dX12_pairsOf_49 : decode cX12_pairsOf 49 = .ok (.if_icmp .ne 7, 3) := bq_o160 (a := 0) (b := 7) (bq_3 bwX12_pairsOf_0 49 (by decide +kernel)) (by decide +kernel)
theorem dX12_pairsOf_52 : decode cX12_pairsOf 52 = .ok (.iconst 1, 1) := bq_o4 (bq_of bwX12_pairsOf_0 52 (by decide +kernel))
theorem dX12_pairsOf_53 : decode cX12_pairsOf 53 = .ok (.goto 4, 3) := bq_o167 (a := 0) (b := 4) (bq_3 bwX12_pairsOf_0 53 (by decide +kernel)) (by decide +kernel)
theorem dX12_pairsOf_56 : decode cX12_pairsOf 56 = .ok (.iconst 0, 1) := bq_o3 (bq_of bwX12_pairsOf_0 56 (by decide +kernel))
theorem dX12_pairsOf_57 : decode cX12_pairsOf 57 = .ok (.iadd, 1) := bq_o96 (bq_of bwX12_pairsOf_0 57 (by decide +kernel))
theorem dX12_pairsOf_58 : decode cX12_pairsOf 58 = .ok (.istore_n 2, 1) := bq_o61 (bq_of bwX12_pairsOf_0 58 (by decide +kernel))
theorem dX12_pairsOf_59 : decode cX12_pairsOf 59 = .ok (.iinc 4 1, 3) := bq_o132 (a := 4) (b := 1) (bq_3 bwX12_pairsOf_0 59 (by decide +kernel)) rfl (by decide +kernel)
theorem dX12_pairsOf_62 : decode cX12_pairsOf 62 = .ok (.goto (-47), 3) := bq_o167 (a := 255) (b := 209) (bq_3 bwX12_pairsOf_0 62 (by decide +kernel)) (by decide +kernel)
def bwX12_pairsOf_64l : List Nat := [209, 132, 3, 1, 167, 255, 192, 28, 172]
theorem bwX12_pairsOf_64 : ((cX12_pairsOf.data.toList.drop 64).take 9).map UInt8.toNat = bwX12_pairsOf_64l := by decide +kernel
theorem dX12_pairsOf_65 : decode cX12_pairsOf 65 = .ok (.iinc 3 1, 3) := bq_o132 (a := 3) (b := 1) (bq_3 bwX12_pairsOf_64 1 (by decide +kernel)) rfl (by decide +kernel)
theorem dX12_pairsOf_68 : decode cX12_pairsOf 68 = .ok (.goto (-64), 3) := bq_o167 (a := 255) (b := 192) (bq_3 bwX12_pairsOf_64 4 (by decide +kernel)) (by decide +kernel)
theorem dX12_pairsOf_71 : decode cX12_pairsOf 71 = .ok (.iload_n 2, 1) := bq_o28 (bq_of bwX12_pairsOf_64 7 (by decide +kernel))
theorem dX12_pairsOf_72 : decode cX12_pairsOf 72 = .ok (.ireturn, 1) := bq_o172 (bq_of bwX12_pairsOf_64 8 (by decide +kernel))
def bwX12_seekEver_0l : List Nat := [27, 42, 180, 1, 1, 160, 0, 105, 4, 54, 4, 3, 54, 5, 21, 5, 42, 180, 1, 1, 162, 0, 36, 21, 4, 153, 0, 31, 44, 29, 42, 180, 0, 61, 21, 5, 46, 184, 1, 59, 154, 0, 7, 4, 167, 0, 4, 3, 54, 4, 132, 5, 1, 167, 255, 217, 21, 4, 153, 0, 51, 42, 29, 42, 180, 1]
theorem bwX12_seekEver_0 : ((cX12_seekEver.data.toList.drop 0).take 66).map UInt8.toNat = bwX12_seekEver_0l := by decide +kernel
theorem dX12_seekEver_0 : decode cX12_seekEver 0 = .ok (.iload_n 1, 1) := bq_o27 (bq_of bwX12_seekEver_0 0 (by decide +kernel))
theorem dX12_seekEver_1 : decode cX12_seekEver 1 = .ok (.aload_n 0, 1) := bq_o42 (bq_of bwX12_seekEver_0 1 (by decide +kernel))
theorem dX12_seekEver_2 : decode cX12_seekEver 2 = .ok (.getfield 257, 3) := bq_o180 (a := 1) (b := 1) (bq_3 bwX12_seekEver_0 2 (by decide +kernel)) rfl
theorem dX12_seekEver_5 : decode cX12_seekEver 5 = .ok (.if_icmp .ne 105, 3) := bq_o160 (a := 0) (b := 105) (bq_3 bwX12_seekEver_0 5 (by decide +kernel)) (by decide +kernel)
theorem dX12_seekEver_8 : decode cX12_seekEver 8 = .ok (.iconst 1, 1) := bq_o4 (bq_of bwX12_seekEver_0 8 (by decide +kernel))
theorem dX12_seekEver_9 : decode cX12_seekEver 9 = .ok (.istore 4, 2) := bq_o54 (a := 4) (bq_2 bwX12_seekEver_0 9 (by decide +kernel)) rfl
theorem dX12_seekEver_11 : decode cX12_seekEver 11 = .ok (.iconst 0, 1) := bq_o3 (bq_of bwX12_seekEver_0 11 (by decide +kernel))
theorem dX12_seekEver_12 : decode cX12_seekEver 12 = .ok (.istore 5, 2) := bq_o54 (a := 5) (bq_2 bwX12_seekEver_0 12 (by decide +kernel)) rfl
theorem dX12_seekEver_14 : decode cX12_seekEver 14 = .ok (.iload 5, 2) := bq_o21 (a := 5) (bq_2 bwX12_seekEver_0 14 (by decide +kernel)) rfl
theorem dX12_seekEver_16 : decode cX12_seekEver 16 = .ok (.aload_n 0, 1) := bq_o42 (bq_of bwX12_seekEver_0 16 (by decide +kernel))
theorem dX12_seekEver_17 : decode cX12_seekEver 17 = .ok (.getfield 257, 3) := bq_o180 (a := 1) (b := 1) (bq_3 bwX12_seekEver_0 17 (by decide +kernel)) rfl
theorem dX12_seekEver_20 : decode cX12_seekEver 20 = .ok (.if_icmp .ge 36, 3) := bq_o162 (a := 0) (b := 36) (bq_3 bwX12_seekEver_0 20 (by decide +kernel)) (by decide +kernel)
theorem dX12_seekEver_23 : decode cX12_seekEver 23 = .ok (.iload 4, 2) := bq_o21 (a := 4) (bq_2 bwX12_seekEver_0 23 (by decide +kernel)) rfl
theorem dX12_seekEver_25 : decode cX12_seekEver 25 = .ok (.ifCond .eq 31, 3) := bq_o153 (a := 0) (b := 31) (bq_3 bwX12_seekEver_0 25 (by decide +kernel)) (by decide +kernel)
theorem dX12_seekEver_28 : decode cX12_seekEver 28 = .ok (.aload_n 2, 1) := bq_o44 (bq_of bwX12_seekEver_0 28 (by decide +kernel))
theorem dX12_seekEver_29 : decode cX12_seekEver 29 = .ok (.iload_n 3, 1) := bq_o29 (bq_of bwX12_seekEver_0 29 (by decide +kernel))
theorem dX12_seekEver_30 : decode cX12_seekEver 30 = .ok (.aload_n 0, 1) := bq_o42 (bq_of bwX12_seekEver_0 30 (by decide +kernel))
theorem dX12_seekEver_31 : decode cX12_seekEver 31 = .ok (.getfield 61, 3) := bq_o180 (a := 0) (b := 61) (bq_3 bwX12_seekEver_0 31 (by decide +kernel)) rfl
theorem dX12_seekEver_34 : decode cX12_seekEver 34 = .ok (.iload 5, 2) := bq_o21 (a := 5) (bq_2 bwX12_seekEver_0 34 (by decide +kernel)) rfl
theorem dX12_seekEver_36 : decode cX12_seekEver 36 = .ok (.iaload, 1) := bq_o46 (bq_of bwX12_seekEver_0 36 (by decide +kernel))
theorem dX12_seekEver_37 : decode cX12_seekEver 37 = .ok (.invokestatic 315, 3) := bq_o184 (a := 1) (b := 59) (bq_3 bwX12_seekEver_0 37 (by decide +kernel)) rfl
theorem dX12_seekEver_40 : decode cX12_seekEver 40 = .ok (.ifCond .ne 7, 3) := bq_o154 (a := 0) (b := 7) (bq_3 bwX12_seekEver_0 40 (by decide +kernel)) (by decide +kernel)
theorem dX12_seekEver_43 : decode cX12_seekEver 43 = .ok (.iconst 1, 1) := bq_o4 (bq_of bwX12_seekEver_0 43 (by decide +kernel))
theorem dX12_seekEver_44 : decode cX12_seekEver 44 = .ok (.goto 4, 3) := bq_o167 (a := 0) (b := 4) (bq_3 bwX12_seekEver_0 44 (by decide +kernel)) (by decide +kernel)
theorem dX12_seekEver_47 : decode cX12_seekEver 47 = .ok (.iconst 0, 1) := bq_o3 (bq_of bwX12_seekEver_0 47 (by decide +kernel))
theorem dX12_seekEver_48 : decode cX12_seekEver 48 = .ok (.istore 4, 2) := bq_o54 (a := 4) (bq_2 bwX12_seekEver_0 48 (by decide +kernel)) rfl
theorem dX12_seekEver_50 : decode cX12_seekEver 50 = .ok (.iinc 5 1, 3) := bq_o132 (a := 5) (b := 1) (bq_3 bwX12_seekEver_0 50 (by decide +kernel)) rfl (by decide +kernel)
theorem dX12_seekEver_53 : decode cX12_seekEver 53 = .ok (.goto (-39), 3) := bq_o167 (a := 255) (b := 217) (bq_3 bwX12_seekEver_0 53 (by decide +kernel)) (by decide +kernel)
theorem dX12_seekEver_56 : decode cX12_seekEver 56 = .ok (.iload 4, 2) := bq_o21 (a := 4) (bq_2 bwX12_seekEver_0 56 (by decide +kernel)) rfl
theorem dX12_seekEver_58 : decode cX12_seekEver 58 = .ok (.ifCond .eq 51, 3) := bq_o153 (a := 0) (b := 51) (bq_3 bwX12_seekEver_0 58 (by decide +kernel)) (by decide +kernel)
theorem dX12_seekEver_61 : decode cX12_seekEver 61 = .ok (.aload_n 0, 1) := bq_o42 (bq_of bwX12_seekEver_0 61 (by decide +kernel))
theorem dX12_seekEver_62 : decode cX12_seekEver 62 = .ok (.iload_n 3, 1) := bq_o29 (bq_of bwX12_seekEver_0 62 (by decide +kernel))
theorem dX12_seekEver_63 : decode cX12_seekEver 63 = .ok (.aload_n 0, 1) := bq_o42 (bq_of bwX12_seekEver_0 63 (by decide +kernel))
def bwX12_seekEver_64l : List Nat := [180, 1, 63, 164, 0, 7, 29, 167, 0, 7, 42, 180, 1, 63, 181, 1, 63, 42, 42, 180, 1, 66, 2, 159, 0, 11, 29, 42, 180, 1, 66, 162, 0, 7, 29, 167, 0, 7, 42, 180, 1, 66, 181, 1, 66, 177, 44, 29, 42, 180, 0, 61, 27, 46, 184, 1, 59, 153, 0, 23, 44, 29, 42, 180, 0, 61]
theorem bwX12_seekEver_64 : ((cX12_seekEver.data.toList.drop 64).take 66).map UInt8.toNat = bwX12_seekEver_64l := by decide +kernel
theorem dX12_seekEver_64 : decode cX12_seekEver 64 = .ok (.getfield 319, 3) := bq_o180 (a := 1) (b := 63) (bq_3 bwX12_seekEver_64 0 (by decide +kernel)) rfl
theorem dX12_seekEver_67 : decode cX12_seekEver 67 = .ok (.if_icmp .le 7, 3) := bq_o164 (a := 0) (b := 7) (bq_3 bwX12_seekEver_64 3 (by decide +kernel)) (by decide +kernel)
theorem dX12_seekEver_70 : decode cX12_seekEver 70 = .ok (.iload_n 3, 1) := bq_o29 (bq_of bwX12_seekEver_64 6 (by decide +kernel))
theorem dX12_seekEver_71 : decode cX12_seekEver 71 = .ok (.goto 7, 3) := bq_o167 (a := 0) (b := 7) (bq_3 bwX12_seekEver_64 7 (by decide +kernel)) (by decide +kernel)
theorem dX12_seekEver_74 : decode cX12_seekEver 74 = .ok (.aload_n 0, 1) := bq_o42 (bq_of bwX12_seekEver_64 10 (by decide +kernel))
theorem dX12_seekEver_75 : decode cX12_seekEver 75 = .ok (.getfield 319, 3) := bq_o180 (a := 1) (b := 63) (bq_3 bwX12_seekEver_64 11 (by decide +kernel)) rfl
theorem dX12_seekEver_78 : decode cX12_seekEver 78 = .ok (.putfield 319, 3) := bq_o181 (a := 1) (b := 63) (bq_3 bwX12_seekEver_64 14 (by decide +kernel)) rfl
theorem dX12_seekEver_81 : decode cX12_seekEver 81 = .ok (.aload_n 0, 1) := bq_o42 (bq_of bwX12_seekEver_64 17 (by decide +kernel))
theorem dX12_seekEver_82 : decode cX12_seekEver 82 = .ok (.aload_n 0, 1) := bq_o42 (bq_of bwX12_seekEver_64 18 (by decide +kernel))
theorem dX12_seekEver_83 : decode cX12_seekEver 83 = .ok (.getfield 322, 3) := bq_o180 (a := 1) (b := 66) (bq_3 bwX12_seekEver_64 19 (by decide +kernel)) rfl
theorem dX12_seekEver_86 : decode cX12_seekEver 86 = .ok (.iconst (-1), 1) := bq_o2 (bq_of bwX12_seekEver_64 22 (by decide +kernel))
theorem dX12_seekEver_87 : decode cX12_seekEver 87 = .ok (.if_icmp .eq 11, 3) := bq_o159 (a := 0) (b := 11) (bq_3 bwX12_seekEver_64 23 (by decide +kernel)) (by decide +kernel)
theorem dX12_seekEver_90 : decode cX12_seekEver 90 = .ok (.iload_n 3, 1) := bq_o29 (bq_of bwX12_seekEver_64 26 (by decide +kernel))
theorem dX12_seekEver_91 : decode cX12_seekEver 91 = .ok (.aload_n 0, 1) := bq_o42 (bq_of bwX12_seekEver_64 27 (by decide +kernel))
theorem dX12_seekEver_92 : decode cX12_seekEver 92 = .ok (.getfield 322, 3) := bq_o180 (a := 1) (b := 66) (bq_3 bwX12_seekEver_64 28 (by decide +kernel)) rfl
theorem dX12_seekEver_95 : decode cX12_seekEver 95 = .ok (.if_icmp .ge 7, 3) := bq_o162 (a := 0) (b := 7) (bq_3 bwX12_seekEver_64 31 (by decide +kernel)) (by decide +kernel)
theorem dX12_seekEver_98 : decode cX12_seekEver 98 = .ok (.iload_n 3, 1) := bq_o29 (bq_of bwX12_seekEver_64 34 (by decide +kernel))
theorem dX12_seekEver_99 : decode cX12_seekEver 99 = .ok (.goto 7, 3) := bq_o167 (a := 0) (b := 7) (bq_3 bwX12_seekEver_64 35 (by decide +kernel)) (by decide +kernel)
theorem dX12_seekEver_102 : decode cX12_seekEver 102 = .ok (.aload_n 0, 1) := bq_o42 (bq_of bwX12_seekEver_64 38 (by decide +kernel))
theorem dX12_seekEver_103 : decode cX12_seekEver 103 = .ok (.getfield 322, 3) := bq_o180 (a := 1) (b := 66) (bq_3 bwX12_seekEver_64 39 (by decide +kernel)) rfl
theorem dX12_seekEver_106 : decode cX12_seekEver 106 = .ok (.putfield 322, 3) := bq_o181 (a := 1) (b := 66) (bq_3 bwX12_seekEver_64 42 (by decide +kernel)) rfl
theorem dX12_seekEver_109 : decode cX12_seekEver 109 = .ok (.return_, 1) := bq_o177 (bq_of bwX12_seekEver_64 45 (by decide +kernel))
theorem dX12_seekEver_110 : decode cX12_seekEver 110 = .ok (.aload_n 2, 1) := bq_o44 (bq_of bwX12_seekEver_64 46 (by decide +kernel))
theorem dX12_seekEver_111 : decode cX12_seekEver 111 = .ok (.iload_n 3, 1) := bq_o29 (bq_of bwX12_seekEver_64 47 (by decide +kernel))
theorem dX12_seekEver_112 : decode cX12_seekEver 112 = .ok (.aload_n 0, 1) := bq_o42 (bq_of bwX12_seekEver_64 48 (by decide +kernel))
theorem dX12_seekEver_113 : decode cX12_seekEver 113 = .ok (.getfield 61, 3) := bq_o180 (a := 0) (b := 61) (bq_3 bwX12_seekEver_64 49 (by decide +kernel)) rfl
theorem dX12_seekEver_116 : decode cX12_seekEver 116 = .ok (.iload_n 1, 1) := bq_o27 (bq_of bwX12_seekEver_64 52 (by decide +kernel))
theorem dX12_seekEver_117 : decode cX12_seekEver 117 = .ok (.iaload, 1) := bq_o46 (bq_of bwX12_seekEver_64 53 (by decide +kernel))
theorem dX12_seekEver_118 : decode cX12_seekEver 118 = .ok (.invokestatic 315, 3) := bq_o184 (a := 1) (b := 59) (bq_3 bwX12_seekEver_64 54 (by decide +kernel)) rfl
theorem dX12_seekEver_121 : decode cX12_seekEver 121 = .ok (.ifCond .eq 23, 3) := bq_o153 (a := 0) (b := 23) (bq_3 bwX12_seekEver_64 57 (by decide +kernel)) (by decide +kernel)
theorem dX12_seekEver_124 : decode cX12_seekEver 124 = .ok (.aload_n 2, 1) := bq_o44 (bq_of bwX12_seekEver_64 60 (by decide +kernel))
theorem dX12_seekEver_125 : decode cX12_seekEver 125 = .ok (.iload_n 3, 1) := bq_o29 (bq_of bwX12_seekEver_64 61 (by decide +kernel))
theorem dX12_seekEver_126 : decode cX12_seekEver 126 = .ok (.aload_n 0, 1) := bq_o42 (bq_of bwX12_seekEver_64 62 (by decide +kernel))
theorem dX12_seekEver_127 : decode cX12_seekEver 127 = .ok (.getfield 61, 3) := bq_o180 (a := 0) (b := 61) (bq_3 bwX12_seekEver_64 63 (by decide +kernel)) rfl
def bwX12_seekEver_128l : List Nat := [0, 61, 27, 46, 79, 42, 27, 4, 96, 44, 29, 4, 96, 182, 1, 69, 42, 27, 4, 96, 44, 29, 182, 1, 69, 177]
theorem bwX12_seekEver_128 : ((cX12_seekEver.data.toList.drop 128).take 26).map UInt8.toNat = bwX12_seekEver_128l := by decide +kernel
theorem dX12_seekEver_130 : decode cX12_seekEver 130 = .ok (.iload_n 1, 1) := bq_o27 (bq_of bwX12_seekEver_128 2 (by decide +kernel))
theorem dX12_seekEver_131 : decode cX12_seekEver 131 = .ok (.iaload, 1) := bq_o46 (bq_of bwX12_seekEver_128 3 (by decide +kernel))
theorem dX12_seekEver_132 : decode cX12_seekEver 132 = .ok (.iastore, 1) := bq_o79 (bq_of bwX12_seekEver_128 4 (by decide +kernel))
theorem dX12_seekEver_133 : decode cX12_seekEver 133 = .ok (.aload_n 0, 1) := bq_o42 (bq_of bwX12_seekEver_128 5 (by decide +kernel))
theorem dX12_seekEver_134 : decode cX12_seekEver 134 = .ok (.iload_n 1, 1) := bq_o27 (bq_of bwX12_seekEver_128 6 (by decide +kernel))
theorem dX12_seekEver_135 : decode cX12_seekEver 135 = .ok (.iconst 1, 1) := bq_o4 (bq_of bwX12_seekEver_128 7 (by decide +kernel))
theorem dX12_seekEver_136 : decode cX12_seekEver 136 = .ok (.iadd, 1) := bq_o96 (bq_of bwX12_seekEver_128 8 (by decide +kernel))
theorem dX12_seekEver_137 : decode cX12_seekEver 137 = .ok (.aload_n 2, 1) := bq_o44 (bq_of bwX12_seekEver_128 9 (by decide +kernel))
theorem dX12_seekEver_138 : decode cX12_seekEver 138 = .ok (.iload_n 3, 1) := bq_o29 (bq_of bwX12_seekEver_128 10 (by decide +kernel))
theorem dX12_seekEver_139 : decode cX12_seekEver 139 = .ok (.iconst 1, 1) := bq_o4 (bq_of bwX12_seekEver_128 11 (by decide +kernel))
theorem dX12_seekEver_140 : decode cX12_seekEver 140 = .ok (.iadd, 1) := bq_o96 (bq_of bwX12_seekEver_128 12 (by decide +kernel))
theorem dX12_seekEver_141 : decode cX12_seekEver 141 = .ok (.invokevirtual 325, 3) := bq_o182 (a := 1) (b := 69) (bq_3 bwX12_seekEver_128 13 (by decide +kernel)) rfl
theorem dX12_seekEver_144 : decode cX12_seekEver 144 = .ok (.aload_n 0, 1) := bq_o42 (bq_of bwX12_seekEver_128 16 (by decide +kernel))
theorem dX12_seekEver_145 : decode cX12_seekEver 145 = .ok (.iload_n 1, 1) := bq_o27 (bq_of bwX12_seekEver_128 17 (by decide +kernel))
theorem dX12_seekEver_146 : decode cX12_seekEver 146 = .ok (.iconst 1, 1) := bq_o4 (bq_of bwX12_seekEver_128 18 (by decide +kernel))
theorem dX12_seekEver_147 : decode cX12_seekEver 147 = .ok (.iadd, 1) := bq_o96 (bq_of bwX12_seekEver_128 19 (by decide +kernel))
theorem dX12_seekEver_148 : decode cX12_seekEver 148 = .ok (.aload_n 2, 1) := bq_o44 (bq_of bwX12_seekEver_128 20 (by decide +kernel))
theorem dX12_seekEver_149 : decode cX12_seekEver 149 = .ok (.iload_n 3, 1) := bq_o29 (bq_of bwX12_seekEver_128 21 (by decide +kernel))
theorem dX12_seekEver_150 : decode cX12_seekEver 150 = .ok (.invokevirtual 325, 3) := bq_o182 (a := 1) (b := 69) (bq_3 bwX12_seekEver_128 22 (by decide +kernel)) rfl
theorem dX12_seekEver_153 : decode cX12_seekEver 153 = .ok (.return_, 1) := bq_o177 (bq_of bwX12_seekEver_128 25 (by decide +kernel))
