theorem dX12_isApart_0 : decode cX12_isApart 0 = .ok (.iconst 0, 1) := by decide +kernel
theorem dX12_isApart_1 : decode cX12_isApart 1 = .ok (.istore_n 3, 1) := by decide +kernel
theorem dX12_isApart_2 : decode cX12_isApart 2 = .ok (.iload_n 3, 1) := by decide +kernel
theorem dX12_isApart_3 : decode cX12_isApart 3 = .ok (.iload_n 1, 1) := by decide +kernel
theorem dX12_isApart_4 : decode cX12_isApart 4 = .ok (.if_icmp .ge 23, 3) := by decide +kernel
theorem dX12_isApart_7 : decode cX12_isApart 7 = .ok (.aload_n 0, 1) := by decide +kernel
theorem dX12_isApart_8 : decode cX12_isApart 8 = .ok (.iload_n 3, 1) := by decide +kernel
theorem dX12_isApart_9 : decode cX12_isApart 9 = .ok (.iaload, 1) := by decide +kernel
theorem dX12_isApart_10 : decode cX12_isApart 10 = .ok (.iload_n 2, 1) := by decide +kernel
theorem dX12_isApart_11 : decode cX12_isApart 11 = .ok (.iand, 1) := by decide +kernel
theorem dX12_isApart_12 : decode cX12_isApart 12 = .ok (.invokestatic 254, 3) := by decide +kernel
theorem dX12_isApart_15 : decode cX12_isApart 15 = .ok (.iconst 1, 1) := by decide +kernel
theorem dX12_isApart_16 : decode cX12_isApart 16 = .ok (.if_icmp .le 5, 3) := by decide +kernel
theorem dX12_isApart_19 : decode cX12_isApart 19 = .ok (.iconst 0, 1) := by decide +kernel
theorem dX12_isApart_20 : decode cX12_isApart 20 = .ok (.ireturn, 1) := by decide +kernel
theorem dX12_isApart_21 : decode cX12_isApart 21 = .ok (.iinc 3 1, 3) := by decide +kernel
theorem dX12_isApart_24 : decode cX12_isApart 24 = .ok (.goto (-22), 3) := by decide +kernel
theorem dX12_isApart_27 : decode cX12_isApart 27 = .ok (.iconst 1, 1) := by decide +kernel
theorem dX12_isApart_28 : decode cX12_isApart 28 = .ok (.ireturn, 1) := by decide +kernel
theorem dX12_findEver_0 : decode cX12_findEver 0 = .ok (.aload_n 0, 1) := by decide +kernel
theorem dX12_findEver_1 : decode cX12_findEver 1 = .ok (.iconst 0, 1) := by decide +kernel
theorem dX12_findEver_2 : decode cX12_findEver 2 = .ok (.putfield 319, 3) := by decide +kernel
theorem dX12_findEver_5 : decode cX12_findEver 5 = .ok (.aload_n 0, 1) := by decide +kernel
theorem dX12_findEver_6 : decode cX12_findEver 6 = .ok (.iconst (-1), 1) := by decide +kernel
theorem dX12_findEver_7 : decode cX12_findEver 7 = .ok (.putfield 322, 3) := by decide +kernel
theorem dX12_findEver_10 : decode cX12_findEver 10 = .ok (.aload_n 0, 1) := by decide +kernel
theorem dX12_findEver_11 : decode cX12_findEver 11 = .ok (.getfield 51, 3) := by decide +kernel
theorem dX12_findEver_14 : decode cX12_findEver 14 = .ok (.iconst 2, 1) := by decide +kernel
theorem dX12_findEver_15 : decode cX12_findEver 15 = .ok (.if_icmp .ne 24, 3) := by decide +kernel
theorem dX12_findEver_18 : decode cX12_findEver 18 = .ok (.aload_n 0, 1) := by decide +kernel
theorem dX12_findEver_19 : decode cX12_findEver 19 = .ok (.aload_n 0, 1) := by decide +kernel
theorem dX12_findEver_20 : decode cX12_findEver 20 = .ok (.aload_n 0, 1) := by decide +kernel
theorem dX12_findEver_21 : decode cX12_findEver 21 = .ok (.invokevirtual 92, 3) := by decide +kernel
theorem dX12_findEver_24 : decode cX12_findEver 24 = .ok (.invokevirtual 329, 3) := by decide +kernel
theorem dX12_findEver_27 : decode cX12_findEver 27 = .ok (.putfield 319, 3) := by decide +kernel
theorem dX12_findEver_30 : decode cX12_findEver 30 = .ok (.aload_n 0, 1) := by decide +kernel
theorem dX12_findEver_31 : decode cX12_findEver 31 = .ok (.aload_n 0, 1) := by decide +kernel
theorem dX12_findEver_32 : decode cX12_findEver 32 = .ok (.getfield 319, 3) := by decide +kernel
theorem dX12_findEver_35 : decode cX12_findEver 35 = .ok (.putfield 322, 3) := by decide +kernel
theorem dX12_findEver_38 : decode cX12_findEver 38 = .ok (.return_, 1) := by decide +kernel
theorem dX12_findEver_39 : decode cX12_findEver 39 = .ok (.aload_n 0, 1) := by decide +kernel
theorem dX12_findEver_40 : decode cX12_findEver 40 = .ok (.invokevirtual 269, 3) := by decide +kernel
theorem dX12_findEver_43 : decode cX12_findEver 43 = .ok (.aload_n 0, 1) := by decide +kernel
theorem dX12_findEver_44 : decode cX12_findEver 44 = .ok (.iconst 0, 1) := by decide +kernel
theorem dX12_findEver_45 : decode cX12_findEver 45 = .ok (.bipush 40, 2) := by decide +kernel
theorem dX12_findEver_47 : decode cX12_findEver 47 = .ok (.newarray .int, 2) := by decide +kernel
theorem dX12_findEver_49 : decode cX12_findEver 49 = .ok (.iconst 0, 1) := by decide +kernel
theorem dX12_findEver_50 : decode cX12_findEver 50 = .ok (.invokevirtual 325, 3) := by decide +kernel
theorem dX12_findEver_53 : decode cX12_findEver 53 = .ok (.return_, 1) := by decide +kernel
theorem dX12_ever_0 : decode cX12_ever 0 = .ok (.iload_n 1, 1) := by decide +kernel
theorem dX12_ever_1 : decode cX12_ever 1 = .ok (.i2l, 1) := by decide +kernel
theorem dX12_ever_2 : decode cX12_ever 2 = .ok (.lconst 0, 1) := by decide +kernel
theorem dX12_ever_3 : decode cX12_ever 3 = .ok (.lconst 1, 1) := by decide +kernel
theorem dX12_ever_4 : decode cX12_ever 4 = .ok (.invokestatic 88, 3) := by decide +kernel
theorem dX12_ever_7 : decode cX12_ever 7 = .ok (.ifCond .ne 10, 3) := by decide +kernel
theorem dX12_ever_10 : decode cX12_ever 10 = .ok (.aload_n 0, 1) := by decide +kernel
theorem dX12_ever_11 : decode cX12_ever 11 = .ok (.bipush (-2), 2) := by decide +kernel
theorem dX12_ever_13 : decode cX12_ever 13 = .ok (.invokevirtual 102, 3) := by decide +kernel
theorem dX12_ever_16 : decode cX12_ever 16 = .ok (.ireturn, 1) := by decide +kernel
theorem dX12_ever_17 : decode cX12_ever 17 = .ok (.aload_n 0, 1) := by decide +kernel
theorem dX12_ever_18 : decode cX12_ever 18 = .ok (.invokevirtual 332, 3) := by decide +kernel
theorem dX12_ever_21 : decode cX12_ever 21 = .ok (.iload_n 1, 1) := by decide +kernel
theorem dX12_ever_22 : decode cX12_ever 22 = .ok (.ifCond .ne 10, 3) := by decide +kernel
theorem dX12_ever_25 : decode cX12_ever 25 = .ok (.aload_n 0, 1) := by decide +kernel
theorem dX12_ever_26 : decode cX12_ever 26 = .ok (.getfield 319, 3) := by decide +kernel
theorem dX12_ever_29 : decode cX12_ever 29 = .ok (.goto 7, 3) := by decide +kernel
theorem dX12_ever_32 : decode cX12_ever 32 = .ok (.aload_n 0, 1) := by decide +kernel
theorem dX12_ever_33 : decode cX12_ever 33 = .ok (.getfield 322, 3) := by decide +kernel
theorem dX12_ever_36 : decode cX12_ever 36 = .ok (.ireturn, 1) := by decide +kernel
theorem dX12_hire_0 : decode cX12_hire 0 = .ok (.aload_n 0, 1) := by decide +kernel
theorem dX12_hire_1 : decode cX12_hire 1 = .ok (.invokevirtual 269, 3) := by decide +kernel
theorem dX12_hire_4 : decode cX12_hire 4 = .ok (.aload_n 0, 1) := by decide +kernel
theorem dX12_hire_5 : decode cX12_hire 5 = .ok (.aload_n 0, 1) := by decide +kernel
theorem dX12_hire_6 : decode cX12_hire 6 = .ok (.invokevirtual 92, 3) := by decide +kernel
theorem dX12_hire_9 : decode cX12_hire 9 = .ok (.invokevirtual 278, 3) := by decide +kernel
theorem dX12_hire_12 : decode cX12_hire 12 = .ok (.istore_n 1, 1) := by decide +kernel
theorem dX12_hire_13 : decode cX12_hire 13 = .ok (.aload_n 0, 1) := by decide +kernel
theorem dX12_hire_14 : decode cX12_hire 14 = .ok (.invokevirtual 238, 3) := by decide +kernel
theorem dX12_hire_17 : decode cX12_hire 17 = .ok (.astore_n 2, 1) := by decide +kernel
theorem dX12_hire_18 : decode cX12_hire 18 = .ok (.aload_n 2, 1) := by decide +kernel
theorem dX12_hire_19 : decode cX12_hire 19 = .ok (.iconst 0, 1) := by decide +kernel
theorem dX12_hire_20 : decode cX12_hire 20 = .ok (.iconst 0, 1) := by decide +kernel
theorem dX12_hire_21 : decode cX12_hire 21 = .ok (.invokevirtual 127, 3) := by decide +kernel
theorem dX12_hire_24 : decode cX12_hire 24 = .ok (.aload_n 2, 1) := by decide +kernel
theorem dX12_hire_25 : decode cX12_hire 25 = .ok (.invokevirtual 269, 3) := by decide +kernel
theorem dX12_hire_28 : decode cX12_hire 28 = .ok (.aload_n 2, 1) := by decide +kernel
theorem dX12_hire_29 : decode cX12_hire 29 = .ok (.aload_n 2, 1) := by decide +kernel
theorem dX12_hire_30 : decode cX12_hire 30 = .ok (.invokevirtual 92, 3) := by decide +kernel
theorem dX12_hire_33 : decode cX12_hire 33 = .ok (.invokevirtual 278, 3) := by decide +kernel
theorem dX12_hire_36 : decode cX12_hire 36 = .ok (.iload_n 1, 1) := by decide +kernel
theorem dX12_hire_37 : decode cX12_hire 37 = .ok (.isub, 1) := by decide +kernel
theorem dX12_hire_38 : decode cX12_hire 38 = .ok (.ireturn, 1) := by decide +kernel
theorem dX12_feast_0 : decode cX12_feast 0 = .ok (.aload_n 0, 1) := by decide +kernel
theorem dX12_feast_1 : decode cX12_feast 1 = .ok (.iload_n 1, 1) := by decide +kernel
theorem dX12_feast_2 : decode cX12_feast 2 = .ok (.invokevirtual 263, 3) := by decide +kernel
theorem dX12_feast_5 : decode cX12_feast 5 = .ok (.ifCond .ne 10, 3) := by decide +kernel
theorem dX12_feast_8 : decode cX12_feast 8 = .ok (.aload_n 0, 1) := by decide +kernel
theorem dX12_feast_9 : decode cX12_feast 9 = .ok (.bipush (-2), 2) := by decide +kernel
theorem dX12_feast_11 : decode cX12_feast 11 = .ok (.invokevirtual 102, 3) := by decide +kernel
theorem dX12_feast_14 : decode cX12_feast 14 = .ok (.ireturn, 1) := by decide +kernel
theorem dX12_feast_15 : decode cX12_feast 15 = .ok (.aload_n 0, 1) := by decide +kernel
theorem dX12_feast_16 : decode cX12_feast 16 = .ok (.invokevirtual 332, 3) := by decide +kernel
theorem dX12_feast_19 : decode cX12_feast 19 = .ok (.aload_n 0, 1) := by decide +kernel
theorem dX12_feast_20 : decode cX12_feast 20 = .ok (.invokevirtual 238, 3) := by decide +kernel
theorem dX12_feast_23 : decode cX12_feast 23 = .ok (.astore_n 2, 1) := by decide +kernel
theorem dX12_feast_24 : decode cX12_feast 24 = .ok (.aload_n 2, 1) := by decide +kernel
theorem dX12_feast_25 : decode cX12_feast 25 = .ok (.iload_n 1, 1) := by decide +kernel
theorem dX12_feast_26 : decode cX12_feast 26 = .ok (.invokevirtual 213, 3) := by decide +kernel
theorem dX12_feast_29 : decode cX12_feast 29 = .ok (.pop, 1) := by decide +kernel
theorem dX12_feast_30 : decode cX12_feast 30 = .ok (.aload_n 2, 1) := by decide +kernel
theorem dX12_feast_31 : decode cX12_feast 31 = .ok (.invokevirtual 332, 3) := by decide +kernel
theorem dX12_feast_34 : decode cX12_feast 34 = .ok (.aload_n 0, 1) := by decide +kernel
theorem dX12_feast_35 : decode cX12_feast 35 = .ok (.getfield 319, 3) := by decide +kernel
theorem dX12_feast_38 : decode cX12_feast 38 = .ok (.aload_n 2, 1) := by decide +kernel
theorem dX12_feast_39 : decode cX12_feast 39 = .ok (.getfield 319, 3) := by decide +kernel
theorem dX12_feast_42 : decode cX12_feast 42 = .ok (.isub, 1) := by decide +kernel
theorem dX12_feast_43 : decode cX12_feast 43 = .ok (.ireturn, 1) := by decide +kernel
theorem dX12_closesOf_0 : decode cX12_closesOf 0 = .ok (.aload_n 0, 1) := by decide +kernel
theorem dX12_closesOf_1 : decode cX12_closesOf 1 = .ok (.invokevirtual 238, 3) := by decide +kernel
theorem dX12_closesOf_4 : decode cX12_closesOf 4 = .ok (.astore_n 3, 1) := by decide +kernel
theorem dX12_closesOf_5 : decode cX12_closesOf 5 = .ok (.aload_n 3, 1) := by decide +kernel
theorem dX12_closesOf_6 : decode cX12_closesOf 6 = .ok (.iload_n 1, 1) := by decide +kernel
theorem dX12_closesOf_7 : decode cX12_closesOf 7 = .ok (.iload_n 2, 1) := by decide +kernel
theorem dX12_closesOf_8 : decode cX12_closesOf 8 = .ok (.iconst 0, 1) := by decide +kernel
theorem dX12_closesOf_9 : decode cX12_closesOf 9 = .ok (.invokevirtual 142, 3) := by decide +kernel
theorem dX12_closesOf_12 : decode cX12_closesOf 12 = .ok (.aload_n 0, 1) := by decide +kernel
theorem dX12_closesOf_13 : decode cX12_closesOf 13 = .ok (.aload_n 0, 1) := by decide +kernel
theorem dX12_closesOf_14 : decode cX12_closesOf 14 = .ok (.invokevirtual 92, 3) := by decide +kernel
theorem dX12_closesOf_17 : decode cX12_closesOf 17 = .ok (.invokevirtual 272, 3) := by decide +kernel
theorem dX12_closesOf_20 : decode cX12_closesOf 20 = .ok (.aload_n 3, 1) := by decide +kernel
theorem dX12_closesOf_21 : decode cX12_closesOf 21 = .ok (.aload_n 0, 1) := by decide +kernel
theorem dX12_closesOf_22 : decode cX12_closesOf 22 = .ok (.invokevirtual 92, 3) := by decide +kernel
theorem dX12_closesOf_25 : decode cX12_closesOf 25 = .ok (.invokevirtual 272, 3) := by decide +kernel
theorem dX12_closesOf_28 : decode cX12_closesOf 28 = .ok (.isub, 1) := by decide +kernel
theorem dX12_closesOf_29 : decode cX12_closesOf 29 = .ok (.ireturn, 1) := by decide +kernel
theorem dX12_closes_0 : decode cX12_closes 0 = .ok (.aload_n 0, 1) := by decide +kernel
theorem dX12_closes_1 : decode cX12_closes 1 = .ok (.iload_n 1, 1) := by decide +kernel
theorem dX12_closes_2 : decode cX12_closes 2 = .ok (.iload_n 2, 1) := by decide +kernel
theorem dX12_closes_3 : decode cX12_closes 3 = .ok (.invokevirtual 135, 3) := by decide +kernel
theorem dX12_closes_6 : decode cX12_closes 6 = .ok (.ifCond .eq 12, 3) := by decide +kernel
theorem dX12_closes_9 : decode cX12_closes 9 = .ok (.aload_n 0, 1) := by decide +kernel
theorem dX12_closes_10 : decode cX12_closes 10 = .ok (.iload_n 1, 1) := by decide +kernel
theorem dX12_closes_11 : decode cX12_closes 11 = .ok (.iload_n 2, 1) := by decide +kernel
theorem dX12_closes_12 : decode cX12_closes 12 = .ok (.invokevirtual 335, 3) := by decide +kernel
theorem dX12_closes_15 : decode cX12_closes 15 = .ok (.goto 9, 3) := by decide +kernel
theorem dX12_closes_18 : decode cX12_closes 18 = .ok (.aload_n 0, 1) := by decide +kernel
theorem dX12_closes_19 : decode cX12_closes 19 = .ok (.bipush (-2), 2) := by decide +kernel
theorem dX12_closes_21 : decode cX12_closes 21 = .ok (.invokevirtual 102, 3) := by decide +kernel
theorem dX12_closes_24 : decode cX12_closes 24 = .ok (.ireturn, 1) := by decide +kernel
def bwX12_worst_0l : List Nat := [2, 60, 2, 61, 3, 62, 29, 42, 180, 0, 85, 162, 0, 68, 29, 4, 96, 54, 4, 21, 4, 42, 180, 0, 85, 162, 0, 48, 42, 180, 0, 48, 29, 50, 21, 4, 46, 2, 160, 0, 29, 42, 29, 21, 4, 182, 1, 79, 54, 5, 21, 5, 28, 164, 0, 14, 16, 10, 29, 104, 21, 4, 96, 60, 21, 5]
theorem bwX12_worst_0 : ((cX12_worst.data.toList.drop 0).take 66).map UInt8.toNat = bwX12_worst_0l := by decide +kernel
theorem dX12_worst_0 : decode cX12_worst 0 = .ok (.iconst (-1), 1) := bq_o2 (bq_of bwX12_worst_0 0 (by decide +kernel))
theorem dX12_worst_1 : decode cX12_worst 1 = .ok (.istore_n 1, 1) := bq_o60 (bq_of bwX12_worst_0 1 (by decide +kernel))
theorem dX12_worst_2 : decode cX12_worst 2 = .ok (.iconst (-1), 1) := bq_o2 (bq_of bwX12_worst_0 2 (by decide +kernel))
theorem dX12_worst_3 : decode cX12_worst 3 = .ok (.istore_n 2, 1) := bq_o61 (bq_of bwX12_worst_0 3 (by decide +kernel))
theorem dX12_worst_4 : decode cX12_worst 4 = .ok (.iconst 0, 1) := bq_o3 (bq_of bwX12_worst_0 4 (by decide +kernel))
theorem dX12_worst_5 : decode cX12_worst 5 = .ok (.istore_n 3, 1) := bq_o62 (bq_of bwX12_worst_0 5 (by decide +kernel))
theorem dX12_worst_6 : decode cX12_worst 6 = .ok (.iload_n 3, 1) := bq_o29 (bq_of bwX12_worst_0 6 (by decide +kernel))
theorem dX12_worst_7 : decode cX12_worst 7 = .ok (.aload_n 0, 1) := bq_o42 (bq_of bwX12_worst_0 7 (by decide +kernel))
theorem dX12_worst_8 : decode cX12_worst 8 = .ok (.getfield 85, 3) := bq_o180 (a := 0) (b := 85) (bq_3 bwX12_worst_0 8 (by decide +kernel)) rfl
theorem dX12_worst_11 : decode cX12_worst 11 = .ok (.if_icmp .ge 68, 3) := bq_o162 (a := 0) (b := 68) (bq_3 bwX12_worst_0 11 (by decide +kernel)) (by decide +kernel)
theorem dX12_worst_14 : decode cX12_worst 14 = .ok (.iload_n 3, 1) := bq_o29 (bq_of bwX12_worst_0 14 (by decide +kernel))
theorem dX12_worst_15 : decode cX12_worst 15 = .ok (.iconst 1, 1) := bq_o4 (bq_of bwX12_worst_0 15 (by decide +kernel))
theorem dX12_worst_16 : decode cX12_worst 16 = .ok (.iadd, 1) := bq_o96 (bq_of bwX12_worst_0 16 (by decide +kernel))
theorem dX12_worst_17 : decode cX12_worst 17 = .ok (.istore 4, 2) := bq_o54 (a := 4) (bq_2 bwX12_worst_0 17 (by decide +kernel)) rfl
theorem dX12_worst_19 : decode cX12_worst 19 = .ok (.iload 4, 2) := bq_o21 (a := 4) (bq_2 bwX12_worst_0 19 (by decide +kernel)) rfl
theorem dX12_worst_21 : decode cX12_worst 21 = .ok (.aload_n 0, 1) := bq_o42 (bq_of bwX12_worst_0 21 (by decide +kernel))
theorem dX12_worst_22 : decode cX12_worst 22 = .ok (.getfield 85, 3) := bq_o180 (a := 0) (b := 85) (bq_3 bwX12_worst_0 22 (by decide +kernel)) rfl
theorem dX12_worst_25 : decode cX12_worst 25 = .ok (.if_icmp .ge 48, 3) := bq_o162 (a := 0) (b := 48) (bq_3 bwX12_worst_0 25 (by decide +kernel)) (by decide +kernel)
theorem dX12_worst_28 : decode cX12_worst 28 = .ok (.aload_n 0, 1) := bq_o42 (bq_of bwX12_worst_0 28 (by decide +kernel))
theorem dX12_worst_29 : decode cX12_worst 29 = .ok (.getfield 48, 3) := bq_o180 (a := 0) (b := 48) (bq_3 bwX12_worst_0 29 (by decide +kernel)) rfl
theorem dX12_worst_32 : decode cX12_worst 32 = .ok (.iload_n 3, 1) := bq_o29 (bq_of bwX12_worst_0 32 (by decide +kernel))
theorem dX12_worst_33 : decode cX12_worst 33 = .ok (.aaload, 1) := bq_o50 (bq_of bwX12_worst_0 33 (by decide +kernel))
theorem dX12_worst_34 : decode cX12_worst 34 = .ok (.iload 4, 2) := bq_o21 (a := 4) (bq_2 bwX12_worst_0 34 (by decide +kernel)) rfl
theorem dX12_worst_36 : decode cX12_worst 36 = .ok (.iaload, 1) := bq_o46 (bq_of bwX12_worst_0 36 (by decide +kernel))
theorem dX12_worst_37 : decode cX12_worst 37 = .ok (.iconst (-1), 1) := bq_o2 (bq_of bwX12_worst_0 37 (by decide +kernel))
theorem dX12_worst_38 : decode cX12_worst 38 = .ok (.if_icmp .ne 29, 3) := bq_o160 (a := 0) (b := 29) (bq_3 bwX12_worst_0 38 (by decide +kernel)) (by decide +kernel)
theorem dX12_worst_41 : decode cX12_worst 41 = .ok (.aload_n 0, 1) := bq_o42 (bq_of bwX12_worst_0 41 (by decide +kernel))
theorem dX12_worst_42 : decode cX12_worst 42 = .ok (.iload_n 3, 1) := bq_o29 (bq_of bwX12_worst_0 42 (by decide +kernel))
theorem dX12_worst_43 : decode cX12_worst 43 = .ok (.iload 4, 2) := bq_o21 (a := 4) (bq_2 bwX12_worst_0 43 (by decide +kernel)) rfl
theorem dX12_worst_45 : decode cX12_worst 45 = .ok (.invokevirtual 335, 3) := bq_o182 (a := 1) (b := 79) (bq_3 bwX12_worst_0 45 (by decide +kernel)) rfl
theorem dX12_worst_48 : decode cX12_worst 48 = .ok (.istore 5, 2) := bq_o54 (a := 5) (bq_2 bwX12_worst_0 48 (by decide +kernel)) rfl
theorem dX12_worst_50 : decode cX12_worst 50 = .ok (.iload 5, 2) := bq_o21 (a := 5) (bq_2 bwX12_worst_0 50 (by decide +kernel)) rfl
theorem dX12_worst_52 : decode cX12_worst 52 = .ok (.iload_n 2, 1) := bq_o28 (bq_of bwX12_worst_0 52 (by decide +kernel))
theorem dX12_worst_53 : decode cX12_worst 53 = .ok (.if_icmp .le 14, 3) := bq_o164 (a := 0) (b := 14) (bq_3 bwX12_worst_0 53 (by decide +kernel)) (by decide +kernel)
theorem dX12_worst_56 : decode cX12_worst 56 = .ok (.bipush 10, 2) := bq_o16 (a := 10) (bq_2 bwX12_worst_0 56 (by decide +kernel)) (by decide +kernel)
theorem dX12_worst_58 : decode cX12_worst 58 = .ok (.iload_n 3, 1) := bq_o29 (bq_of bwX12_worst_0 58 (by decide +kernel))
theorem dX12_worst_59 : decode cX12_worst 59 = .ok (.imul, 1) := bq_o104 (bq_of bwX12_worst_0 59 (by decide +kernel))
theorem dX12_worst_60 : decode cX12_worst 60 = .ok (.iload 4, 2) := bq_o21 (a := 4) (bq_2 bwX12_worst_0 60 (by decide +kernel)) rfl
theorem dX12_worst_62 : decode cX12_worst 62 = .ok (.iadd, 1) := bq_o96 (bq_of bwX12_worst_0 62 (by decide +kernel))
theorem dX12_worst_63 : decode cX12_worst 63 = .ok (.istore_n 1, 1) := bq_o60 (bq_of bwX12_worst_0 63 (by decide +kernel))
def bwX12_worst_64l : List Nat := [21, 5, 61, 132, 4, 1, 167, 255, 205, 132, 3, 1, 167, 255, 186, 27, 2, 160, 0, 12, 42, 16, 251, 182, 0, 102, 167, 0, 4, 27, 172]
theorem bwX12_worst_64 : ((cX12_worst.data.toList.drop 64).take 31).map UInt8.toNat = bwX12_worst_64l := by decide +kernel
theorem dX12_worst_64 : decode cX12_worst 64 = .ok (.iload 5, 2) := bq_o21 (a := 5) (bq_2 bwX12_worst_64 0 (by decide +kernel)) rfl
theorem dX12_worst_66 : decode cX12_worst 66 = .ok (.istore_n 2, 1) := bq_o61 (bq_of bwX12_worst_64 2 (by decide +kernel))
theorem dX12_worst_67 : decode cX12_worst 67 = .ok (.iinc 4 1, 3) := bq_o132 (a := 4) (b := 1) (bq_3 bwX12_worst_64 3 (by decide +kernel)) rfl (by decide +kernel)
theorem dX12_worst_70 : decode cX12_worst 70 = .ok (.goto (-51), 3) := bq_o167 (a := 255) (b := 205) (bq_3 bwX12_worst_64 6 (by decide +kernel)) (by decide +kernel)
theorem dX12_worst_73 : decode cX12_worst 73 = .ok (.iinc 3 1, 3) := bq_o132 (a := 3) (b := 1) (bq_3 bwX12_worst_64 9 (by decide +kernel)) rfl (by decide +kernel)
theorem dX12_worst_76 : decode cX12_worst 76 = .ok (.goto (-70), 3) := bq_o167 (a := 255) (b := 186) (bq_3 bwX12_worst_64 12 (by decide +kernel)) (by decide +kernel)
theorem dX12_worst_79 : decode cX12_worst 79 = .ok (.iload_n 1, 1) := bq_o27 (bq_of bwX12_worst_64 15 (by decide +kernel))
theorem dX12_worst_80 : decode cX12_worst 80 = .ok (.iconst (-1), 1) := bq_o2 (bq_of bwX12_worst_64 16 (by decide +kernel))
theorem dX12_worst_81 : decode cX12_worst 81 = .ok (.if_icmp .ne 12, 3) := bq_o160 (a := 0) (b := 12) (bq_3 bwX12_worst_64 17 (by decide +kernel)) (by decide +kernel)
theorem dX12_worst_84 : decode cX12_worst 84 = .ok (.aload_n 0, 1) := bq_o42 (bq_of bwX12_worst_64 20 (by decide +kernel))
theorem dX12_worst_85 : decode cX12_worst 85 = .ok (.bipush (-5), 2) := bq_o16 (a := 251) (bq_2 bwX12_worst_64 21 (by decide +kernel)) (by decide +kernel)
theorem dX12_worst_87 : decode cX12_worst 87 = .ok (.invokevirtual 102, 3) := bq_o182 (a := 0) (b := 102) (bq_3 bwX12_worst_64 23 (by decide +kernel)) rfl
theorem dX12_worst_90 : decode cX12_worst 90 = .ok (.goto 4, 3) := bq_o167 (a := 0) (b := 4) (bq_3 bwX12_worst_64 26 (by decide +kernel)) (by decide +kernel)
theorem dX12_worst_93 : decode cX12_worst 93 = .ok (.iload_n 1, 1) := bq_o27 (bq_of bwX12_worst_64 29 (by decide +kernel))
theorem dX12_worst_94 : decode cX12_worst 94 = .ok (.ireturn, 1) := bq_o172 (bq_of bwX12_worst_64 30 (by decide +kernel))
def bwX12_findWays_0l : List Nat := [42, 3, 181, 1, 82, 3, 61, 28, 42, 180, 0, 85, 162, 0, 95, 28, 4, 96, 62, 29, 42, 180, 0, 85, 162, 0, 77, 27, 28, 184, 0, 151, 153, 0, 63, 27, 29, 184, 0, 151, 153, 0, 55, 42, 180, 0, 48, 28, 50, 29, 46, 2, 160, 0, 43, 42, 180, 0, 76, 42, 180, 1, 82, 28, 79, 42]
theorem bwX12_findWays_0 : ((cX12_findWays.data.toList.drop 0).take 66).map UInt8.toNat = bwX12_findWays_0l := by decide +kernel
theorem dX12_findWays_0 : decode cX12_findWays 0 = .ok (.aload_n 0, 1) := bq_o42 (bq_of bwX12_findWays_0 0 (by decide +kernel))
theorem dX12_findWays_1 : decode cX12_findWays 1 = .ok (.iconst 0, 1) := bq_o3 (bq_of bwX12_findWays_0 1 (by decide +kernel))
theorem dX12_findWays_2 : decode cX12_findWays 2 = .ok (.putfield 338, 3) := bq_o181 (a := 1) (b := 82) (bq_3 bwX12_findWays_0 2 (by decide +kernel)) rfl
theorem dX12_findWays_5 : decode cX12_findWays 5 = .ok (.iconst 0, 1) := bq_o3 (bq_of bwX12_findWays_0 5 (by decide +kernel))
theorem dX12_findWays_6 : decode cX12_findWays 6 = .ok (.istore_n 2, 1) := bq_o61 (bq_of bwX12_findWays_0 6 (by decide +kernel))
theorem dX12_findWays_7 : decode cX12_findWays 7 = .ok (.iload_n 2, 1) := bq_o28 (bq_of bwX12_findWays_0 7 (by decide +kernel))
theorem dX12_findWays_8 : decode cX12_findWays 8 = .ok (.aload_n 0, 1) := bq_o42 (bq_of bwX12_findWays_0 8 (by decide +kernel))
theorem dX12_findWays_9 : decode cX12_findWays 9 = .ok (.getfield 85, 3) := bq_o180 (a := 0) (b := 85) (bq_3 bwX12_findWays_0 9 (by decide +kernel)) rfl
theorem dX12_findWays_12 : decode cX12_findWays 12 = .ok (.if_icmp .ge 95, 3) := bq_o162 (a := 0) (b := 95) (bq_3 bwX12_findWays_0 12 (by decide +kernel)) (by decide +kernel)
theorem dX12_findWays_15 : decode cX12_findWays 15 = .ok (.iload_n 2, 1) := bq_o28 (bq_of bwX12_findWays_0 15 (by decide +kernel))
theorem dX12_findWays_16 : decode cX12_findWays 16 = .ok (.iconst 1, 1) := bq_o4 (bq_of bwX12_findWays_0 16 (by decide +kernel))
theorem dX12_findWays_17 : decode cX12_findWays 17 = .ok (.iadd, 1) := bq_o96 (bq_of bwX12_findWays_0 17 (by decide +kernel))
theorem dX12_findWays_18 : decode cX12_findWays 18 = .ok (.istore_n 3, 1) := bq_o62 (bq_of bwX12_findWays_0 18 (by decide +kernel))
theorem dX12_findWays_19 : decode cX12_findWays 19 = .ok (.iload_n 3, 1) := bq_o29 (bq_of bwX12_findWays_0 19 (by decide +kernel))
theorem dX12_findWays_20 : decode cX12_findWays 20 = .ok (.aload_n 0, 1) := bq_o42 (bq_of bwX12_findWays_0 20 (by decide +kernel))
theorem dX12_findWays_21 : decode cX12_findWays 21 = .ok (.getfield 85, 3) := bq_o180 (a := 0) (b := 85) (bq_3 bwX12_findWays_0 21 (by decide +kernel)) rfl
theorem dX12_findWays_24 : decode cX12_findWays 24 = .ok (.if_icmp .ge 77, 3) := bq_o162 (a := 0) (b := 77) (bq_3 bwX12_findWays_0 24 (by decide +kernel)) (by decide +kernel)
theorem dX12_findWays_27 : decode cX12_findWays 27 = .ok (.iload_n 1, 1) := bq_o27 (bq_of bwX12_findWays_0 27 (by decide +kernel))
theorem dX12_findWays_28 : decode cX12_findWays 28 = .ok (.iload_n 2, 1) := bq_o28 (bq_of bwX12_findWays_0 28 (by decide +kernel))
theorem dX12_findWays_29 : decode cX12_findWays 29 = .ok (.invokestatic 151, 3) := bq_o184 (a := 0) (b := 151) (bq_3 bwX12_findWays_0 29 (by decide +kernel)) rfl
theorem dX12_findWays_32 : decode cX12_findWays 32 = .ok (.ifCond .eq 63, 3) := bq_o153 (a := 0) (b := 63) (bq_3 bwX12_findWays_0 32 (by decide +kernel)) (by decide +kernel)
theorem dX12_findWays_35 : decode cX12_findWays 35 = .ok (.iload_n 1, 1) := bq_o27 (bq_of bwX12_findWays_0 35 (by decide +kernel))
theorem dX12_findWays_36 : decode cX12_findWays 36 = .ok (.iload_n 3, 1) := bq_o29 (bq_of bwX12_findWays_0 36 (by decide +kernel))
theorem dX12_findWays_37 : decode cX12_findWays 37 = .ok (.invokestatic 151, 3) := bq_o184 (a := 0) (b := 151) (bq_3 bwX12_findWays_0 37 (by decide +kernel)) rfl
theorem dX12_findWays_40 : decode cX12_findWays 40 = .ok (.ifCond .eq 55, 3) := bq_o153 (a := 0) (b := 55) (bq_3 bwX12_findWays_0 40 (by decide +kernel)) (by decide +kernel)
theorem dX12_findWays_43 : decode cX12_findWays 43 = .ok (.aload_n 0, 1) := bq_o42 (bq_of bwX12_findWays_0 43 (by decide +kernel))
theorem dX12_findWays_44 : decode cX12_findWays 44 = .ok (.getfield 48, 3) := bq_o180 (a := 0) (b := 48) (bq_3 bwX12_findWays_0 44 (by decide +kernel)) rfl
theorem dX12_findWays_47 : decode cX12_findWays 47 = .ok (.iload_n 2, 1) := bq_o28 (bq_of bwX12_findWays_0 47 (by decide +kernel))
theorem dX12_findWays_48 : decode cX12_findWays 48 = .ok (.aaload, 1) := bq_o50 (bq_of bwX12_findWays_0 48 (by decide +kernel))
theorem dX12_findWays_49 : decode cX12_findWays 49 = .ok (.iload_n 3, 1) := bq_o29 (bq_of bwX12_findWays_0 49 (by decide +kernel))
theorem dX12_findWays_50 : decode cX12_findWays 50 = .ok (.iaload, 1) := bq_o46 (bq_of bwX12_findWays_0 50 (by decide +kernel))
theorem dX12_findWays_51 : decode cX12_findWays 51 = .ok (.iconst (-1), 1) := bq_o2 (bq_of bwX12_findWays_0 51 (by decide +kernel))
theorem dX12_findWays_52 : decode cX12_findWays 52 = .ok (.if_icmp .ne 43, 3) := bq_o160 (a := 0) (b := 43) (bq_3 bwX12_findWays_0 52 (by decide +kernel)) (by decide +kernel)
theorem dX12_findWays_55 : decode cX12_findWays 55 = .ok (.aload_n 0, 1) := bq_o42 (bq_of bwX12_findWays_0 55 (by decide +kernel))
theorem dX12_findWays_56 : decode cX12_findWays 56 = .ok (.getfield 76, 3) := bq_o180 (a := 0) (b := 76) (bq_3 bwX12_findWays_0 56 (by decide +kernel)) rfl
theorem dX12_findWays_59 : decode cX12_findWays 59 = .ok (.aload_n 0, 1) := bq_o42 (bq_of bwX12_findWays_0 59 (by decide +kernel))
theorem dX12_findWays_60 : decode cX12_findWays 60 = .ok (.getfield 338, 3) := bq_o180 (a := 1) (b := 82) (bq_3 bwX12_findWays_0 60 (by decide +kernel)) rfl
theorem dX12_findWays_63 : decode cX12_findWays 63 = .ok (.iload_n 2, 1) := bq_o28 (bq_of bwX12_findWays_0 63 (by decide +kernel))
def bwX12_findWays_64l : List Nat := [79, 42, 180, 0, 79, 42, 180, 1, 82, 29, 79, 42, 180, 0, 82, 42, 180, 1, 82, 3, 79, 42, 89, 180, 1, 82, 4, 96, 181, 1, 82, 132, 3, 1, 167, 255, 177, 132, 2, 1, 167, 255, 159, 42, 3, 181, 1, 85, 3, 61, 28, 4, 42, 180, 1, 82, 120, 162, 0, 112, 42, 182, 0, 238, 78, 3]
theorem bwX12_findWays_64 : ((cX12_findWays.data.toList.drop 64).take 66).map UInt8.toNat = bwX12_findWays_64l := by decide +kernel
theorem dX12_findWays_64 : decode cX12_findWays 64 = .ok (.iastore, 1) := bq_o79 (bq_of bwX12_findWays_64 0 (by decide +kernel))
theorem dX12_findWays_65 : decode cX12_findWays 65 = .ok (.aload_n 0, 1) := bq_o42 (bq_of bwX12_findWays_64 1 (by decide +kernel))
theorem dX12_findWays_66 : decode cX12_findWays 66 = .ok (.getfield 79, 3) := bq_o180 (a := 0) (b := 79) (bq_3 bwX12_findWays_64 2 (by decide +kernel)) rfl
theorem dX12_findWays_69 : decode cX12_findWays 69 = .ok (.aload_n 0, 1) := bq_o42 (bq_of bwX12_findWays_64 5 (by decide +kernel))
theorem dX12_findWays_70 : decode cX12_findWays 70 = .ok (.getfield 338, 3) := bq_o180 (a := 1) (b := 82) (bq_3 bwX12_findWays_64 6 (by decide +kernel)) rfl
theorem dX12_findWays_73 : decode cX12_findWays 73 = .ok (.iload_n 3, 1) := bq_o29 (bq_of bwX12_findWays_64 9 (by decide +kernel))
theorem dX12_findWays_74 : decode cX12_findWays 74 = .ok (.iastore, 1) := bq_o79 (bq_of bwX12_findWays_64 10 (by decide +kernel))
theorem dX12_findWays_75 : decode cX12_findWays 75 = .ok (.aload_n 0, 1) := bq_o42 (bq_of bwX12_findWays_64 11 (by decide +kernel))
theorem dX12_findWays_76 : decode cX12_findWays 76 = .ok (.getfield 82, 3) := bq_o180 (a := 0) (b := 82) (bq_3 bwX12_findWays_64 12 (by decide +kernel)) rfl
theorem dX12_findWays_79 : decode cX12_findWays 79 = .ok (.aload_n 0, 1) := bq_o42 (bq_of bwX12_findWays_64 15 (by decide +kernel))
theorem dX12_findWays_80 : decode cX12_findWays 80 = .ok (.getfield 338, 3) := bq_o180 (a := 1) (b := 82) (bq_3 bwX12_findWays_64 16 (by decide +kernel)) rfl
theorem dX12_findWays_83 : decode cX12_findWays 83 = .ok (.iconst 0, 1) := bq_o3 (bq_of bwX12_findWays_64 19 (by decide +kernel))
theorem dX12_findWays_84 : decode cX12_findWays 84 = .ok (.iastore, 1) := bq_o79 (bq_of bwX12_findWays_64 20 (by decide +kernel))
theorem dX12_findWays_85 : decode cX12_findWays 85 = .ok (.aload_n 0, 1) := bq_o42 (bq_of bwX12_findWays_64 21 (by decide +kernel))
theorem dX12_findWays_86 : decode cX12_findWays 86 = .ok (.dup, 1) := bq_o89 (bq_of bwX12_findWays_64 22 (by decide +kernel))
theorem dX12_findWays_87 : decode cX12_findWays 87 = .ok (.getfield 338, 3) := bq_o180 (a := 1) (b := 82) (bq_3 bwX12_findWays_64 23 (by decide +kernel)) rfl
theorem dX12_findWays_90 : decode cX12_findWays 90 = .ok (.iconst 1, 1) := bq_o4 (bq_of bwX12_findWays_64 26 (by decide +kernel))
theorem dX12_findWays_91 : decode cX12_findWays 91 = .ok (.iadd, 1) := bq_o96 (bq_of bwX12_findWays_64 27 (by decide +kernel))
theorem dX12_findWays_92 : decode cX12_findWays 92 = .ok (.putfield 338, 3) := bq_o181 (a := 1) (b := 82) (bq_3 bwX12_findWays_64 28 (by decide +kernel)) rfl
theorem dX12_findWays_95 : decode cX12_findWays 95 = .ok (.iinc 3 1, 3) := bq_o132 (a := 3) (b := 1) (bq_3 bwX12_findWays_64 31 (by decide +kernel)) rfl (by decide +kernel)
theorem dX12_findWays_98 : decode cX12_findWays 98 = .ok (.goto (-79), 3) := bq_o167 (a := 255) (b := 177) (bq_3 bwX12_findWays_64 34 (by decide +kernel)) (by decide +kernel)
theorem dX12_findWays_101 : decode cX12_findWays 101 = .ok (.iinc 2 1, 3) := bq_o132 (a := 2) (b := 1) (bq_3 bwX12_findWays_64 37 (by decide +kernel)) rfl (by decide +kernel)
theorem dX12_findWays_104 : decode cX12_findWays 104 = .ok (.goto (-97), 3) := bq_o167 (a := 255) (b := 159) (bq_3 bwX12_findWays_64 40 (by decide +kernel)) (by decide +kernel)
theorem dX12_findWays_107 : decode cX12_findWays 107 = .ok (.aload_n 0, 1) := bq_o42 (bq_of bwX12_findWays_64 43 (by decide +kernel))
theorem dX12_findWays_108 : decode cX12_findWays 108 = .ok (.iconst 0, 1) := bq_o3 (bq_of bwX12_findWays_64 44 (by decide +kernel))
theorem dX12_findWays_109 : decode cX12_findWays 109 = .ok (.putfield 341, 3) := bq_o181 (a := 1) (b := 85) (bq_3 bwX12_findWays_64 45 (by decide +kernel)) rfl
theorem dX12_findWays_112 : decode cX12_findWays 112 = .ok (.iconst 0, 1) := bq_o3 (bq_of bwX12_findWays_64 48 (by decide +kernel))
theorem dX12_findWays_113 : decode cX12_findWays 113 = .ok (.istore_n 2, 1) := bq_o61 (bq_of bwX12_findWays_64 49 (by decide +kernel))
theorem dX12_findWays_114 : decode cX12_findWays 114 = .ok (.iload_n 2, 1) := bq_o28 (bq_of bwX12_findWays_64 50 (by decide +kernel))
theorem dX12_findWays_115 : decode cX12_findWays 115 = .ok (.iconst 1, 1) := bq_o4 (bq_of bwX12_findWays_64 51 (by decide +kernel))
theorem dX12_findWays_116 : decode cX12_findWays 116 = .ok (.aload_n 0, 1) := bq_o42 (bq_of bwX12_findWays_64 52 (by decide +kernel))
theorem dX12_findWays_117 : decode cX12_findWays 117 = .ok (.getfield 338, 3) := bq_o180 (a := 1) (b := 82) (bq_3 bwX12_findWays_64 53 (by decide +kernel)) rfl
theorem dX12_findWays_120 : decode cX12_findWays 120 = .ok (.ishl, 1) := bq_o120 (bq_of bwX12_findWays_64 56 (by decide +kernel))
theorem dX12_findWays_121 : decode cX12_findWays 121 = .ok (.if_icmp .ge 112, 3) := bq_o162 (a := 0) (b := 112) (bq_3 bwX12_findWays_64 57 (by decide +kernel)) (by decide +kernel)
theorem dX12_findWays_124 : decode cX12_findWays 124 = .ok (.aload_n 0, 1) := bq_o42 (bq_of bwX12_findWays_64 60 (by decide +kernel))
theorem dX12_findWays_125 : decode cX12_findWays 125 = .ok (.invokevirtual 238, 3) := bq_o182 (a := 0) (b := 238) (bq_3 bwX12_findWays_64 61 (by decide +kernel)) rfl
def bwX12_findWays_128l : List Nat := [78, 3, 54, 4, 21, 4, 42, 180, 1, 82, 162, 0, 37, 28, 21, 4, 122, 4, 126, 153, 0, 22, 45, 42, 180, 0, 76, 21, 4, 46, 42, 180, 0, 79, 21, 4, 46, 3, 182, 0, 142, 132, 4, 1, 167, 255, 216, 45, 27, 182, 1, 16, 154, 0, 47, 42, 89, 180, 1, 85, 4, 96, 181, 1, 85, 3]
theorem bwX12_findWays_128 : ((cX12_findWays.data.toList.drop 128).take 66).map UInt8.toNat = bwX12_findWays_128l := by decide +kernel
theorem dX12_findWays_128 : decode cX12_findWays 128 = .ok (.astore_n 3, 1) := bq_o78 (bq_of bwX12_findWays_128 0 (by decide +kernel))
theorem dX12_findWays_129 : decode cX12_findWays 129 = .ok (.iconst 0, 1) := bq_o3 (bq_of bwX12_findWays_128 1 (by decide +kernel))
theorem dX12_findWays_130 : decode cX12_findWays 130 = .ok (.istore 4, 2) := bq_o54 (a := 4) (bq_2 bwX12_findWays_128 2 (by decide +kernel)) rfl
theorem dX12_findWays_132 : decode cX12_findWays 132 = .ok (.iload 4, 2) := bq_o21 (a := 4) (bq_2 bwX12_findWays_128 4 (by decide +kernel)) rfl
theorem dX12_findWays_134 : decode cX12_findWays 134 = .ok (.aload_n 0, 1) := bq_o42 (bq_of bwX12_findWays_128 6 (by decide +kernel))
theorem dX12_findWays_135 : decode cX12_findWays 135 = .ok (.getfield 338, 3) := bq_o180 (a := 1) (b := 82) (bq_3 bwX12_findWays_128 7 (by decide +kernel)) rfl
theorem dX12_findWays_138 : decode cX12_findWays 138 = .ok (.if_icmp .ge 37, 3) := bq_o162 (a := 0) (b := 37) (bq_3 bwX12_findWays_128 10 (by decide +kernel)) (by decide +kernel)
theorem dX12_findWays_141 : decode cX12_findWays 141 = .ok (.iload_n 2, 1) := bq_o28 (bq_of bwX12_findWays_128 13 (by decide +kernel))
theorem dX12_findWays_142 : decode cX12_findWays 142 = .ok (.iload 4, 2) := bq_o21 (a := 4) (bq_2 bwX12_findWays_128 14 (by decide +kernel)) rfl
theorem dX12_findWays_144 : decode cX12_findWays 144 = .ok (.ishr, 1) := bq_o122 (bq_of bwX12_findWays_128 16 (by decide +kernel))
theorem dX12_findWays_145 : decode cX12_findWays 145 = .ok (.iconst 1, 1) := bq_o4 (bq_of bwX12_findWays_128 17 (by decide +kernel))
theorem dX12_findWays_146 : decode cX12_findWays 146 = .ok (.iand, 1) := bq_o126 (bq_of bwX12_findWays_128 18 (by decide +kernel))
theorem dX12_findWays_147 : decode cX12_findWays 147 = .ok (.ifCond .eq 22, 3) := bq_o153 (a := 0) (b := 22) (bq_3 bwX12_findWays_128 19 (by decide +kernel)) (by decide +kernel)
theorem dX12_findWays_150 : decode cX12_findWays 150 = .ok (.aload_n 3, 1) := bq_o45 (bq_of bwX12_findWays_128 22 (by decide +kernel))
theorem dX12_findWays_151 : decode cX12_findWays 151 = .ok (.aload_n 0, 1) := bq_o42 (bq_of bwX12_findWays_128 23 (by decide +kernel))
theorem dX12_findWays_152 : decode cX12_findWays 152 = .ok (.getfield 76, 3) := bq_o180 (a := 0) (b := 76) (bq_3 bwX12_findWays_128 24 (by decide +kernel)) rfl
theorem dX12_findWays_155 : decode cX12_findWays 155 = .ok (.iload 4, 2) := bq_o21 (a := 4) (bq_2 bwX12_findWays_128 27 (by decide +kernel)) rfl
theorem dX12_findWays_157 : decode cX12_findWays 157 = .ok (.iaload, 1) := bq_o46 (bq_of bwX12_findWays_128 29 (by decide +kernel))
theorem dX12_findWays_158 : decode cX12_findWays 158 = .ok (.aload_n 0, 1) := bq_o42 (bq_of bwX12_findWays_128 30 (by decide +kernel))
theorem dX12_findWays_159 : decode cX12_findWays 159 = .ok (.getfield 79, 3) := bq_o180 (a := 0) (b := 79) (bq_3 bwX12_findWays_128 31 (by decide +kernel)) rfl
theorem dX12_findWays_162 : decode cX12_findWays 162 = .ok (.iload 4, 2) := bq_o21 (a := 4) (bq_2 bwX12_findWays_128 34 (by decide +kernel)) rfl
theorem dX12_findWays_164 : decode cX12_findWays 164 = .ok (.iaload, 1) := bq_o46 (bq_of bwX12_findWays_128 36 (by decide +kernel))
theorem dX12_findWays_165 : decode cX12_findWays 165 = .ok (.iconst 0, 1) := bq_o3 (bq_of bwX12_findWays_128 37 (by decide +kernel))
theorem dX12_findWays_166 : decode cX12_findWays 166 = .ok (.invokevirtual 142, 3) := bq_o182 (a := 0) (b := 142) (bq_3 bwX12_findWays_128 38 (by decide +kernel)) rfl
theorem dX12_findWays_169 : decode cX12_findWays 169 = .ok (.iinc 4 1, 3) := bq_o132 (a := 4) (b := 1) (bq_3 bwX12_findWays_128 41 (by decide +kernel)) rfl (by decide +kernel)
theorem dX12_findWays_172 : decode cX12_findWays 172 = .ok (.goto (-40), 3) := bq_o167 (a := 255) (b := 216) (bq_3 bwX12_findWays_128 44 (by decide +kernel)) (by decide +kernel)
theorem dX12_findWays_175 : decode cX12_findWays 175 = .ok (.aload_n 3, 1) := bq_o45 (bq_of bwX12_findWays_128 47 (by decide +kernel))
theorem dX12_findWays_176 : decode cX12_findWays 176 = .ok (.iload_n 1, 1) := bq_o27 (bq_of bwX12_findWays_128 48 (by decide +kernel))
theorem dX12_findWays_177 : decode cX12_findWays 177 = .ok (.invokevirtual 272, 3) := bq_o182 (a := 1) (b := 16) (bq_3 bwX12_findWays_128 49 (by decide +kernel)) rfl
theorem dX12_findWays_180 : decode cX12_findWays 180 = .ok (.ifCond .ne 47, 3) := bq_o154 (a := 0) (b := 47) (bq_3 bwX12_findWays_128 52 (by decide +kernel)) (by decide +kernel)
theorem dX12_findWays_183 : decode cX12_findWays 183 = .ok (.aload_n 0, 1) := bq_o42 (bq_of bwX12_findWays_128 55 (by decide +kernel))
theorem dX12_findWays_184 : decode cX12_findWays 184 = .ok (.dup, 1) := bq_o89 (bq_of bwX12_findWays_128 56 (by decide +kernel))
theorem dX12_findWays_185 : decode cX12_findWays 185 = .ok (.getfield 341, 3) := bq_o180 (a := 1) (b := 85) (bq_3 bwX12_findWays_128 57 (by decide +kernel)) rfl
theorem dX12_findWays_188 : decode cX12_findWays 188 = .ok (.iconst 1, 1) := bq_o4 (bq_of bwX12_findWays_128 60 (by decide +kernel))
theorem dX12_findWays_189 : decode cX12_findWays 189 = .ok (.iadd, 1) := bq_o96 (bq_of bwX12_findWays_128 61 (by decide +kernel))
theorem dX12_findWays_190 : decode cX12_findWays 190 = .ok (.putfield 341, 3) := bq_o181 (a := 1) (b := 85) (bq_3 bwX12_findWays_128 62 (by decide +kernel)) rfl
def bwX12_findWays_192l : List Nat := [85, 3, 54, 4, 21, 4, 42, 180, 1, 82, 162, 0, 25, 42, 180, 0, 82, 21, 4, 92, 46, 28, 21, 4, 122, 4, 126, 96, 79, 132, 4, 1, 167, 255, 228, 132, 2, 1, 167, 255, 140, 177]
theorem bwX12_findWays_192 : ((cX12_findWays.data.toList.drop 192).take 42).map UInt8.toNat = bwX12_findWays_192l := by decide +kernel
theorem dX12_findWays_193 : decode cX12_findWays 193 = .ok (.iconst 0, 1) := bq_o3 (bq_of bwX12_findWays_192 1 (by decide +kernel))
theorem dX12_findWays_194 : decode cX12_findWays 194 = .ok (.istore 4, 2) := bq_o54 (a := 4) (bq_2 bwX12_findWays_192 2 (by decide +kernel)) rfl
theorem dX12_findWays_196 : decode cX12_findWays 196 = .ok (.iload 4, 2) := bq_o21 (a := 4) (bq_2 bwX12_findWays_192 4 (by decide +kernel)) rfl
theorem dX12_findWays_198 : decode cX12_findWays 198 = .ok (.aload_n 0, 1) := bq_o42 (bq_of bwX12_findWays_192 6 (by decide +kernel))
theorem dX12_findWays_199 : decode cX12_findWays 199 = .ok (.getfield 338, 3) := bq_o180 (a := 1) (b := 82) (bq_3 bwX12_findWays_192 7 (by decide +kernel)) rfl
theorem dX12_findWays_202 : decode cX12_findWays 202 = .ok (.if_icmp .ge 25, 3) := bq_o162 (a := 0) (b := 25) (bq_3 bwX12_findWays_192 10 (by decide +kernel)) (by decide +kernel)
theorem dX12_findWays_205 : decode cX12_findWays 205 = .ok (.aload_n 0, 1) := bq_o42 (bq_of bwX12_findWays_192 13 (by decide +kernel))
theorem dX12_findWays_206 : decode cX12_findWays 206 = .ok (.getfield 82, 3) := bq_o180 (a := 0) (b := 82) (bq_3 bwX12_findWays_192 14 (by decide +kernel)) rfl
theorem dX12_findWays_209 : decode cX12_findWays 209 = .ok (.iload 4, 2) := bq_o21 (a := 4) (bq_2 bwX12_findWays_192 17 (by decide +kernel)) rfl
theorem dX12_findWays_211 : decode cX12_findWays 211 = .ok (.dup2, 1) := bq_o92 (bq_of bwX12_findWays_192 19 (by decide +kernel))
theorem dX12_findWays_212 : decode cX12_findWays 212 = .ok (.iaload, 1) := bq_o46 (bq_of bwX12_findWays_192 20 (by decide +kernel))
theorem dX12_findWays_213 : decode cX12_findWays 213 = .ok (.iload_n 2, 1) := bq_o28 (bq_of bwX12_findWays_192 21 (by decide +kernel))
theorem dX12_findWays_214 : decode cX12_findWays 214 = .ok (.iload 4, 2) := bq_o21 (a := 4) (bq_2 bwX12_findWays_192 22 (by decide +kernel)) rfl
theorem dX12_findWays_216 : decode cX12_findWays 216 = .ok (.ishr, 1) := bq_o122 (bq_of bwX12_findWays_192 24 (by decide +kernel))
theorem dX12_findWays_217 : decode cX12_findWays 217 = .ok (.iconst 1, 1) := bq_o4 (bq_of bwX12_findWays_192 25 (by decide +kernel))
theorem dX12_findWays_218 : decode cX12_findWays 218 = .ok (.iand, 1) := bq_o126 (bq_of bwX12_findWays_192 26 (by decide +kernel))
theorem dX12_findWays_219 : decode cX12_findWays 219 = .ok (.iadd, 1) := bq_o96 (bq_of bwX12_findWays_192 27 (by decide +kernel))
theorem dX12_findWays_220 : decode cX12_findWays 220 = .ok (.iastore, 1) := bq_o79 (bq_of bwX12_findWays_192 28 (by decide +kernel))
theorem dX12_findWays_221 : decode cX12_findWays 221 = .ok (.iinc 4 1, 3) := bq_o132 (a := 4) (b := 1) (bq_3 bwX12_findWays_192 29 (by decide +kernel)) rfl (by decide +kernel)
theorem dX12_findWays_224 : decode cX12_findWays 224 = .ok (.goto (-28), 3) := bq_o167 (a := 255) (b := 228) (bq_3 bwX12_findWays_192 32 (by decide +kernel)) (by decide +kernel)
theorem dX12_findWays_227 : decode cX12_findWays 227 = .ok (.iinc 2 1, 3) := bq_o132 (a := 2) (b := 1) (bq_3 bwX12_findWays_192 35 (by decide +kernel)) rfl (by decide +kernel)
theorem dX12_findWays_230 : decode cX12_findWays 230 = .ok (.goto (-116), 3) := bq_o167 (a := 255) (b := 140) (bq_3 bwX12_findWays_192 38 (by decide +kernel)) (by decide +kernel)
theorem dX12_findWays_233 : decode cX12_findWays 233 = .ok (.return_, 1) := bq_o177 (bq_of bwX12_findWays_192 41 (by decide +kernel))
theorem dX12_fits_0 : decode cX12_fits 0 = .ok (.aload_n 0, 1) := by decide +kernel
theorem dX12_fits_1 : decode cX12_fits 1 = .ok (.iload_n 1, 1) := by decide +kernel
theorem dX12_fits_2 : decode cX12_fits 2 = .ok (.invokevirtual 263, 3) := by decide +kernel
theorem dX12_fits_5 : decode cX12_fits 5 = .ok (.ifCond .eq 11, 3) := by decide +kernel
theorem dX12_fits_8 : decode cX12_fits 8 = .ok (.iload_n 1, 1) := by decide +kernel
theorem dX12_fits_9 : decode cX12_fits 9 = .ok (.invokestatic 254, 3) := by decide +kernel
theorem dX12_fits_12 : decode cX12_fits 12 = .ok (.iconst 5, 1) := by decide +kernel
theorem dX12_fits_13 : decode cX12_fits 13 = .ok (.if_icmp .le 10, 3) := by decide +kernel
theorem dX12_fits_16 : decode cX12_fits 16 = .ok (.aload_n 0, 1) := by decide +kernel
theorem dX12_fits_17 : decode cX12_fits 17 = .ok (.bipush (-2), 2) := by decide +kernel
theorem dX12_fits_19 : decode cX12_fits 19 = .ok (.invokevirtual 102, 3) := by decide +kernel
theorem dX12_fits_22 : decode cX12_fits 22 = .ok (.ireturn, 1) := by decide +kernel
theorem dX12_fits_23 : decode cX12_fits 23 = .ok (.aload_n 0, 1) := by decide +kernel
theorem dX12_fits_24 : decode cX12_fits 24 = .ok (.iload_n 1, 1) := by decide +kernel
theorem dX12_fits_25 : decode cX12_fits 25 = .ok (.invokevirtual 344, 3) := by decide +kernel
theorem dX12_fits_28 : decode cX12_fits 28 = .ok (.aload_n 0, 1) := by decide +kernel
theorem dX12_fits_29 : decode cX12_fits 29 = .ok (.getfield 341, 3) := by decide +kernel
theorem dX12_fits_32 : decode cX12_fits 32 = .ok (.ireturn, 1) := by decide +kernel
def bwX12_sure_0l : List Nat := [42, 27, 182, 1, 7, 153, 0, 11, 27, 184, 0, 254, 8, 164, 0, 10, 42, 16, 254, 182, 0, 102, 172, 42, 27, 182, 1, 88, 42, 180, 1, 82, 154, 0, 10, 42, 16, 251, 182, 0, 102, 172, 3, 61, 4, 62, 29, 42, 180, 1, 82, 162, 0, 30, 42, 180, 0, 82, 29, 46, 42, 180, 0, 82, 28, 46]
theorem bwX12_sure_0 : ((cX12_sure.data.toList.drop 0).take 66).map UInt8.toNat = bwX12_sure_0l := by decide +kernel
theorem dX12_sure_0 : decode cX12_sure 0 = .ok (.aload_n 0, 1) := bq_o42 (bq_of bwX12_sure_0 0 (by decide +kernel))
theorem dX12_sure_1 : decode cX12_sure 1 = .ok (.iload_n 1, 1) := bq_o27 (bq_of bwX12_sure_0 1 (by decide +kernel))
theorem dX12_sure_2 : decode cX12_sure 2 = .ok (.invokevirtual 263, 3) := bq_o182 (a := 1) (b := 7) (bq_3 bwX12_sure_0 2 (by decide +kernel)) rfl
theorem dX12_sure_5 : decode cX12_sure 5 = .ok (.ifCond .eq 11, 3) := bq_o153 (a := 0) (b := 11) (bq_3 bwX12_sure_0 5 (by decide +kernel)) (by decide +kernel)
theorem dX12_sure_8 : decode cX12_sure 8 = .ok (.iload_n 1, 1) := bq_o27 (bq_of bwX12_sure_0 8 (by decide +kernel))
theorem dX12_sure_9 : decode cX12_sure 9 = .ok (.invokestatic 254, 3) := bq_o184 (a := 0) (b := 254) (bq_3 bwX12_sure_0 9 (by decide +kernel)) rfl
theorem dX12_sure_12 : decode cX12_sure 12 = .ok (.iconst 5, 1) := bq_o8 (bq_of bwX12_sure_0 12 (by decide +kernel))
theorem dX12_sure_13 : decode cX12_sure 13 = .ok (.if_icmp .le 10, 3) := bq_o164 (a := 0) (b := 10) (bq_3 bwX12_sure_0 13 (by decide +kernel)) (by decide +kernel)
theorem dX12_sure_16 : decode cX12_sure 16 = .ok (.aload_n 0, 1) := bq_o42 (bq_of bwX12_sure_0 16 (by decide +kernel))
theorem dX12_sure_17 : decode cX12_sure 17 = .ok (.bipush (-2), 2) := bq_o16 (a := 254) (bq_2 bwX12_sure_0 17 (by decide +kernel)) (by decide +kernel)
theorem dX12_sure_19 : decode cX12_sure 19 = .ok (.invokevirtual 102, 3) := bq_o182 (a := 0) (b := 102) (bq_3 bwX12_sure_0 19 (by decide +kernel)) rfl
theorem dX12_sure_22 : decode cX12_sure 22 = .ok (.ireturn, 1) := bq_o172 (bq_of bwX12_sure_0 22 (by decide +kernel))
theorem dX12_sure_23 : decode cX12_sure 23 = .ok (.aload_n 0, 1) := bq_o42 (bq_of bwX12_sure_0 23 (by decide +kernel))
theorem dX12_sure_24 : decode cX12_sure 24 = .ok (.iload_n 1, 1) := bq_o27 (bq_of bwX12_sure_0 24 (by decide +kernel))
theorem dX12_sure_25 : decode cX12_sure 25 = .ok (.invokevirtual 344, 3) := bq_o182 (a := 1) (b := 88) (bq_3 bwX12_sure_0 25 (by decide +kernel)) rfl
theorem dX12_sure_28 : decode cX12_sure 28 = .ok (.aload_n 0, 1) := bq_o42 (bq_of bwX12_sure_0 28 (by decide +kernel))
theorem dX12_sure_29 : decode cX12_sure 29 = .ok (.getfield 338, 3) := bq_o180 (a := 1) (b := 82) (bq_3 bwX12_sure_0 29 (by decide +kernel)) rfl
theorem dX12_sure_32 : decode cX12_sure 32 = .ok (.ifCond .ne 10, 3) := bq_o154 (a := 0) (b := 10) (bq_3 bwX12_sure_0 32 (by decide +kernel)) (by decide +kernel)
theorem dX12_sure_35 : decode cX12_sure 35 = .ok (.aload_n 0, 1) := bq_o42 (bq_of bwX12_sure_0 35 (by decide +kernel))
theorem dX12_sure_36 : decode cX12_sure 36 = .ok (.bipush (-5), 2) := bq_o16 (a := 251) (bq_2 bwX12_sure_0 36 (by decide +kernel)) (by decide +kernel)
theorem dX12_sure_38 : decode cX12_sure 38 = .ok (.invokevirtual 102, 3) := bq_o182 (a := 0) (b := 102) (bq_3 bwX12_sure_0 38 (by decide +kernel)) rfl
theorem dX12_sure_41 : decode cX12_sure 41 = .ok (.ireturn, 1) := bq_o172 (bq_of bwX12_sure_0 41 (by decide +kernel))
theorem dX12_sure_42 : decode cX12_sure 42 = .ok (.iconst 0, 1) := bq_o3 (bq_of bwX12_sure_0 42 (by decide +kernel))
theorem dX12_sure_43 : decode cX12_sure 43 = .ok (.istore_n 2, 1) := bq_o61 (bq_of bwX12_sure_0 43 (by decide +kernel))
theorem dX12_sure_44 : decode cX12_sure 44 = .ok (.iconst 1, 1) := bq_o4 (bq_of bwX12_sure_0 44 (by decide +kernel))
theorem dX12_sure_45 : decode cX12_sure 45 = .ok (.istore_n 3, 1) := bq_o62 (bq_of bwX12_sure_0 45 (by decide +kernel))
theorem dX12_sure_46 : decode cX12_sure 46 = .ok (.iload_n 3, 1) := bq_o29 (bq_of bwX12_sure_0 46 (by decide +kernel))
theorem dX12_sure_47 : decode cX12_sure 47 = .ok (.aload_n 0, 1) := bq_o42 (bq_of bwX12_sure_0 47 (by decide +kernel))
theorem dX12_sure_48 : decode cX12_sure 48 = .ok (.getfield 338, 3) := bq_o180 (a := 1) (b := 82) (bq_3 bwX12_sure_0 48 (by decide +kernel)) rfl
theorem dX12_sure_51 : decode cX12_sure 51 = .ok (.if_icmp .ge 30, 3) := bq_o162 (a := 0) (b := 30) (bq_3 bwX12_sure_0 51 (by decide +kernel)) (by decide +kernel)
theorem dX12_sure_54 : decode cX12_sure 54 = .ok (.aload_n 0, 1) := bq_o42 (bq_of bwX12_sure_0 54 (by decide +kernel))
theorem dX12_sure_55 : decode cX12_sure 55 = .ok (.getfield 82, 3) := bq_o180 (a := 0) (b := 82) (bq_3 bwX12_sure_0 55 (by decide +kernel)) rfl
theorem dX12_sure_58 : decode cX12_sure 58 = .ok (.iload_n 3, 1) := bq_o29 (bq_of bwX12_sure_0 58 (by decide +kernel))
theorem dX12_sure_59 : decode cX12_sure 59 = .ok (.iaload, 1) := bq_o46 (bq_of bwX12_sure_0 59 (by decide +kernel))
theorem dX12_sure_60 : decode cX12_sure 60 = .ok (.aload_n 0, 1) := bq_o42 (bq_of bwX12_sure_0 60 (by decide +kernel))
theorem dX12_sure_61 : decode cX12_sure 61 = .ok (.getfield 82, 3) := bq_o180 (a := 0) (b := 82) (bq_3 bwX12_sure_0 61 (by decide +kernel)) rfl
def bwX12_sure_64l : List Nat := [28, 46, 164, 0, 7, 29, 167, 0, 4, 28, 61, 132, 3, 1, 167, 255, 224, 16, 10, 42, 180, 0, 76, 28, 46, 104, 42, 180, 0, 79, 28, 46, 96, 172]
theorem bwX12_sure_64 : ((cX12_sure.data.toList.drop 64).take 34).map UInt8.toNat = bwX12_sure_64l := by decide +kernel
theorem dX12_sure_64 : decode cX12_sure 64 = .ok (.iload_n 2, 1) := bq_o28 (bq_of bwX12_sure_64 0 (by decide +kernel))
theorem dX12_sure_65 : decode cX12_sure 65 = .ok (.iaload, 1) := bq_o46 (bq_of bwX12_sure_64 1 (by decide +kernel))
theorem dX12_sure_66 : decode cX12_sure 66 = .ok (.if_icmp .le 7, 3) := bq_o164 (a := 0) (b := 7) (bq_3 bwX12_sure_64 2 (by decide +kernel)) (by decide +kernel)
theorem dX12_sure_69 : decode cX12_sure 69 = .ok (.iload_n 3, 1) := bq_o29 (bq_of bwX12_sure_64 5 (by decide +kernel))
theorem dX12_sure_70 : decode cX12_sure 70 = .ok (.goto 4, 3) := bq_o167 (a := 0) (b := 4) (bq_3 bwX12_sure_64 6 (by decide +kernel)) (by decide +kernel)
theorem dX12_sure_73 : decode cX12_sure 73 = .ok (.iload_n 2, 1) := bq_o28 (bq_of bwX12_sure_64 9 (by decide +kernel))
theorem dX12_sure_74 : decode cX12_sure 74 = .ok (.istore_n 2, 1) := bq_o61 (bq_of bwX12_sure_64 10 (by decide +kernel))
theorem dX12_sure_75 : decode cX12_sure 75 = .ok (.iinc 3 1, 3) := bq_o132 (a := 3) (b := 1) (bq_3 bwX12_sure_64 11 (by decide +kernel)) rfl (by decide +kernel)
theorem dX12_sure_78 : decode cX12_sure 78 = .ok (.goto (-32), 3) := bq_o167 (a := 255) (b := 224) (bq_3 bwX12_sure_64 14 (by decide +kernel)) (by decide +kernel)
theorem dX12_sure_81 : decode cX12_sure 81 = .ok (.bipush 10, 2) := bq_o16 (a := 10) (bq_2 bwX12_sure_64 17 (by decide +kernel)) (by decide +kernel)
theorem dX12_sure_83 : decode cX12_sure 83 = .ok (.aload_n 0, 1) := bq_o42 (bq_of bwX12_sure_64 19 (by decide +kernel))
theorem dX12_sure_84 : decode cX12_sure 84 = .ok (.getfield 76, 3) := bq_o180 (a := 0) (b := 76) (bq_3 bwX12_sure_64 20 (by decide +kernel)) rfl
theorem dX12_sure_87 : decode cX12_sure 87 = .ok (.iload_n 2, 1) := bq_o28 (bq_of bwX12_sure_64 23 (by decide +kernel))
theorem dX12_sure_88 : decode cX12_sure 88 = .ok (.iaload, 1) := bq_o46 (bq_of bwX12_sure_64 24 (by decide +kernel))
theorem dX12_sure_89 : decode cX12_sure 89 = .ok (.imul, 1) := bq_o104 (bq_of bwX12_sure_64 25 (by decide +kernel))
theorem dX12_sure_90 : decode cX12_sure 90 = .ok (.aload_n 0, 1) := bq_o42 (bq_of bwX12_sure_64 26 (by decide +kernel))
theorem dX12_sure_91 : decode cX12_sure 91 = .ok (.getfield 79, 3) := bq_o180 (a := 0) (b := 79) (bq_3 bwX12_sure_64 27 (by decide +kernel)) rfl
theorem dX12_sure_94 : decode cX12_sure 94 = .ok (.iload_n 2, 1) := bq_o28 (bq_of bwX12_sure_64 30 (by decide +kernel))
theorem dX12_sure_95 : decode cX12_sure 95 = .ok (.iaload, 1) := bq_o46 (bq_of bwX12_sure_64 31 (by decide +kernel))
theorem dX12_sure_96 : decode cX12_sure 96 = .ok (.iadd, 1) := bq_o96 (bq_of bwX12_sure_64 32 (by decide +kernel))
theorem dX12_sure_97 : decode cX12_sure 97 = .ok (.ireturn, 1) := bq_o172 (bq_of bwX12_sure_64 33 (by decide +kernel))
def bwX12_noDay_0l : List Nat := [27, 133, 9, 20, 0, 96, 184, 0, 88, 153, 0, 15, 28, 133, 9, 20, 0, 96, 184, 0, 88, 154, 0, 10, 42, 16, 254, 182, 0, 102, 172, 42, 27, 182, 0, 106, 62, 29, 153, 0, 5, 29, 172, 42, 180, 0, 16, 27, 46, 28, 162, 0, 12, 42, 16, 254, 182, 0, 102, 167, 0, 4, 3, 172]
theorem bwX12_noDay_0 : ((cX12_noDay.data.toList.drop 0).take 64).map UInt8.toNat = bwX12_noDay_0l := by decide +kernel
theorem dX12_noDay_0 : decode cX12_noDay 0 = .ok (.iload_n 1, 1) := bq_o27 (bq_of bwX12_noDay_0 0 (by decide +kernel))
theorem dX12_noDay_1 : decode cX12_noDay 1 = .ok (.i2l, 1) := bq_o133 (bq_of bwX12_noDay_0 1 (by decide +kernel))
theorem dX12_noDay_2 : decode cX12_noDay 2 = .ok (.lconst 0, 1) := bq_o9 (bq_of bwX12_noDay_0 2 (by decide +kernel))
theorem dX12_noDay_3 : decode cX12_noDay 3 = .ok (.ldc2_w 96, 3) := bq_o20 (a := 0) (b := 96) (bq_3 bwX12_noDay_0 3 (by decide +kernel)) rfl
theorem dX12_noDay_6 : decode cX12_noDay 6 = .ok (.invokestatic 88, 3) := bq_o184 (a := 0) (b := 88) (bq_3 bwX12_noDay_0 6 (by decide +kernel)) rfl
theorem dX12_noDay_9 : decode cX12_noDay 9 = .ok (.ifCond .eq 15, 3) := bq_o153 (a := 0) (b := 15) (bq_3 bwX12_noDay_0 9 (by decide +kernel)) (by decide +kernel)
theorem dX12_noDay_12 : decode cX12_noDay 12 = .ok (.iload_n 2, 1) := bq_o28 (bq_of bwX12_noDay_0 12 (by decide +kernel))
theorem dX12_noDay_13 : decode cX12_noDay 13 = .ok (.i2l, 1) := bq_o133 (bq_of bwX12_noDay_0 13 (by decide +kernel))
theorem dX12_noDay_14 : decode cX12_noDay 14 = .ok (.lconst 0, 1) := bq_o9 (bq_of bwX12_noDay_0 14 (by decide +kernel))
theorem dX12_noDay_15 : decode cX12_noDay 15 = .ok (.ldc2_w 96, 3) := bq_o20 (a := 0) (b := 96) (bq_3 bwX12_noDay_0 15 (by decide +kernel)) rfl
theorem dX12_noDay_18 : decode cX12_noDay 18 = .ok (.invokestatic 88, 3) := bq_o184 (a := 0) (b := 88) (bq_3 bwX12_noDay_0 18 (by decide +kernel)) rfl
theorem dX12_noDay_21 : decode cX12_noDay 21 = .ok (.ifCond .ne 10, 3) := bq_o154 (a := 0) (b := 10) (bq_3 bwX12_noDay_0 21 (by decide +kernel)) (by decide +kernel)
theorem dX12_noDay_24 : decode cX12_noDay 24 = .ok (.aload_n 0, 1) := bq_o42 (bq_of bwX12_noDay_0 24 (by decide +kernel))
theorem dX12_noDay_25 : decode cX12_noDay 25 = .ok (.bipush (-2), 2) := bq_o16 (a := 254) (bq_2 bwX12_noDay_0 25 (by decide +kernel)) (by decide +kernel)
theorem dX12_noDay_27 : decode cX12_noDay 27 = .ok (.invokevirtual 102, 3) := bq_o182 (a := 0) (b := 102) (bq_3 bwX12_noDay_0 27 (by decide +kernel)) rfl
theorem dX12_noDay_30 : decode cX12_noDay 30 = .ok (.ireturn, 1) := bq_o172 (bq_of bwX12_noDay_0 30 (by decide +kernel))
theorem dX12_noDay_31 : decode cX12_noDay 31 = .ok (.aload_n 0, 1) := bq_o42 (bq_of bwX12_noDay_0 31 (by decide +kernel))
theorem dX12_noDay_32 : decode cX12_noDay 32 = .ok (.iload_n 1, 1) := bq_o27 (bq_of bwX12_noDay_0 32 (by decide +kernel))
theorem dX12_noDay_33 : decode cX12_noDay 33 = .ok (.invokevirtual 106, 3) := bq_o182 (a := 0) (b := 106) (bq_3 bwX12_noDay_0 33 (by decide +kernel)) rfl
theorem dX12_noDay_36 : decode cX12_noDay 36 = .ok (.istore_n 3, 1) := bq_o62 (bq_of bwX12_noDay_0 36 (by decide +kernel))
theorem dX12_noDay_37 : decode cX12_noDay 37 = .ok (.iload_n 3, 1) := bq_o29 (bq_of bwX12_noDay_0 37 (by decide +kernel))
theorem dX12_noDay_38 : decode cX12_noDay 38 = .ok (.ifCond .eq 5, 3) := bq_o153 (a := 0) (b := 5) (bq_3 bwX12_noDay_0 38 (by decide +kernel)) (by decide +kernel)
theorem dX12_noDay_41 : decode cX12_noDay 41 = .ok (.iload_n 3, 1) := bq_o29 (bq_of bwX12_noDay_0 41 (by decide +kernel))
theorem dX12_noDay_42 : decode cX12_noDay 42 = .ok (.ireturn, 1) := bq_o172 (bq_of bwX12_noDay_0 42 (by decide +kernel))
theorem dX12_noDay_43 : decode cX12_noDay 43 = .ok (.aload_n 0, 1) := bq_o42 (bq_of bwX12_noDay_0 43 (by decide +kernel))
theorem dX12_noDay_44 : decode cX12_noDay 44 = .ok (.getfield 16, 3) := bq_o180 (a := 0) (b := 16) (bq_3 bwX12_noDay_0 44 (by decide +kernel)) rfl
theorem dX12_noDay_47 : decode cX12_noDay 47 = .ok (.iload_n 1, 1) := bq_o27 (bq_of bwX12_noDay_0 47 (by decide +kernel))
theorem dX12_noDay_48 : decode cX12_noDay 48 = .ok (.iaload, 1) := bq_o46 (bq_of bwX12_noDay_0 48 (by decide +kernel))
theorem dX12_noDay_49 : decode cX12_noDay 49 = .ok (.iload_n 2, 1) := bq_o28 (bq_of bwX12_noDay_0 49 (by decide +kernel))
theorem dX12_noDay_50 : decode cX12_noDay 50 = .ok (.if_icmp .ge 12, 3) := bq_o162 (a := 0) (b := 12) (bq_3 bwX12_noDay_0 50 (by decide +kernel)) (by decide +kernel)
theorem dX12_noDay_53 : decode cX12_noDay 53 = .ok (.aload_n 0, 1) := bq_o42 (bq_of bwX12_noDay_0 53 (by decide +kernel))
theorem dX12_noDay_54 : decode cX12_noDay 54 = .ok (.bipush (-2), 2) := bq_o16 (a := 254) (bq_2 bwX12_noDay_0 54 (by decide +kernel)) (by decide +kernel)
theorem dX12_noDay_56 : decode cX12_noDay 56 = .ok (.invokevirtual 102, 3) := bq_o182 (a := 0) (b := 102) (bq_3 bwX12_noDay_0 56 (by decide +kernel)) rfl
theorem dX12_noDay_59 : decode cX12_noDay 59 = .ok (.goto 4, 3) := bq_o167 (a := 0) (b := 4) (bq_3 bwX12_noDay_0 59 (by decide +kernel)) (by decide +kernel)
theorem dX12_noDay_62 : decode cX12_noDay 62 = .ok (.iconst 0, 1) := bq_o3 (bq_of bwX12_noDay_0 62 (by decide +kernel))
theorem dX12_noDay_63 : decode cX12_noDay 63 = .ok (.ireturn, 1) := bq_o172 (bq_of bwX12_noDay_0 63 (by decide +kernel))
def bwX12_wrongCoach_0l : List Nat := [42, 3, 181, 1, 92, 3, 62, 29, 28, 162, 0, 62, 43, 29, 47, 9, 42, 182, 0, 92, 133, 184, 0, 88, 153, 0, 26, 42, 43, 29, 47, 136, 182, 1, 10, 153, 0, 15, 43, 29, 47, 136, 42, 180, 1, 92, 126, 153, 0, 5, 29, 172, 42, 89, 180, 1, 92, 43, 29, 47, 136, 128, 181, 1, 92, 132]
theorem bwX12_wrongCoach_0 : ((cX12_wrongCoach.data.toList.drop 0).take 66).map UInt8.toNat = bwX12_wrongCoach_0l := by decide +kernel
theorem dX12_wrongCoach_0 : decode cX12_wrongCoach 0 = .ok (.aload_n 0, 1) := bq_o42 (bq_of bwX12_wrongCoach_0 0 (by decide +kernel))
theorem dX12_wrongCoach_1 : decode cX12_wrongCoach 1 = .ok (.iconst 0, 1) := bq_o3 (bq_of bwX12_wrongCoach_0 1 (by decide +kernel))
theorem dX12_wrongCoach_2 : decode cX12_wrongCoach 2 = .ok (.putfield 348, 3) := bq_o181 (a := 1) (b := 92) (bq_3 bwX12_wrongCoach_0 2 (by decide +kernel)) rfl
theorem dX12_wrongCoach_5 : decode cX12_wrongCoach 5 = .ok (.iconst 0, 1) := bq_o3 (bq_of bwX12_wrongCoach_0 5 (by decide +kernel))
theorem dX12_wrongCoach_6 : decode cX12_wrongCoach 6 = .ok (.istore_n 3, 1) := bq_o62 (bq_of bwX12_wrongCoach_0 6 (by decide +kernel))
theorem dX12_wrongCoach_7 : decode cX12_wrongCoach 7 = .ok (.iload_n 3, 1) := bq_o29 (bq_of bwX12_wrongCoach_0 7 (by decide +kernel))
theorem dX12_wrongCoach_8 : decode cX12_wrongCoach 8 = .ok (.iload_n 2, 1) := bq_o28 (bq_of bwX12_wrongCoach_0 8 (by decide +kernel))
theorem dX12_wrongCoach_9 : decode cX12_wrongCoach 9 = .ok (.if_icmp .ge 62, 3) := bq_o162 (a := 0) (b := 62) (bq_3 bwX12_wrongCoach_0 9 (by decide +kernel)) (by decide +kernel)
theorem dX12_wrongCoach_12 : decode cX12_wrongCoach 12 = .ok (.aload_n 1, 1) := bq_o43 (bq_of bwX12_wrongCoach_0 12 (by decide +kernel))
theorem dX12_wrongCoach_13 : decode cX12_wrongCoach 13 = .ok (.iload_n 3, 1) := bq_o29 (bq_of bwX12_wrongCoach_0 13 (by decide +kernel))
theorem dX12_wrongCoach_14 : decode cX12_wrongCoach 14 = .ok (.laload, 1) := bq_o47 (bq_of bwX12_wrongCoach_0 14 (by decide +kernel))
theorem dX12_wrongCoach_15 : decode cX12_wrongCoach 15 = .ok (.lconst 0, 1) := bq_o9 (bq_of bwX12_wrongCoach_0 15 (by decide +kernel))
theorem dX12_wrongCoach_16 : decode cX12_wrongCoach 16 = .ok (.aload_n 0, 1) := bq_o42 (bq_of bwX12_wrongCoach_0 16 (by decide +kernel))
theorem dX12_wrongCoach_17 : decode cX12_wrongCoach 17 = .ok (.invokevirtual 92, 3) := bq_o182 (a := 0) (b := 92) (bq_3 bwX12_wrongCoach_0 17 (by decide +kernel)) rfl
theorem dX12_wrongCoach_20 : decode cX12_wrongCoach 20 = .ok (.i2l, 1) := bq_o133 (bq_of bwX12_wrongCoach_0 20 (by decide +kernel))
theorem dX12_wrongCoach_21 : decode cX12_wrongCoach 21 = .ok (.invokestatic 88, 3) := bq_o184 (a := 0) (b := 88) (bq_3 bwX12_wrongCoach_0 21 (by decide +kernel)) rfl
theorem dX12_wrongCoach_24 : decode cX12_wrongCoach 24 = .ok (.ifCond .eq 26, 3) := bq_o153 (a := 0) (b := 26) (bq_3 bwX12_wrongCoach_0 24 (by decide +kernel)) (by decide +kernel)
theorem dX12_wrongCoach_27 : decode cX12_wrongCoach 27 = .ok (.aload_n 0, 1) := bq_o42 (bq_of bwX12_wrongCoach_0 27 (by decide +kernel))
theorem dX12_wrongCoach_28 : decode cX12_wrongCoach 28 = .ok (.aload_n 1, 1) := bq_o43 (bq_of bwX12_wrongCoach_0 28 (by decide +kernel))
theorem dX12_wrongCoach_29 : decode cX12_wrongCoach 29 = .ok (.iload_n 3, 1) := bq_o29 (bq_of bwX12_wrongCoach_0 29 (by decide +kernel))
theorem dX12_wrongCoach_30 : decode cX12_wrongCoach 30 = .ok (.laload, 1) := bq_o47 (bq_of bwX12_wrongCoach_0 30 (by decide +kernel))
theorem dX12_wrongCoach_31 : decode cX12_wrongCoach 31 = .ok (.l2i, 1) := bq_o136 (bq_of bwX12_wrongCoach_0 31 (by decide +kernel))
theorem dX12_wrongCoach_32 : decode cX12_wrongCoach 32 = .ok (.invokevirtual 266, 3) := bq_o182 (a := 1) (b := 10) (bq_3 bwX12_wrongCoach_0 32 (by decide +kernel)) rfl
theorem dX12_wrongCoach_35 : decode cX12_wrongCoach 35 = .ok (.ifCond .eq 15, 3) := bq_o153 (a := 0) (b := 15) (bq_3 bwX12_wrongCoach_0 35 (by decide +kernel)) (by decide +kernel)
theorem dX12_wrongCoach_38 : decode cX12_wrongCoach 38 = .ok (.aload_n 1, 1) := bq_o43 (bq_of bwX12_wrongCoach_0 38 (by decide +kernel))
theorem dX12_wrongCoach_39 : decode cX12_wrongCoach 39 = .ok (.iload_n 3, 1) := bq_o29 (bq_of bwX12_wrongCoach_0 39 (by decide +kernel))
theorem dX12_wrongCoach_40 : decode cX12_wrongCoach 40 = .ok (.laload, 1) := bq_o47 (bq_of bwX12_wrongCoach_0 40 (by decide +kernel))
theorem dX12_wrongCoach_41 : decode cX12_wrongCoach 41 = .ok (.l2i, 1) := bq_o136 (bq_of bwX12_wrongCoach_0 41 (by decide +kernel))
theorem dX12_wrongCoach_42 : decode cX12_wrongCoach 42 = .ok (.aload_n 0, 1) := bq_o42 (bq_of bwX12_wrongCoach_0 42 (by decide +kernel))
theorem dX12_wrongCoach_43 : decode cX12_wrongCoach 43 = .ok (.getfield 348, 3) := bq_o180 (a := 1) (b := 92) (bq_3 bwX12_wrongCoach_0 43 (by decide +kernel)) rfl
theorem dX12_wrongCoach_46 : decode cX12_wrongCoach 46 = .ok (.iand, 1) := bq_o126 (bq_of bwX12_wrongCoach_0 46 (by decide +kernel))
theorem dX12_wrongCoach_47 : decode cX12_wrongCoach 47 = .ok (.ifCond .eq 5, 3) := bq_o153 (a := 0) (b := 5) (bq_3 bwX12_wrongCoach_0 47 (by decide +kernel)) (by decide +kernel)
theorem dX12_wrongCoach_50 : decode cX12_wrongCoach 50 = .ok (.iload_n 3, 1) := bq_o29 (bq_of bwX12_wrongCoach_0 50 (by decide +kernel))
theorem dX12_wrongCoach_51 : decode cX12_wrongCoach 51 = .ok (.ireturn, 1) := bq_o172 (bq_of bwX12_wrongCoach_0 51 (by decide +kernel))
theorem dX12_wrongCoach_52 : decode cX12_wrongCoach 52 = .ok (.aload_n 0, 1) := bq_o42 (bq_of bwX12_wrongCoach_0 52 (by decide +kernel))
theorem dX12_wrongCoach_53 : decode cX12_wrongCoach 53 = .ok (.dup, 1) := bq_o89 (bq_of bwX12_wrongCoach_0 53 (by decide +kernel))
theorem dX12_wrongCoach_54 : decode cX12_wrongCoach 54 = .ok (.getfield 348, 3) := bq_o180 (a := 1) (b := 92) (bq_3 bwX12_wrongCoach_0 54 (by decide +kernel)) rfl
theorem dX12_wrongCoach_57 : decode cX12_wrongCoach 57 = .ok (.aload_n 1, 1) := bq_o43 (bq_of bwX12_wrongCoach_0 57 (by decide +kernel))
theorem dX12_wrongCoach_58 : decode cX12_wrongCoach 58 = .ok (.iload_n 3, 1) := bq_o29 (bq_of bwX12_wrongCoach_0 58 (by decide +kernel))
theorem dX12_wrongCoach_59 : decode cX12_wrongCoach 59 = .ok (.laload, 1) := bq_o47 (bq_of bwX12_wrongCoach_0 59 (by decide +kernel))
theorem dX12_wrongCoach_60 : decode cX12_wrongCoach 60 = .ok (.l2i, 1) := bq_o136 (bq_of bwX12_wrongCoach_0 60 (by decide +kernel))
theorem dX12_wrongCoach_61 : decode cX12_wrongCoach 61 = .ok (.ior, 1) := bq_o128 (bq_of bwX12_wrongCoach_0 61 (by decide +kernel))
theorem dX12_wrongCoach_62 : decode cX12_wrongCoach 62 = .ok (.putfield 348, 3) := bq_o181 (a := 1) (b := 92) (bq_3 bwX12_wrongCoach_0 62 (by decide +kernel)) rfl
def bwX12_wrongCoach_64l : List Nat := [92, 132, 3, 1, 167, 255, 195, 2, 172]
theorem bwX12_wrongCoach_64 : ((cX12_wrongCoach.data.toList.drop 64).take 9).map UInt8.toNat = bwX12_wrongCoach_64l := by decide +kernel
theorem dX12_wrongCoach_65 : decode cX12_wrongCoach 65 = .ok (.iinc 3 1, 3) := bq_o132 (a := 3) (b := 1) (bq_3 bwX12_wrongCoach_64 1 (by decide +kernel)) rfl (by decide +kernel)
theorem dX12_wrongCoach_68 : decode cX12_wrongCoach 68 = .ok (.goto (-61), 3) := bq_o167 (a := 255) (b := 195) (bq_3 bwX12_wrongCoach_64 4 (by decide +kernel)) (by decide +kernel)
theorem dX12_wrongCoach_71 : decode cX12_wrongCoach 71 = .ok (.iconst (-1), 1) := bq_o2 (bq_of bwX12_wrongCoach_64 7 (by decide +kernel))
theorem dX12_wrongCoach_72 : decode cX12_wrongCoach 72 = .ok (.ireturn, 1) := bq_o172 (bq_of bwX12_wrongCoach_64 8 (by decide +kernel))
theorem dX12_judge_0 : decode cX12_judge 0 = .ok (.aload_n 0, 1) := by decide +kernel
theorem dX12_judge_1 : decode cX12_judge 1 = .ok (.iload_n 1, 1) := by decide +kernel
theorem dX12_judge_2 : decode cX12_judge 2 = .ok (.iload_n 2, 1) := by decide +kernel
theorem dX12_judge_3 : decode cX12_judge 3 = .ok (.invokevirtual 351, 3) := by decide +kernel
theorem dX12_judge_6 : decode cX12_judge 6 = .ok (.istore_n 3, 1) := by decide +kernel
theorem dX12_judge_7 : decode cX12_judge 7 = .ok (.iload_n 3, 1) := by decide +kernel
theorem dX12_judge_8 : decode cX12_judge 8 = .ok (.ifCond .eq 7, 3) := by decide +kernel
theorem dX12_judge_11 : decode cX12_judge 11 = .ok (.iload_n 3, 1) := by decide +kernel
theorem dX12_judge_12 : decode cX12_judge 12 = .ok (.goto 14, 3) := by decide +kernel
theorem dX12_judge_15 : decode cX12_judge 15 = .ok (.aload_n 0, 1) := by decide +kernel
theorem dX12_judge_16 : decode cX12_judge 16 = .ok (.aload_n 0, 1) := by decide +kernel
theorem dX12_judge_17 : decode cX12_judge 17 = .ok (.getfield 21, 3) := by decide +kernel
theorem dX12_judge_20 : decode cX12_judge 20 = .ok (.iload_n 1, 1) := by decide +kernel
theorem dX12_judge_21 : decode cX12_judge 21 = .ok (.aaload, 1) := by decide +kernel
theorem dX12_judge_22 : decode cX12_judge 22 = .ok (.iload_n 2, 1) := by decide +kernel
theorem dX12_judge_23 : decode cX12_judge 23 = .ok (.invokevirtual 354, 3) := by decide +kernel
theorem dX12_judge_26 : decode cX12_judge 26 = .ok (.ireturn, 1) := by decide +kernel
def bwX12_behind_0l : List Nat := [29, 133, 9, 10, 184, 0, 88, 154, 0, 10, 42, 16, 254, 182, 0, 102, 172, 42, 27, 28, 182, 1, 95, 54, 4, 21, 4, 153, 0, 6, 21, 4, 172, 42, 42, 180, 0, 21, 27, 50, 28, 182, 1, 98, 2, 159, 0, 10, 42, 16, 251, 182, 0, 102, 172, 29, 154, 0, 15, 42, 182, 0, 92, 42, 180, 1]
theorem bwX12_behind_0 : ((cX12_behind.data.toList.drop 0).take 66).map UInt8.toNat = bwX12_behind_0l := by decide +kernel
theorem dX12_behind_0 : decode cX12_behind 0 = .ok (.iload_n 3, 1) := bq_o29 (bq_of bwX12_behind_0 0 (by decide +kernel))
theorem dX12_behind_1 : decode cX12_behind 1 = .ok (.i2l, 1) := bq_o133 (bq_of bwX12_behind_0 1 (by decide +kernel))
theorem dX12_behind_2 : decode cX12_behind 2 = .ok (.lconst 0, 1) := bq_o9 (bq_of bwX12_behind_0 2 (by decide +kernel))
theorem dX12_behind_3 : decode cX12_behind 3 = .ok (.lconst 1, 1) := bq_o10 (bq_of bwX12_behind_0 3 (by decide +kernel))
theorem dX12_behind_4 : decode cX12_behind 4 = .ok (.invokestatic 88, 3) := bq_o184 (a := 0) (b := 88) (bq_3 bwX12_behind_0 4 (by decide +kernel)) rfl
theorem dX12_behind_7 : decode cX12_behind 7 = .ok (.ifCond .ne 10, 3) := bq_o154 (a := 0) (b := 10) (bq_3 bwX12_behind_0 7 (by decide +kernel)) (by decide +kernel)
theorem dX12_behind_10 : decode cX12_behind 10 = .ok (.aload_n 0, 1) := bq_o42 (bq_of bwX12_behind_0 10 (by decide +kernel))
theorem dX12_behind_11 : decode cX12_behind 11 = .ok (.bipush (-2), 2) := bq_o16 (a := 254) (bq_2 bwX12_behind_0 11 (by decide +kernel)) (by decide +kernel)
theorem dX12_behind_13 : decode cX12_behind 13 = .ok (.invokevirtual 102, 3) := bq_o182 (a := 0) (b := 102) (bq_3 bwX12_behind_0 13 (by decide +kernel)) rfl
theorem dX12_behind_16 : decode cX12_behind 16 = .ok (.ireturn, 1) := bq_o172 (bq_of bwX12_behind_0 16 (by decide +kernel))
theorem dX12_behind_17 : decode cX12_behind 17 = .ok (.aload_n 0, 1) := bq_o42 (bq_of bwX12_behind_0 17 (by decide +kernel))
theorem dX12_behind_18 : decode cX12_behind 18 = .ok (.iload_n 1, 1) := bq_o27 (bq_of bwX12_behind_0 18 (by decide +kernel))
theorem dX12_behind_19 : decode cX12_behind 19 = .ok (.iload_n 2, 1) := bq_o28 (bq_of bwX12_behind_0 19 (by decide +kernel))
theorem dX12_behind_20 : decode cX12_behind 20 = .ok (.invokevirtual 351, 3) := bq_o182 (a := 1) (b := 95) (bq_3 bwX12_behind_0 20 (by decide +kernel)) rfl
theorem dX12_behind_23 : decode cX12_behind 23 = .ok (.istore 4, 2) := bq_o54 (a := 4) (bq_2 bwX12_behind_0 23 (by decide +kernel)) rfl
theorem dX12_behind_25 : decode cX12_behind 25 = .ok (.iload 4, 2) := bq_o21 (a := 4) (bq_2 bwX12_behind_0 25 (by decide +kernel)) rfl
theorem dX12_behind_27 : decode cX12_behind 27 = .ok (.ifCond .eq 6, 3) := bq_o153 (a := 0) (b := 6) (bq_3 bwX12_behind_0 27 (by decide +kernel)) (by decide +kernel)
theorem dX12_behind_30 : decode cX12_behind 30 = .ok (.iload 4, 2) := bq_o21 (a := 4) (bq_2 bwX12_behind_0 30 (by decide +kernel)) rfl
theorem dX12_behind_32 : decode cX12_behind 32 = .ok (.ireturn, 1) := bq_o172 (bq_of bwX12_behind_0 32 (by decide +kernel))
theorem dX12_behind_33 : decode cX12_behind 33 = .ok (.aload_n 0, 1) := bq_o42 (bq_of bwX12_behind_0 33 (by decide +kernel))
theorem dX12_behind_34 : decode cX12_behind 34 = .ok (.aload_n 0, 1) := bq_o42 (bq_of bwX12_behind_0 34 (by decide +kernel))
theorem dX12_behind_35 : decode cX12_behind 35 = .ok (.getfield 21, 3) := bq_o180 (a := 0) (b := 21) (bq_3 bwX12_behind_0 35 (by decide +kernel)) rfl
theorem dX12_behind_38 : decode cX12_behind 38 = .ok (.iload_n 1, 1) := bq_o27 (bq_of bwX12_behind_0 38 (by decide +kernel))
theorem dX12_behind_39 : decode cX12_behind 39 = .ok (.aaload, 1) := bq_o50 (bq_of bwX12_behind_0 39 (by decide +kernel))
theorem dX12_behind_40 : decode cX12_behind 40 = .ok (.iload_n 2, 1) := bq_o28 (bq_of bwX12_behind_0 40 (by decide +kernel))
theorem dX12_behind_41 : decode cX12_behind 41 = .ok (.invokevirtual 354, 3) := bq_o182 (a := 1) (b := 98) (bq_3 bwX12_behind_0 41 (by decide +kernel)) rfl
theorem dX12_behind_44 : decode cX12_behind 44 = .ok (.iconst (-1), 1) := bq_o2 (bq_of bwX12_behind_0 44 (by decide +kernel))
theorem dX12_behind_45 : decode cX12_behind 45 = .ok (.if_icmp .eq 10, 3) := bq_o159 (a := 0) (b := 10) (bq_3 bwX12_behind_0 45 (by decide +kernel)) (by decide +kernel)
theorem dX12_behind_48 : decode cX12_behind 48 = .ok (.aload_n 0, 1) := bq_o42 (bq_of bwX12_behind_0 48 (by decide +kernel))
theorem dX12_behind_49 : decode cX12_behind 49 = .ok (.bipush (-5), 2) := bq_o16 (a := 251) (bq_2 bwX12_behind_0 49 (by decide +kernel)) (by decide +kernel)
theorem dX12_behind_51 : decode cX12_behind 51 = .ok (.invokevirtual 102, 3) := bq_o182 (a := 0) (b := 102) (bq_3 bwX12_behind_0 51 (by decide +kernel)) rfl
theorem dX12_behind_54 : decode cX12_behind 54 = .ok (.ireturn, 1) := bq_o172 (bq_of bwX12_behind_0 54 (by decide +kernel))
theorem dX12_behind_55 : decode cX12_behind 55 = .ok (.iload_n 3, 1) := bq_o29 (bq_of bwX12_behind_0 55 (by decide +kernel))
theorem dX12_behind_56 : decode cX12_behind 56 = .ok (.ifCond .ne 15, 3) := bq_o154 (a := 0) (b := 15) (bq_3 bwX12_behind_0 56 (by decide +kernel)) (by decide +kernel)
theorem dX12_behind_59 : decode cX12_behind 59 = .ok (.aload_n 0, 1) := bq_o42 (bq_of bwX12_behind_0 59 (by decide +kernel))
theorem dX12_behind_60 : decode cX12_behind 60 = .ok (.invokevirtual 92, 3) := bq_o182 (a := 0) (b := 92) (bq_3 bwX12_behind_0 60 (by decide +kernel)) rfl
theorem dX12_behind_63 : decode cX12_behind 63 = .ok (.aload_n 0, 1) := bq_o42 (bq_of bwX12_behind_0 63 (by decide +kernel))
def bwX12_behind_64l : List Nat := [180, 1, 92, 2, 130, 126, 172, 42, 182, 0, 238, 58, 5, 3, 54, 6, 21, 6, 28, 162, 0, 25, 25, 5, 42, 180, 0, 21, 27, 50, 21, 6, 47, 136, 182, 0, 213, 87, 132, 6, 1, 167, 255, 231, 25, 5, 42, 182, 0, 92, 182, 1, 16, 172]
theorem bwX12_behind_64 : ((cX12_behind.data.toList.drop 64).take 54).map UInt8.toNat = bwX12_behind_64l := by decide +kernel
theorem dX12_behind_64 : decode cX12_behind 64 = .ok (.getfield 348, 3) := bq_o180 (a := 1) (b := 92) (bq_3 bwX12_behind_64 0 (by decide +kernel)) rfl
theorem dX12_behind_67 : decode cX12_behind 67 = .ok (.iconst (-1), 1) := bq_o2 (bq_of bwX12_behind_64 3 (by decide +kernel))
theorem dX12_behind_68 : decode cX12_behind 68 = .ok (.ixor, 1) := bq_o130 (bq_of bwX12_behind_64 4 (by decide +kernel))
theorem dX12_behind_69 : decode cX12_behind 69 = .ok (.iand, 1) := bq_o126 (bq_of bwX12_behind_64 5 (by decide +kernel))
theorem dX12_behind_70 : decode cX12_behind 70 = .ok (.ireturn, 1) := bq_o172 (bq_of bwX12_behind_64 6 (by decide +kernel))
theorem dX12_behind_71 : decode cX12_behind 71 = .ok (.aload_n 0, 1) := bq_o42 (bq_of bwX12_behind_64 7 (by decide +kernel))
theorem dX12_behind_72 : decode cX12_behind 72 = .ok (.invokevirtual 238, 3) := bq_o182 (a := 0) (b := 238) (bq_3 bwX12_behind_64 8 (by decide +kernel)) rfl
theorem dX12_behind_75 : decode cX12_behind 75 = .ok (.astore 5, 2) := bq_o58 (a := 5) (bq_2 bwX12_behind_64 11 (by decide +kernel)) rfl
theorem dX12_behind_77 : decode cX12_behind 77 = .ok (.iconst 0, 1) := bq_o3 (bq_of bwX12_behind_64 13 (by decide +kernel))
theorem dX12_behind_78 : decode cX12_behind 78 = .ok (.istore 6, 2) := bq_o54 (a := 6) (bq_2 bwX12_behind_64 14 (by decide +kernel)) rfl
theorem dX12_behind_80 : decode cX12_behind 80 = .ok (.iload 6, 2) := bq_o21 (a := 6) (bq_2 bwX12_behind_64 16 (by decide +kernel)) rfl
theorem dX12_behind_82 : decode cX12_behind 82 = .ok (.iload_n 2, 1) := bq_o28 (bq_of bwX12_behind_64 18 (by decide +kernel))
theorem dX12_behind_83 : decode cX12_behind 83 = .ok (.if_icmp .ge 25, 3) := bq_o162 (a := 0) (b := 25) (bq_3 bwX12_behind_64 19 (by decide +kernel)) (by decide +kernel)
theorem dX12_behind_86 : decode cX12_behind 86 = .ok (.aload 5, 2) := bq_o25 (a := 5) (bq_2 bwX12_behind_64 22 (by decide +kernel)) rfl
theorem dX12_behind_88 : decode cX12_behind 88 = .ok (.aload_n 0, 1) := bq_o42 (bq_of bwX12_behind_64 24 (by decide +kernel))
theorem dX12_behind_89 : decode cX12_behind 89 = .ok (.getfield 21, 3) := bq_o180 (a := 0) (b := 21) (bq_3 bwX12_behind_64 25 (by decide +kernel)) rfl
theorem dX12_behind_92 : decode cX12_behind 92 = .ok (.iload_n 1, 1) := bq_o27 (bq_of bwX12_behind_64 28 (by decide +kernel))
theorem dX12_behind_93 : decode cX12_behind 93 = .ok (.aaload, 1) := bq_o50 (bq_of bwX12_behind_64 29 (by decide +kernel))
theorem dX12_behind_94 : decode cX12_behind 94 = .ok (.iload 6, 2) := bq_o21 (a := 6) (bq_2 bwX12_behind_64 30 (by decide +kernel)) rfl
theorem dX12_behind_96 : decode cX12_behind 96 = .ok (.laload, 1) := bq_o47 (bq_of bwX12_behind_64 32 (by decide +kernel))
theorem dX12_behind_97 : decode cX12_behind 97 = .ok (.l2i, 1) := bq_o136 (bq_of bwX12_behind_64 33 (by decide +kernel))
theorem dX12_behind_98 : decode cX12_behind 98 = .ok (.invokevirtual 213, 3) := bq_o182 (a := 0) (b := 213) (bq_3 bwX12_behind_64 34 (by decide +kernel)) rfl
theorem dX12_behind_101 : decode cX12_behind 101 = .ok (.pop, 1) := bq_o87 (bq_of bwX12_behind_64 37 (by decide +kernel))
theorem dX12_behind_102 : decode cX12_behind 102 = .ok (.iinc 6 1, 3) := bq_o132 (a := 6) (b := 1) (bq_3 bwX12_behind_64 38 (by decide +kernel)) rfl (by decide +kernel)
theorem dX12_behind_105 : decode cX12_behind 105 = .ok (.goto (-25), 3) := bq_o167 (a := 255) (b := 231) (bq_3 bwX12_behind_64 41 (by decide +kernel)) (by decide +kernel)
theorem dX12_behind_108 : decode cX12_behind 108 = .ok (.aload 5, 2) := bq_o25 (a := 5) (bq_2 bwX12_behind_64 44 (by decide +kernel)) rfl
theorem dX12_behind_110 : decode cX12_behind 110 = .ok (.aload_n 0, 1) := bq_o42 (bq_of bwX12_behind_64 46 (by decide +kernel))
theorem dX12_behind_111 : decode cX12_behind 111 = .ok (.invokevirtual 92, 3) := bq_o182 (a := 0) (b := 92) (bq_3 bwX12_behind_64 47 (by decide +kernel)) rfl
theorem dX12_behind_114 : decode cX12_behind 114 = .ok (.invokevirtual 272, 3) := bq_o182 (a := 1) (b := 16) (bq_3 bwX12_behind_64 50 (by decide +kernel)) rfl
theorem dX12_behind_117 : decode cX12_behind 117 = .ok (.ireturn, 1) := bq_o172 (bq_of bwX12_behind_64 53 (by decide +kernel))
def bwX12_rides_0l : List Nat := [42, 27, 28, 182, 1, 95, 62, 29, 153, 0, 5, 29, 172, 42, 42, 180, 0, 21, 27, 50, 28, 182, 1, 98, 2, 159, 0, 10, 42, 16, 251, 182, 0, 102, 172, 3, 54, 4, 21, 4, 28, 162, 0, 24, 42, 42, 180, 0, 21, 27, 50, 21, 4, 47, 136, 182, 0, 213, 87, 132, 4, 1, 167, 255, 232, 42]
theorem bwX12_rides_0 : ((cX12_rides.data.toList.drop 0).take 66).map UInt8.toNat = bwX12_rides_0l := by decide +kernel
theorem dX12_rides_0 : decode cX12_rides 0 = .ok (.aload_n 0, 1) := bq_o42 (bq_of bwX12_rides_0 0 (by decide +kernel))
theorem dX12_rides_1 : decode cX12_rides 1 = .ok (.iload_n 1, 1) := bq_o27 (bq_of bwX12_rides_0 1 (by decide +kernel))
theorem dX12_rides_2 : decode cX12_rides 2 = .ok (.iload_n 2, 1) := bq_o28 (bq_of bwX12_rides_0 2 (by decide +kernel))
theorem dX12_rides_3 : decode cX12_rides 3 = .ok (.invokevirtual 351, 3) := bq_o182 (a := 1) (b := 95) (bq_3 bwX12_rides_0 3 (by decide +kernel)) rfl
theorem dX12_rides_6 : decode cX12_rides 6 = .ok (.istore_n 3, 1) := bq_o62 (bq_of bwX12_rides_0 6 (by decide +kernel))
theorem dX12_rides_7 : decode cX12_rides 7 = .ok (.iload_n 3, 1) := bq_o29 (bq_of bwX12_rides_0 7 (by decide +kernel))
theorem dX12_rides_8 : decode cX12_rides 8 = .ok (.ifCond .eq 5, 3) := bq_o153 (a := 0) (b := 5) (bq_3 bwX12_rides_0 8 (by decide +kernel)) (by decide +kernel)
theorem dX12_rides_11 : decode cX12_rides 11 = .ok (.iload_n 3, 1) := bq_o29 (bq_of bwX12_rides_0 11 (by decide +kernel))
theorem dX12_rides_12 : decode cX12_rides 12 = .ok (.ireturn, 1) := bq_o172 (bq_of bwX12_rides_0 12 (by decide +kernel))
theorem dX12_rides_13 : decode cX12_rides 13 = .ok (.aload_n 0, 1) := bq_o42 (bq_of bwX12_rides_0 13 (by decide +kernel))
theorem dX12_rides_14 : decode cX12_rides 14 = .ok (.aload_n 0, 1) := bq_o42 (bq_of bwX12_rides_0 14 (by decide +kernel))
theorem dX12_rides_15 : decode cX12_rides 15 = .ok (.getfield 21, 3) := bq_o180 (a := 0) (b := 21) (bq_3 bwX12_rides_0 15 (by decide +kernel)) rfl
theorem dX12_rides_18 : decode cX12_rides 18 = .ok (.iload_n 1, 1) := bq_o27 (bq_of bwX12_rides_0 18 (by decide +kernel))
theorem dX12_rides_19 : decode cX12_rides 19 = .ok (.aaload, 1) := bq_o50 (bq_of bwX12_rides_0 19 (by decide +kernel))
theorem dX12_rides_20 : decode cX12_rides 20 = .ok (.iload_n 2, 1) := bq_o28 (bq_of bwX12_rides_0 20 (by decide +kernel))
theorem dX12_rides_21 : decode cX12_rides 21 = .ok (.invokevirtual 354, 3) := bq_o182 (a := 1) (b := 98) (bq_3 bwX12_rides_0 21 (by decide +kernel)) rfl
theorem dX12_rides_24 : decode cX12_rides 24 = .ok (.iconst (-1), 1) := bq_o2 (bq_of bwX12_rides_0 24 (by decide +kernel))
theorem dX12_rides_25 : decode cX12_rides 25 = .ok (.if_icmp .eq 10, 3) := bq_o159 (a := 0) (b := 10) (bq_3 bwX12_rides_0 25 (by decide +kernel)) (by decide +kernel)
theorem dX12_rides_28 : decode cX12_rides 28 = .ok (.aload_n 0, 1) := bq_o42 (bq_of bwX12_rides_0 28 (by decide +kernel))
theorem dX12_rides_29 : decode cX12_rides 29 = .ok (.bipush (-5), 2) := bq_o16 (a := 251) (bq_2 bwX12_rides_0 29 (by decide +kernel)) (by decide +kernel)
theorem dX12_rides_31 : decode cX12_rides 31 = .ok (.invokevirtual 102, 3) := bq_o182 (a := 0) (b := 102) (bq_3 bwX12_rides_0 31 (by decide +kernel)) rfl
theorem dX12_rides_34 : decode cX12_rides 34 = .ok (.ireturn, 1) := bq_o172 (bq_of bwX12_rides_0 34 (by decide +kernel))
theorem dX12_rides_35 : decode cX12_rides 35 = .ok (.iconst 0, 1) := bq_o3 (bq_of bwX12_rides_0 35 (by decide +kernel))
theorem dX12_rides_36 : decode cX12_rides 36 = .ok (.istore 4, 2) := bq_o54 (a := 4) (bq_2 bwX12_rides_0 36 (by decide +kernel)) rfl
theorem dX12_rides_38 : decode cX12_rides 38 = .ok (.iload 4, 2) := bq_o21 (a := 4) (bq_2 bwX12_rides_0 38 (by decide +kernel)) rfl
theorem dX12_rides_40 : decode cX12_rides 40 = .ok (.iload_n 2, 1) := bq_o28 (bq_of bwX12_rides_0 40 (by decide +kernel))
theorem dX12_rides_41 : decode cX12_rides 41 = .ok (.if_icmp .ge 24, 3) := bq_o162 (a := 0) (b := 24) (bq_3 bwX12_rides_0 41 (by decide +kernel)) (by decide +kernel)
theorem dX12_rides_44 : decode cX12_rides 44 = .ok (.aload_n 0, 1) := bq_o42 (bq_of bwX12_rides_0 44 (by decide +kernel))
theorem dX12_rides_45 : decode cX12_rides 45 = .ok (.aload_n 0, 1) := bq_o42 (bq_of bwX12_rides_0 45 (by decide +kernel))
theorem dX12_rides_46 : decode cX12_rides 46 = .ok (.getfield 21, 3) := bq_o180 (a := 0) (b := 21) (bq_3 bwX12_rides_0 46 (by decide +kernel)) rfl
theorem dX12_rides_49 : decode cX12_rides 49 = .ok (.iload_n 1, 1) := bq_o27 (bq_of bwX12_rides_0 49 (by decide +kernel))
theorem dX12_rides_50 : decode cX12_rides 50 = .ok (.aaload, 1) := bq_o50 (bq_of bwX12_rides_0 50 (by decide +kernel))
theorem dX12_rides_51 : decode cX12_rides 51 = .ok (.iload 4, 2) := bq_o21 (a := 4) (bq_2 bwX12_rides_0 51 (by decide +kernel)) rfl
theorem dX12_rides_53 : decode cX12_rides 53 = .ok (.laload, 1) := bq_o47 (bq_of bwX12_rides_0 53 (by decide +kernel))
theorem dX12_rides_54 : decode cX12_rides 54 = .ok (.l2i, 1) := bq_o136 (bq_of bwX12_rides_0 54 (by decide +kernel))
theorem dX12_rides_55 : decode cX12_rides 55 = .ok (.invokevirtual 213, 3) := bq_o182 (a := 0) (b := 213) (bq_3 bwX12_rides_0 55 (by decide +kernel)) rfl
theorem dX12_rides_58 : decode cX12_rides 58 = .ok (.pop, 1) := bq_o87 (bq_of bwX12_rides_0 58 (by decide +kernel))
theorem dX12_rides_59 : decode cX12_rides 59 = .ok (.iinc 4 1, 3) := bq_o132 (a := 4) (b := 1) (bq_3 bwX12_rides_0 59 (by decide +kernel)) rfl (by decide +kernel)
theorem dX12_rides_62 : decode cX12_rides 62 = .ok (.goto (-24), 3) := bq_o167 (a := 255) (b := 232) (bq_3 bwX12_rides_0 62 (by decide +kernel)) (by decide +kernel)
def bwX12_rides_64l : List Nat := [232, 42, 89, 180, 1, 102, 28, 96, 181, 1, 102, 42, 89, 180, 1, 105, 4, 96, 181, 1, 105, 28, 172]
theorem bwX12_rides_64 : ((cX12_rides.data.toList.drop 64).take 23).map UInt8.toNat = bwX12_rides_64l := by decide +kernel
theorem dX12_rides_65 : decode cX12_rides 65 = .ok (.aload_n 0, 1) := bq_o42 (bq_of bwX12_rides_64 1 (by decide +kernel))
theorem dX12_rides_66 : decode cX12_rides 66 = .ok (.dup, 1) := bq_o89 (bq_of bwX12_rides_64 2 (by decide +kernel))
theorem dX12_rides_67 : decode cX12_rides 67 = .ok (.getfield 358, 3) := bq_o180 (a := 1) (b := 102) (bq_3 bwX12_rides_64 3 (by decide +kernel)) rfl
theorem dX12_rides_70 : decode cX12_rides 70 = .ok (.iload_n 2, 1) := bq_o28 (bq_of bwX12_rides_64 6 (by decide +kernel))
theorem dX12_rides_71 : decode cX12_rides 71 = .ok (.iadd, 1) := bq_o96 (bq_of bwX12_rides_64 7 (by decide +kernel))
theorem dX12_rides_72 : decode cX12_rides 72 = .ok (.putfield 358, 3) := bq_o181 (a := 1) (b := 102) (bq_3 bwX12_rides_64 8 (by decide +kernel)) rfl
theorem dX12_rides_75 : decode cX12_rides 75 = .ok (.aload_n 0, 1) := bq_o42 (bq_of bwX12_rides_64 11 (by decide +kernel))
theorem dX12_rides_76 : decode cX12_rides 76 = .ok (.dup, 1) := bq_o89 (bq_of bwX12_rides_64 12 (by decide +kernel))
theorem dX12_rides_77 : decode cX12_rides 77 = .ok (.getfield 361, 3) := bq_o180 (a := 1) (b := 105) (bq_3 bwX12_rides_64 13 (by decide +kernel)) rfl
theorem dX12_rides_80 : decode cX12_rides 80 = .ok (.iconst 1, 1) := bq_o4 (bq_of bwX12_rides_64 16 (by decide +kernel))
theorem dX12_rides_81 : decode cX12_rides 81 = .ok (.iadd, 1) := bq_o96 (bq_of bwX12_rides_64 17 (by decide +kernel))
theorem dX12_rides_82 : decode cX12_rides 82 = .ok (.putfield 361, 3) := bq_o181 (a := 1) (b := 105) (bq_3 bwX12_rides_64 18 (by decide +kernel)) rfl
theorem dX12_rides_85 : decode cX12_rides 85 = .ok (.iload_n 2, 1) := bq_o28 (bq_of bwX12_rides_64 21 (by decide +kernel))
theorem dX12_rides_86 : decode cX12_rides 86 = .ok (.ireturn, 1) := bq_o172 (bq_of bwX12_rides_64 22 (by decide +kernel))
theorem dX12_day_0 : decode cX12_day 0 = .ok (.aload_n 0, 1) := by decide +kernel
theorem dX12_day_1 : decode cX12_day 1 = .ok (.iload_n 1, 1) := by decide +kernel
theorem dX12_day_2 : decode cX12_day 2 = .ok (.invokevirtual 290, 3) := by decide +kernel
theorem dX12_day_5 : decode cX12_day 5 = .ok (.istore_n 2, 1) := by decide +kernel
theorem dX12_day_6 : decode cX12_day 6 = .ok (.iload_n 2, 1) := by decide +kernel
theorem dX12_day_7 : decode cX12_day 7 = .ok (.ifCond .eq 5, 3) := by decide +kernel
theorem dX12_day_10 : decode cX12_day 10 = .ok (.iload_n 2, 1) := by decide +kernel
theorem dX12_day_11 : decode cX12_day 11 = .ok (.ireturn, 1) := by decide +kernel
theorem dX12_day_12 : decode cX12_day 12 = .ok (.aload_n 0, 1) := by decide +kernel
theorem dX12_day_13 : decode cX12_day 13 = .ok (.aload_n 0, 1) := by decide +kernel
theorem dX12_day_14 : decode cX12_day 14 = .ok (.getfield 28, 3) := by decide +kernel
theorem dX12_day_17 : decode cX12_day 17 = .ok (.iload_n 1, 1) := by decide +kernel
theorem dX12_day_18 : decode cX12_day 18 = .ok (.iaload, 1) := by decide +kernel
theorem dX12_day_19 : decode cX12_day 19 = .ok (.aload_n 0, 1) := by decide +kernel
theorem dX12_day_20 : decode cX12_day 20 = .ok (.getfield 31, 3) := by decide +kernel
theorem dX12_day_23 : decode cX12_day 23 = .ok (.iload_n 1, 1) := by decide +kernel
theorem dX12_day_24 : decode cX12_day 24 = .ok (.iaload, 1) := by decide +kernel
theorem dX12_day_25 : decode cX12_day 25 = .ok (.invokevirtual 312, 3) := by decide +kernel
theorem dX12_day_28 : decode cX12_day 28 = .ok (.istore_n 3, 1) := by decide +kernel
theorem dX12_day_29 : decode cX12_day 29 = .ok (.aload_n 0, 1) := by decide +kernel
theorem dX12_day_30 : decode cX12_day 30 = .ok (.dup, 1) := by decide +kernel
theorem dX12_day_31 : decode cX12_day 31 = .ok (.getfield 358, 3) := by decide +kernel
theorem dX12_day_34 : decode cX12_day 34 = .ok (.iload_n 3, 1) := by decide +kernel
theorem dX12_day_35 : decode cX12_day 35 = .ok (.iadd, 1) := by decide +kernel
theorem dX12_day_36 : decode cX12_day 36 = .ok (.putfield 358, 3) := by decide +kernel
theorem dX12_day_39 : decode cX12_day 39 = .ok (.aload_n 0, 1) := by decide +kernel
theorem dX12_day_40 : decode cX12_day 40 = .ok (.dup, 1) := by decide +kernel
theorem dX12_day_41 : decode cX12_day 41 = .ok (.getfield 361, 3) := by decide +kernel
theorem dX12_day_44 : decode cX12_day 44 = .ok (.iconst 1, 1) := by decide +kernel
theorem dX12_day_45 : decode cX12_day 45 = .ok (.iadd, 1) := by decide +kernel
theorem dX12_day_46 : decode cX12_day 46 = .ok (.putfield 361, 3) := by decide +kernel
theorem dX12_day_49 : decode cX12_day 49 = .ok (.iload_n 3, 1) := by decide +kernel
theorem dX12_day_50 : decode cX12_day 50 = .ok (.ireturn, 1) := by decide +kernel
theorem dX12_meet_0 : decode cX12_meet 0 = .ok (.aload_n 0, 1) := by decide +kernel
theorem dX12_meet_1 : decode cX12_meet 1 = .ok (.iload_n 1, 1) := by decide +kernel
theorem dX12_meet_2 : decode cX12_meet 2 = .ok (.invokevirtual 263, 3) := by decide +kernel
theorem dX12_meet_5 : decode cX12_meet 5 = .ok (.ifCond .eq 11, 3) := by decide +kernel
theorem dX12_meet_8 : decode cX12_meet 8 = .ok (.aload_n 0, 1) := by decide +kernel
theorem dX12_meet_9 : decode cX12_meet 9 = .ok (.iload_n 1, 1) := by decide +kernel
theorem dX12_meet_10 : decode cX12_meet 10 = .ok (.invokevirtual 213, 3) := by decide +kernel
theorem dX12_meet_13 : decode cX12_meet 13 = .ok (.goto 9, 3) := by decide +kernel
theorem dX12_meet_16 : decode cX12_meet 16 = .ok (.aload_n 0, 1) := by decide +kernel
theorem dX12_meet_17 : decode cX12_meet 17 = .ok (.bipush (-2), 2) := by decide +kernel
theorem dX12_meet_19 : decode cX12_meet 19 = .ok (.invokevirtual 102, 3) := by decide +kernel
theorem dX12_meet_22 : decode cX12_meet 22 = .ok (.ireturn, 1) := by decide +kernel
def bwX12_year_0l : List Nat := [3, 60, 3, 61, 28, 42, 180, 0, 85, 162, 0, 109, 3, 62, 29, 28, 162, 0, 96, 42, 180, 0, 48, 28, 50, 29, 46, 54, 4, 21, 4, 2, 159, 0, 74, 21, 4, 16, 99, 162, 0, 10, 21, 4, 4, 96, 167, 0, 5, 16, 99, 54, 4, 42, 180, 0, 148, 153, 0, 16, 21, 4, 42, 180, 0, 148]
theorem bwX12_year_0 : ((cX12_year.data.toList.drop 0).take 66).map UInt8.toNat = bwX12_year_0l := by decide +kernel
theorem dX12_year_0 : decode cX12_year 0 = .ok (.iconst 0, 1) := bq_o3 (bq_of bwX12_year_0 0 (by decide +kernel))
theorem dX12_year_1 : decode cX12_year 1 = .ok (.istore_n 1, 1) := bq_o60 (bq_of bwX12_year_0 1 (by decide +kernel))
theorem dX12_year_2 : decode cX12_year 2 = .ok (.iconst 0, 1) := bq_o3 (bq_of bwX12_year_0 2 (by decide +kernel))
theorem dX12_year_3 : decode cX12_year 3 = .ok (.istore_n 2, 1) := bq_o61 (bq_of bwX12_year_0 3 (by decide +kernel))
theorem dX12_year_4 : decode cX12_year 4 = .ok (.iload_n 2, 1) := bq_o28 (bq_of bwX12_year_0 4 (by decide +kernel))
theorem dX12_year_5 : decode cX12_year 5 = .ok (.aload_n 0, 1) := bq_o42 (bq_of bwX12_year_0 5 (by decide +kernel))
theorem dX12_year_6 : decode cX12_year 6 = .ok (.getfield 85, 3) := bq_o180 (a := 0) (b := 85) (bq_3 bwX12_year_0 6 (by decide +kernel)) rfl
theorem dX12_year_9 : decode cX12_year 9 = .ok (.if_icmp .ge 109, 3) := bq_o162 (a := 0) (b := 109) (bq_3 bwX12_year_0 9 (by decide +kernel)) (by decide +kernel)
theorem dX12_year_12 : decode cX12_year 12 = .ok (.iconst 0, 1) := bq_o3 (bq_of bwX12_year_0 12 (by decide +kernel))
theorem dX12_year_13 : decode cX12_year 13 = .ok (.istore_n 3, 1) := bq_o62 (bq_of bwX12_year_0 13 (by decide +kernel))
theorem dX12_year_14 : decode cX12_year 14 = .ok (.iload_n 3, 1) := bq_o29 (bq_of bwX12_year_0 14 (by decide +kernel))
theorem dX12_year_15 : decode cX12_year 15 = .ok (.iload_n 2, 1) := bq_o28 (bq_of bwX12_year_0 15 (by decide +kernel))
theorem dX12_year_16 : decode cX12_year 16 = .ok (.if_icmp .ge 96, 3) := bq_o162 (a := 0) (b := 96) (bq_3 bwX12_year_0 16 (by decide +kernel)) (by decide +kernel)
theorem dX12_year_19 : decode cX12_year 19 = .ok (.aload_n 0, 1) := bq_o42 (bq_of bwX12_year_0 19 (by decide +kernel))
theorem dX12_year_20 : decode cX12_year 20 = .ok (.getfield 48, 3) := bq_o180 (a := 0) (b := 48) (bq_3 bwX12_year_0 20 (by decide +kernel)) rfl
theorem dX12_year_23 : decode cX12_year 23 = .ok (.iload_n 2, 1) := bq_o28 (bq_of bwX12_year_0 23 (by decide +kernel))
theorem dX12_year_24 : decode cX12_year 24 = .ok (.aaload, 1) := bq_o50 (bq_of bwX12_year_0 24 (by decide +kernel))
theorem dX12_year_25 : decode cX12_year 25 = .ok (.iload_n 3, 1) := bq_o29 (bq_of bwX12_year_0 25 (by decide +kernel))
theorem dX12_year_26 : decode cX12_year 26 = .ok (.iaload, 1) := bq_o46 (bq_of bwX12_year_0 26 (by decide +kernel))
theorem dX12_year_27 : decode cX12_year 27 = .ok (.istore 4, 2) := bq_o54 (a := 4) (bq_2 bwX12_year_0 27 (by decide +kernel)) rfl
theorem dX12_year_29 : decode cX12_year 29 = .ok (.iload 4, 2) := bq_o21 (a := 4) (bq_2 bwX12_year_0 29 (by decide +kernel)) rfl
theorem dX12_year_31 : decode cX12_year 31 = .ok (.iconst (-1), 1) := bq_o2 (bq_of bwX12_year_0 31 (by decide +kernel))
theorem dX12_year_32 : decode cX12_year 32 = .ok (.if_icmp .eq 74, 3) := bq_o159 (a := 0) (b := 74) (bq_3 bwX12_year_0 32 (by decide +kernel)) (by decide +kernel)
theorem dX12_year_35 : decode cX12_year 35 = .ok (.iload 4, 2) := bq_o21 (a := 4) (bq_2 bwX12_year_0 35 (by decide +kernel)) rfl
theorem dX12_year_37 : decode cX12_year 37 = .ok (.bipush 99, 2) := bq_o16 (a := 99) (bq_2 bwX12_year_0 37 (by decide +kernel)) (by decide +kernel)
theorem dX12_year_39 : decode cX12_year 39 = .ok (.if_icmp .ge 10, 3) := bq_o162 (a := 0) (b := 10) (bq_3 bwX12_year_0 39 (by decide +kernel)) (by decide +kernel)
theorem dX12_year_42 : decode cX12_year 42 = .ok (.iload 4, 2) := bq_o21 (a := 4) (bq_2 bwX12_year_0 42 (by decide +kernel)) rfl
theorem dX12_year_44 : decode cX12_year 44 = .ok (.iconst 1, 1) := bq_o4 (bq_of bwX12_year_0 44 (by decide +kernel))
theorem dX12_year_45 : decode cX12_year 45 = .ok (.iadd, 1) := bq_o96 (bq_of bwX12_year_0 45 (by decide +kernel))
theorem dX12_year_46 : decode cX12_year 46 = .ok (.goto 5, 3) := bq_o167 (a := 0) (b := 5) (bq_3 bwX12_year_0 46 (by decide +kernel)) (by decide +kernel)
theorem dX12_year_49 : decode cX12_year 49 = .ok (.bipush 99, 2) := bq_o16 (a := 99) (bq_2 bwX12_year_0 49 (by decide +kernel)) (by decide +kernel)
theorem dX12_year_51 : decode cX12_year 51 = .ok (.istore 4, 2) := bq_o54 (a := 4) (bq_2 bwX12_year_0 51 (by decide +kernel)) rfl
theorem dX12_year_53 : decode cX12_year 53 = .ok (.aload_n 0, 1) := bq_o42 (bq_of bwX12_year_0 53 (by decide +kernel))
theorem dX12_year_54 : decode cX12_year 54 = .ok (.getfield 148, 3) := bq_o180 (a := 0) (b := 148) (bq_3 bwX12_year_0 54 (by decide +kernel)) rfl
theorem dX12_year_57 : decode cX12_year 57 = .ok (.ifCond .eq 16, 3) := bq_o153 (a := 0) (b := 16) (bq_3 bwX12_year_0 57 (by decide +kernel)) (by decide +kernel)
theorem dX12_year_60 : decode cX12_year 60 = .ok (.iload 4, 2) := bq_o21 (a := 4) (bq_2 bwX12_year_0 60 (by decide +kernel)) rfl
theorem dX12_year_62 : decode cX12_year 62 = .ok (.aload_n 0, 1) := bq_o42 (bq_of bwX12_year_0 62 (by decide +kernel))
theorem dX12_year_63 : decode cX12_year 63 = .ok (.getfield 148, 3) := bq_o180 (a := 0) (b := 148) (bq_3 bwX12_year_0 63 (by decide +kernel)) rfl
def bwX12_year_64l : List Nat := [0, 148, 164, 0, 7, 4, 167, 0, 4, 3, 54, 5, 27, 21, 5, 153, 0, 7, 4, 167, 0, 4, 3, 96, 60, 42, 28, 29, 21, 5, 153, 0, 7, 2, 167, 0, 5, 21, 4, 182, 0, 142, 132, 3, 1, 167, 255, 161, 132, 2, 1, 167, 255, 145, 42, 89, 180, 1, 108, 4, 96, 181, 1, 108, 27, 172]
theorem bwX12_year_64 : ((cX12_year.data.toList.drop 64).take 66).map UInt8.toNat = bwX12_year_64l := by decide +kernel
theorem dX12_year_66 : decode cX12_year 66 = .ok (.if_icmp .le 7, 3) := bq_o164 (a := 0) (b := 7) (bq_3 bwX12_year_64 2 (by decide +kernel)) (by decide +kernel)
theorem dX12_year_69 : decode cX12_year 69 = .ok (.iconst 1, 1) := bq_o4 (bq_of bwX12_year_64 5 (by decide +kernel))
theorem dX12_year_70 : decode cX12_year 70 = .ok (.goto 4, 3) := bq_o167 (a := 0) (b := 4) (bq_3 bwX12_year_64 6 (by decide +kernel)) (by decide +kernel)
theorem dX12_year_73 : decode cX12_year 73 = .ok (.iconst 0, 1) := bq_o3 (bq_of bwX12_year_64 9 (by decide +kernel))
theorem dX12_year_74 : decode cX12_year 74 = .ok (.istore 5, 2) := bq_o54 (a := 5) (bq_2 bwX12_year_64 10 (by decide +kernel)) rfl
theorem dX12_year_76 : decode cX12_year 76 = .ok (.iload_n 1, 1) := bq_o27 (bq_of bwX12_year_64 12 (by decide +kernel))
theorem dX12_year_77 : decode cX12_year 77 = .ok (.iload 5, 2) := bq_o21 (a := 5) (bq_2 bwX12_year_64 13 (by decide +kernel)) rfl
theorem dX12_year_79 : decode cX12_year 79 = .ok (.ifCond .eq 7, 3) := bq_o153 (a := 0) (b := 7) (bq_3 bwX12_year_64 15 (by decide +kernel)) (by decide +kernel)
theorem dX12_year_82 : decode cX12_year 82 = .ok (.iconst 1, 1) := bq_o4 (bq_of bwX12_year_64 18 (by decide +kernel))
theorem dX12_year_83 : decode cX12_year 83 = .ok (.goto 4, 3) := bq_o167 (a := 0) (b := 4) (bq_3 bwX12_year_64 19 (by decide +kernel)) (by decide +kernel)
theorem dX12_year_86 : decode cX12_year 86 = .ok (.iconst 0, 1) := bq_o3 (bq_of bwX12_year_64 22 (by decide +kernel))
theorem dX12_year_87 : decode cX12_year 87 = .ok (.iadd, 1) := bq_o96 (bq_of bwX12_year_64 23 (by decide +kernel))
theorem dX12_year_88 : decode cX12_year 88 = .ok (.istore_n 1, 1) := bq_o60 (bq_of bwX12_year_64 24 (by decide +kernel))
theorem dX12_year_89 : decode cX12_year 89 = .ok (.aload_n 0, 1) := bq_o42 (bq_of bwX12_year_64 25 (by decide +kernel))
theorem dX12_year_90 : decode cX12_year 90 = .ok (.iload_n 2, 1) := bq_o28 (bq_of bwX12_year_64 26 (by decide +kernel))
theorem dX12_year_91 : decode cX12_year 91 = .ok (.iload_n 3, 1) := bq_o29 (bq_of bwX12_year_64 27 (by decide +kernel))
theorem dX12_year_92 : decode cX12_year 92 = .ok (.iload 5, 2) := bq_o21 (a := 5) (bq_2 bwX12_year_64 28 (by decide +kernel)) rfl
theorem dX12_year_94 : decode cX12_year 94 = .ok (.ifCond .eq 7, 3) := bq_o153 (a := 0) (b := 7) (bq_3 bwX12_year_64 30 (by decide +kernel)) (by decide +kernel)
theorem dX12_year_97 : decode cX12_year 97 = .ok (.iconst (-1), 1) := bq_o2 (bq_of bwX12_year_64 33 (by decide +kernel))
theorem dX12_year_98 : decode cX12_year 98 = .ok (.goto 5, 3) := bq_o167 (a := 0) (b := 5) (bq_3 bwX12_year_64 34 (by decide +kernel)) (by decide +kernel)
theorem dX12_year_101 : decode cX12_year 101 = .ok (.iload 4, 2) := bq_o21 (a := 4) (bq_2 bwX12_year_64 37 (by decide +kernel)) rfl
theorem dX12_year_103 : decode cX12_year 103 = .ok (.invokevirtual 142, 3) := bq_o182 (a := 0) (b := 142) (bq_3 bwX12_year_64 39 (by decide +kernel)) rfl
theorem dX12_year_106 : decode cX12_year 106 = .ok (.iinc 3 1, 3) := bq_o132 (a := 3) (b := 1) (bq_3 bwX12_year_64 42 (by decide +kernel)) rfl (by decide +kernel)
theorem dX12_year_109 : decode cX12_year 109 = .ok (.goto (-95), 3) := bq_o167 (a := 255) (b := 161) (bq_3 bwX12_year_64 45 (by decide +kernel)) (by decide +kernel)
theorem dX12_year_112 : decode cX12_year 112 = .ok (.iinc 2 1, 3) := bq_o132 (a := 2) (b := 1) (bq_3 bwX12_year_64 48 (by decide +kernel)) rfl (by decide +kernel)
theorem dX12_year_115 : decode cX12_year 115 = .ok (.goto (-111), 3) := bq_o167 (a := 255) (b := 145) (bq_3 bwX12_year_64 51 (by decide +kernel)) (by decide +kernel)
theorem dX12_year_118 : decode cX12_year 118 = .ok (.aload_n 0, 1) := bq_o42 (bq_of bwX12_year_64 54 (by decide +kernel))
theorem dX12_year_119 : decode cX12_year 119 = .ok (.dup, 1) := bq_o89 (bq_of bwX12_year_64 55 (by decide +kernel))
theorem dX12_year_120 : decode cX12_year 120 = .ok (.getfield 364, 3) := bq_o180 (a := 1) (b := 108) (bq_3 bwX12_year_64 56 (by decide +kernel)) rfl
theorem dX12_year_123 : decode cX12_year 123 = .ok (.iconst 1, 1) := bq_o4 (bq_of bwX12_year_64 59 (by decide +kernel))
theorem dX12_year_124 : decode cX12_year 124 = .ok (.iadd, 1) := bq_o96 (bq_of bwX12_year_64 60 (by decide +kernel))
theorem dX12_year_125 : decode cX12_year 125 = .ok (.putfield 364, 3) := bq_o181 (a := 1) (b := 108) (bq_3 bwX12_year_64 61 (by decide +kernel)) rfl
def bwX12_year_128l : List Nat := [27, 172]
theorem bwX12_year_128 : ((cX12_year.data.toList.drop 128).take 2).map UInt8.toNat = bwX12_year_128l := by decide +kernel
theorem dX12_year_128 : decode cX12_year 128 = .ok (.iload_n 1, 1) := bq_o27 (bq_of bwX12_year_128 0 (by decide +kernel))
theorem dX12_year_129 : decode cX12_year 129 = .ok (.ireturn, 1) := bq_o172 (bq_of bwX12_year_128 1 (by decide +kernel))
theorem dX12_below_0 : decode cX12_below 0 = .ok (.aload_n 0, 1) := by decide +kernel
theorem dX12_below_1 : decode cX12_below 1 = .ok (.aload_n 0, 1) := by decide +kernel
theorem dX12_below_2 : decode cX12_below 2 = .ok (.getfield 55, 3) := by decide +kernel
theorem dX12_below_5 : decode cX12_below 5 = .ok (.ldc_w 367, 3) := by decide +kernel
theorem dX12_below_8 : decode cX12_below 8 = .ok (.imul, 1) := by decide +kernel
theorem dX12_below_9 : decode cX12_below 9 = .ok (.sipush 12345, 3) := by decide +kernel
theorem dX12_below_12 : decode cX12_below 12 = .ok (.iadd, 1) := by decide +kernel
theorem dX12_below_13 : decode cX12_below 13 = .ok (.putfield 55, 3) := by decide +kernel
theorem dX12_below_16 : decode cX12_below 16 = .ok (.aload_n 0, 1) := by decide +kernel
theorem dX12_below_17 : decode cX12_below 17 = .ok (.getfield 55, 3) := by decide +kernel
theorem dX12_below_20 : decode cX12_below 20 = .ok (.bipush 16, 2) := by decide +kernel
theorem dX12_below_22 : decode cX12_below 22 = .ok (.iushr, 1) := by decide +kernel
theorem dX12_below_23 : decode cX12_below 23 = .ok (.iload_n 1, 1) := by decide +kernel
theorem dX12_below_24 : decode cX12_below 24 = .ok (.irem, 1) := by decide +kernel
theorem dX12_below_25 : decode cX12_below 25 = .ok (.ireturn, 1) := by decide +kernel
def bwX12_come_0l : List Nat := [27, 133, 10, 20, 0, 96, 184, 0, 88, 154, 0, 10, 42, 16, 254, 182, 0, 102, 172, 3, 61, 28, 27, 162, 0, 77, 42, 180, 0, 85, 16, 7, 162, 0, 68, 42, 16, 24, 182, 1, 112, 62, 42, 29, 42, 16, 10, 182, 1, 112, 182, 0, 127, 3, 54, 4, 21, 4, 42, 180, 0, 85, 4, 100, 162, 0]
theorem bwX12_come_0 : ((cX12_come.data.toList.drop 0).take 66).map UInt8.toNat = bwX12_come_0l := by decide +kernel
theorem dX12_come_0 : decode cX12_come 0 = .ok (.iload_n 1, 1) := bq_o27 (bq_of bwX12_come_0 0 (by decide +kernel))
theorem dX12_come_1 : decode cX12_come 1 = .ok (.i2l, 1) := bq_o133 (bq_of bwX12_come_0 1 (by decide +kernel))
theorem dX12_come_2 : decode cX12_come 2 = .ok (.lconst 1, 1) := bq_o10 (bq_of bwX12_come_0 2 (by decide +kernel))
theorem dX12_come_3 : decode cX12_come 3 = .ok (.ldc2_w 96, 3) := bq_o20 (a := 0) (b := 96) (bq_3 bwX12_come_0 3 (by decide +kernel)) rfl
theorem dX12_come_6 : decode cX12_come 6 = .ok (.invokestatic 88, 3) := bq_o184 (a := 0) (b := 88) (bq_3 bwX12_come_0 6 (by decide +kernel)) rfl
theorem dX12_come_9 : decode cX12_come 9 = .ok (.ifCond .ne 10, 3) := bq_o154 (a := 0) (b := 10) (bq_3 bwX12_come_0 9 (by decide +kernel)) (by decide +kernel)
theorem dX12_come_12 : decode cX12_come 12 = .ok (.aload_n 0, 1) := bq_o42 (bq_of bwX12_come_0 12 (by decide +kernel))
theorem dX12_come_13 : decode cX12_come 13 = .ok (.bipush (-2), 2) := bq_o16 (a := 254) (bq_2 bwX12_come_0 13 (by decide +kernel)) (by decide +kernel)
theorem dX12_come_15 : decode cX12_come 15 = .ok (.invokevirtual 102, 3) := bq_o182 (a := 0) (b := 102) (bq_3 bwX12_come_0 15 (by decide +kernel)) rfl
theorem dX12_come_18 : decode cX12_come 18 = .ok (.ireturn, 1) := bq_o172 (bq_of bwX12_come_0 18 (by decide +kernel))
theorem dX12_come_19 : decode cX12_come 19 = .ok (.iconst 0, 1) := bq_o3 (bq_of bwX12_come_0 19 (by decide +kernel))
theorem dX12_come_20 : decode cX12_come 20 = .ok (.istore_n 2, 1) := bq_o61 (bq_of bwX12_come_0 20 (by decide +kernel))
theorem dX12_come_21 : decode cX12_come 21 = .ok (.iload_n 2, 1) := bq_o28 (bq_of bwX12_come_0 21 (by decide +kernel))
theorem dX12_come_22 : decode cX12_come 22 = .ok (.iload_n 1, 1) := bq_o27 (bq_of bwX12_come_0 22 (by decide +kernel))
theorem dX12_come_23 : decode cX12_come 23 = .ok (.if_icmp .ge 77, 3) := bq_o162 (a := 0) (b := 77) (bq_3 bwX12_come_0 23 (by decide +kernel)) (by decide +kernel)
theorem dX12_come_26 : decode cX12_come 26 = .ok (.aload_n 0, 1) := bq_o42 (bq_of bwX12_come_0 26 (by decide +kernel))
theorem dX12_come_27 : decode cX12_come 27 = .ok (.getfield 85, 3) := bq_o180 (a := 0) (b := 85) (bq_3 bwX12_come_0 27 (by decide +kernel)) rfl
theorem dX12_come_30 : decode cX12_come 30 = .ok (.bipush 7, 2) := bq_o16 (a := 7) (bq_2 bwX12_come_0 30 (by decide +kernel)) (by decide +kernel)
theorem dX12_come_32 : decode cX12_come 32 = .ok (.if_icmp .ge 68, 3) := bq_o162 (a := 0) (b := 68) (bq_3 bwX12_come_0 32 (by decide +kernel)) (by decide +kernel)
theorem dX12_come_35 : decode cX12_come 35 = .ok (.aload_n 0, 1) := bq_o42 (bq_of bwX12_come_0 35 (by decide +kernel))
theorem dX12_come_36 : decode cX12_come 36 = .ok (.bipush 24, 2) := bq_o16 (a := 24) (bq_2 bwX12_come_0 36 (by decide +kernel)) (by decide +kernel)
theorem dX12_come_38 : decode cX12_come 38 = .ok (.invokevirtual 368, 3) := bq_o182 (a := 1) (b := 112) (bq_3 bwX12_come_0 38 (by decide +kernel)) rfl
theorem dX12_come_41 : decode cX12_come 41 = .ok (.istore_n 3, 1) := bq_o62 (bq_of bwX12_come_0 41 (by decide +kernel))
theorem dX12_come_42 : decode cX12_come 42 = .ok (.aload_n 0, 1) := bq_o42 (bq_of bwX12_come_0 42 (by decide +kernel))
theorem dX12_come_43 : decode cX12_come 43 = .ok (.iload_n 3, 1) := bq_o29 (bq_of bwX12_come_0 43 (by decide +kernel))
theorem dX12_come_44 : decode cX12_come 44 = .ok (.aload_n 0, 1) := bq_o42 (bq_of bwX12_come_0 44 (by decide +kernel))
theorem dX12_come_45 : decode cX12_come 45 = .ok (.bipush 10, 2) := bq_o16 (a := 10) (bq_2 bwX12_come_0 45 (by decide +kernel)) (by decide +kernel)
theorem dX12_come_47 : decode cX12_come 47 = .ok (.invokevirtual 368, 3) := bq_o182 (a := 1) (b := 112) (bq_3 bwX12_come_0 47 (by decide +kernel)) rfl
theorem dX12_come_50 : decode cX12_come 50 = .ok (.invokevirtual 127, 3) := bq_o182 (a := 0) (b := 127) (bq_3 bwX12_come_0 50 (by decide +kernel)) rfl
theorem dX12_come_53 : decode cX12_come 53 = .ok (.iconst 0, 1) := bq_o3 (bq_of bwX12_come_0 53 (by decide +kernel))
theorem dX12_come_54 : decode cX12_come 54 = .ok (.istore 4, 2) := bq_o54 (a := 4) (bq_2 bwX12_come_0 54 (by decide +kernel)) rfl
theorem dX12_come_56 : decode cX12_come 56 = .ok (.iload 4, 2) := bq_o21 (a := 4) (bq_2 bwX12_come_0 56 (by decide +kernel)) rfl
theorem dX12_come_58 : decode cX12_come 58 = .ok (.aload_n 0, 1) := bq_o42 (bq_of bwX12_come_0 58 (by decide +kernel))
theorem dX12_come_59 : decode cX12_come 59 = .ok (.getfield 85, 3) := bq_o180 (a := 0) (b := 85) (bq_3 bwX12_come_0 59 (by decide +kernel)) rfl
theorem dX12_come_62 : decode cX12_come 62 = .ok (.iconst 1, 1) := bq_o4 (bq_of bwX12_come_0 62 (by decide +kernel))
theorem dX12_come_63 : decode cX12_come 63 = .ok (.isub, 1) := bq_o100 (bq_of bwX12_come_0 63 (by decide +kernel))
def bwX12_come_64l : List Nat := [162, 0, 30, 42, 6, 182, 1, 112, 154, 0, 16, 42, 42, 180, 0, 85, 4, 100, 21, 4, 3, 182, 0, 142, 132, 4, 1, 167, 255, 221, 132, 2, 1, 167, 255, 180, 28, 172]
theorem bwX12_come_64 : ((cX12_come.data.toList.drop 64).take 38).map UInt8.toNat = bwX12_come_64l := by decide +kernel
theorem dX12_come_64 : decode cX12_come 64 = .ok (.if_icmp .ge 30, 3) := bq_o162 (a := 0) (b := 30) (bq_3 bwX12_come_64 0 (by decide +kernel)) (by decide +kernel)
theorem dX12_come_67 : decode cX12_come 67 = .ok (.aload_n 0, 1) := bq_o42 (bq_of bwX12_come_64 3 (by decide +kernel))
theorem dX12_come_68 : decode cX12_come 68 = .ok (.iconst 3, 1) := bq_o6 (bq_of bwX12_come_64 4 (by decide +kernel))
theorem dX12_come_69 : decode cX12_come 69 = .ok (.invokevirtual 368, 3) := bq_o182 (a := 1) (b := 112) (bq_3 bwX12_come_64 5 (by decide +kernel)) rfl
theorem dX12_come_72 : decode cX12_come 72 = .ok (.ifCond .ne 16, 3) := bq_o154 (a := 0) (b := 16) (bq_3 bwX12_come_64 8 (by decide +kernel)) (by decide +kernel)
theorem dX12_come_75 : decode cX12_come 75 = .ok (.aload_n 0, 1) := bq_o42 (bq_of bwX12_come_64 11 (by decide +kernel))
theorem dX12_come_76 : decode cX12_come 76 = .ok (.aload_n 0, 1) := bq_o42 (bq_of bwX12_come_64 12 (by decide +kernel))
theorem dX12_come_77 : decode cX12_come 77 = .ok (.getfield 85, 3) := bq_o180 (a := 0) (b := 85) (bq_3 bwX12_come_64 13 (by decide +kernel)) rfl
theorem dX12_come_80 : decode cX12_come 80 = .ok (.iconst 1, 1) := bq_o4 (bq_of bwX12_come_64 16 (by decide +kernel))
theorem dX12_come_81 : decode cX12_come 81 = .ok (.isub, 1) := bq_o100 (bq_of bwX12_come_64 17 (by decide +kernel))
theorem dX12_come_82 : decode cX12_come 82 = .ok (.iload 4, 2) := bq_o21 (a := 4) (bq_2 bwX12_come_64 18 (by decide +kernel)) rfl
theorem dX12_come_84 : decode cX12_come 84 = .ok (.iconst 0, 1) := bq_o3 (bq_of bwX12_come_64 20 (by decide +kernel))
theorem dX12_come_85 : decode cX12_come 85 = .ok (.invokevirtual 142, 3) := bq_o182 (a := 0) (b := 142) (bq_3 bwX12_come_64 21 (by decide +kernel)) rfl
theorem dX12_come_88 : decode cX12_come 88 = .ok (.iinc 4 1, 3) := bq_o132 (a := 4) (b := 1) (bq_3 bwX12_come_64 24 (by decide +kernel)) rfl (by decide +kernel)
theorem dX12_come_91 : decode cX12_come 91 = .ok (.goto (-35), 3) := bq_o167 (a := 255) (b := 221) (bq_3 bwX12_come_64 27 (by decide +kernel)) (by decide +kernel)
theorem dX12_come_94 : decode cX12_come 94 = .ok (.iinc 2 1, 3) := bq_o132 (a := 2) (b := 1) (bq_3 bwX12_come_64 30 (by decide +kernel)) rfl (by decide +kernel)
theorem dX12_come_97 : decode cX12_come 97 = .ok (.goto (-76), 3) := bq_o167 (a := 255) (b := 180) (bq_3 bwX12_come_64 33 (by decide +kernel)) (by decide +kernel)
theorem dX12_come_100 : decode cX12_come 100 = .ok (.iload_n 2, 1) := bq_o28 (bq_of bwX12_come_64 36 (by decide +kernel))
theorem dX12_come_101 : decode cX12_come 101 = .ok (.ireturn, 1) := bq_o172 (bq_of bwX12_come_64 37 (by decide +kernel))
theorem dX12_seed_0 : decode cX12_seed 0 = .ok (.aload_n 0, 1) := by decide +kernel
theorem dX12_seed_1 : decode cX12_seed 1 = .ok (.getfield 55, 3) := by decide +kernel
theorem dX12_seed_4 : decode cX12_seed 4 = .ok (.istore_n 2, 1) := by decide +kernel
theorem dX12_seed_5 : decode cX12_seed 5 = .ok (.aload_n 0, 1) := by decide +kernel
theorem dX12_seed_6 : decode cX12_seed 6 = .ok (.iload_n 1, 1) := by decide +kernel
theorem dX12_seed_7 : decode cX12_seed 7 = .ok (.putfield 55, 3) := by decide +kernel
theorem dX12_seed_10 : decode cX12_seed 10 = .ok (.iload_n 2, 1) := by decide +kernel
theorem dX12_seed_11 : decode cX12_seed 11 = .ok (.ireturn, 1) := by decide +kernel
theorem dX12_fresh_0 : decode cX12_fresh 0 = .ok (.aload_n 0, 1) := by decide +kernel
theorem dX12_fresh_1 : decode cX12_fresh 1 = .ok (.getfield 371, 3) := by decide +kernel
theorem dX12_fresh_4 : decode cX12_fresh 4 = .ok (.ifnonnull 14, 3) := by decide +kernel
theorem dX12_fresh_7 : decode cX12_fresh 7 = .ok (.aload_n 0, 1) := by decide +kernel
theorem dX12_fresh_8 : decode cX12_fresh 8 = .ok (.new 8, 3) := by decide +kernel
theorem dX12_fresh_11 : decode cX12_fresh 11 = .ok (.dup, 1) := by decide +kernel
theorem dX12_fresh_12 : decode cX12_fresh 12 = .ok (.invokespecial 375, 3) := by decide +kernel
theorem dX12_fresh_15 : decode cX12_fresh 15 = .ok (.putfield 371, 3) := by decide +kernel
theorem dX12_fresh_18 : decode cX12_fresh 18 = .ok (.aload_n 0, 1) := by decide +kernel
theorem dX12_fresh_19 : decode cX12_fresh 19 = .ok (.getfield 371, 3) := by decide +kernel
theorem dX12_fresh_22 : decode cX12_fresh 22 = .ok (.aload_n 0, 1) := by decide +kernel
theorem dX12_fresh_23 : decode cX12_fresh 23 = .ok (.invokevirtual 245, 3) := by decide +kernel
theorem dX12_fresh_26 : decode cX12_fresh 26 = .ok (.aload_n 0, 1) := by decide +kernel
theorem dX12_fresh_27 : decode cX12_fresh 27 = .ok (.getfield 371, 3) := by decide +kernel
theorem dX12_fresh_30 : decode cX12_fresh 30 = .ok (.areturn, 1) := by decide +kernel
theorem dX12_over_0 : decode cX12_over 0 = .ok (.iconst 0, 1) := by decide +kernel
theorem dX12_over_1 : decode cX12_over 1 = .ok (.istore_n 2, 1) := by decide +kernel
theorem dX12_over_2 : decode cX12_over 2 = .ok (.iload_n 2, 1) := by decide +kernel
theorem dX12_over_3 : decode cX12_over 3 = .ok (.aload_n 0, 1) := by decide +kernel
theorem dX12_over_4 : decode cX12_over 4 = .ok (.arraylength, 1) := by decide +kernel
theorem dX12_over_5 : decode cX12_over 5 = .ok (.if_icmp .ge 15, 3) := by decide +kernel
theorem dX12_over_8 : decode cX12_over 8 = .ok (.aload_n 1, 1) := by decide +kernel
theorem dX12_over_9 : decode cX12_over 9 = .ok (.iload_n 2, 1) := by decide +kernel
theorem dX12_over_10 : decode cX12_over 10 = .ok (.aload_n 0, 1) := by decide +kernel
theorem dX12_over_11 : decode cX12_over 11 = .ok (.iload_n 2, 1) := by decide +kernel
theorem dX12_over_12 : decode cX12_over 12 = .ok (.iaload, 1) := by decide +kernel
theorem dX12_over_13 : decode cX12_over 13 = .ok (.iastore, 1) := by decide +kernel
theorem dX12_over_14 : decode cX12_over 14 = .ok (.iinc 2 1, 3) := by decide +kernel
theorem dX12_over_17 : decode cX12_over 17 = .ok (.goto (-15), 3) := by decide +kernel
theorem dX12_over_20 : decode cX12_over 20 = .ok (.return_, 1) := by decide +kernel
def bwX12_takeFrom_0l : List Nat := [42, 43, 180, 0, 85, 181, 0, 85, 43, 180, 0, 40, 42, 180, 0, 40, 184, 1, 120, 43, 180, 0, 43, 42, 180, 0, 43, 184, 1, 120, 3, 61, 28, 16, 7, 163, 0, 24, 43, 180, 0, 48, 28, 50, 42, 180, 0, 48, 28, 50, 184, 1, 120, 132, 2, 1, 167, 255, 232, 42, 43, 180, 0, 51, 181, 0]
theorem bwX12_takeFrom_0 : ((cX12_takeFrom.data.toList.drop 0).take 66).map UInt8.toNat = bwX12_takeFrom_0l := by decide +kernel
theorem dX12_takeFrom_0 : decode cX12_takeFrom 0 = .ok (.aload_n 0, 1) := bq_o42 (bq_of bwX12_takeFrom_0 0 (by decide +kernel))
theorem dX12_takeFrom_1 : decode cX12_takeFrom 1 = .ok (.aload_n 1, 1) := bq_o43 (bq_of bwX12_takeFrom_0 1 (by decide +kernel))
theorem dX12_takeFrom_2 : decode cX12_takeFrom 2 = .ok (.getfield 85, 3) := bq_o180 (a := 0) (b := 85) (bq_3 bwX12_takeFrom_0 2 (by decide +kernel)) rfl
theorem dX12_takeFrom_5 : decode cX12_takeFrom 5 = .ok (.putfield 85, 3) := bq_o181 (a := 0) (b := 85) (bq_3 bwX12_takeFrom_0 5 (by decide +kernel)) rfl
theorem dX12_takeFrom_8 : decode cX12_takeFrom 8 = .ok (.aload_n 1, 1) := bq_o43 (bq_of bwX12_takeFrom_0 8 (by decide +kernel))
theorem dX12_takeFrom_9 : decode cX12_takeFrom 9 = .ok (.getfield 40, 3) := bq_o180 (a := 0) (b := 40) (bq_3 bwX12_takeFrom_0 9 (by decide +kernel)) rfl
theorem dX12_takeFrom_12 : decode cX12_takeFrom 12 = .ok (.aload_n 0, 1) := bq_o42 (bq_of bwX12_takeFrom_0 12 (by decide +kernel))
theorem dX12_takeFrom_13 : decode cX12_takeFrom 13 = .ok (.getfield 40, 3) := bq_o180 (a := 0) (b := 40) (bq_3 bwX12_takeFrom_0 13 (by decide +kernel)) rfl
theorem dX12_takeFrom_16 : decode cX12_takeFrom 16 = .ok (.invokestatic 376, 3) := bq_o184 (a := 1) (b := 120) (bq_3 bwX12_takeFrom_0 16 (by decide +kernel)) rfl
theorem dX12_takeFrom_19 : decode cX12_takeFrom 19 = .ok (.aload_n 1, 1) := bq_o43 (bq_of bwX12_takeFrom_0 19 (by decide +kernel))
theorem dX12_takeFrom_20 : decode cX12_takeFrom 20 = .ok (.getfield 43, 3) := bq_o180 (a := 0) (b := 43) (bq_3 bwX12_takeFrom_0 20 (by decide +kernel)) rfl
theorem dX12_takeFrom_23 : decode cX12_takeFrom 23 = .ok (.aload_n 0, 1) := bq_o42 (bq_of bwX12_takeFrom_0 23 (by decide +kernel))
theorem dX12_takeFrom_24 : decode cX12_takeFrom 24 = .ok (.getfield 43, 3) := bq_o180 (a := 0) (b := 43) (bq_3 bwX12_takeFrom_0 24 (by decide +kernel)) rfl
theorem dX12_takeFrom_27 : decode cX12_takeFrom 27 = .ok (.invokestatic 376, 3) := bq_o184 (a := 1) (b := 120) (bq_3 bwX12_takeFrom_0 27 (by decide +kernel)) rfl
theorem dX12_takeFrom_30 : decode cX12_takeFrom 30 = .ok (.iconst 0, 1) := bq_o3 (bq_of bwX12_takeFrom_0 30 (by decide +kernel))
theorem dX12_takeFrom_31 : decode cX12_takeFrom 31 = .ok (.istore_n 2, 1) := bq_o61 (bq_of bwX12_takeFrom_0 31 (by decide +kernel))
theorem dX12_takeFrom_32 : decode cX12_takeFrom 32 = .ok (.iload_n 2, 1) := bq_o28 (bq_of bwX12_takeFrom_0 32 (by decide +kernel))
theorem dX12_takeFrom_33 : decode cX12_takeFrom 33 = .ok (.bipush 7, 2) := bq_o16 (a := 7) (bq_2 bwX12_takeFrom_0 33 (by decide +kernel)) (by decide +kernel)
theorem dX12_takeFrom_35 : decode cX12_takeFrom 35 = .ok (.if_icmp .gt 24, 3) := bq_o163 (a := 0) (b := 24) (bq_3 bwX12_takeFrom_0 35 (by decide +kernel)) (by decide +kernel)
theorem dX12_takeFrom_38 : decode cX12_takeFrom 38 = .ok (.aload_n 1, 1) := bq_o43 (bq_of bwX12_takeFrom_0 38 (by decide +kernel))
theorem dX12_takeFrom_39 : decode cX12_takeFrom 39 = .ok (.getfield 48, 3) := bq_o180 (a := 0) (b := 48) (bq_3 bwX12_takeFrom_0 39 (by decide +kernel)) rfl
theorem dX12_takeFrom_42 : decode cX12_takeFrom 42 = .ok (.iload_n 2, 1) := bq_o28 (bq_of bwX12_takeFrom_0 42 (by decide +kernel))
theorem dX12_takeFrom_43 : decode cX12_takeFrom 43 = .ok (.aaload, 1) := bq_o50 (bq_of bwX12_takeFrom_0 43 (by decide +kernel))
theorem dX12_takeFrom_44 : decode cX12_takeFrom 44 = .ok (.aload_n 0, 1) := bq_o42 (bq_of bwX12_takeFrom_0 44 (by decide +kernel))
theorem dX12_takeFrom_45 : decode cX12_takeFrom 45 = .ok (.getfield 48, 3) := bq_o180 (a := 0) (b := 48) (bq_3 bwX12_takeFrom_0 45 (by decide +kernel)) rfl
theorem dX12_takeFrom_48 : decode cX12_takeFrom 48 = .ok (.iload_n 2, 1) := bq_o28 (bq_of bwX12_takeFrom_0 48 (by decide +kernel))
theorem dX12_takeFrom_49 : decode cX12_takeFrom 49 = .ok (.aaload, 1) := bq_o50 (bq_of bwX12_takeFrom_0 49 (by decide +kernel))
theorem dX12_takeFrom_50 : decode cX12_takeFrom 50 = .ok (.invokestatic 376, 3) := bq_o184 (a := 1) (b := 120) (bq_3 bwX12_takeFrom_0 50 (by decide +kernel)) rfl
theorem dX12_takeFrom_53 : decode cX12_takeFrom 53 = .ok (.iinc 2 1, 3) := bq_o132 (a := 2) (b := 1) (bq_3 bwX12_takeFrom_0 53 (by decide +kernel)) rfl (by decide +kernel)
theorem dX12_takeFrom_56 : decode cX12_takeFrom 56 = .ok (.goto (-24), 3) := bq_o167 (a := 255) (b := 232) (bq_3 bwX12_takeFrom_0 56 (by decide +kernel)) (by decide +kernel)
theorem dX12_takeFrom_59 : decode cX12_takeFrom 59 = .ok (.aload_n 0, 1) := bq_o42 (bq_of bwX12_takeFrom_0 59 (by decide +kernel))
theorem dX12_takeFrom_60 : decode cX12_takeFrom 60 = .ok (.aload_n 1, 1) := bq_o43 (bq_of bwX12_takeFrom_0 60 (by decide +kernel))
theorem dX12_takeFrom_61 : decode cX12_takeFrom 61 = .ok (.getfield 51, 3) := bq_o180 (a := 0) (b := 51) (bq_3 bwX12_takeFrom_0 61 (by decide +kernel)) rfl
def bwX12_takeFrom_64l : List Nat := [181, 0, 51, 42, 43, 180, 0, 148, 181, 0, 148, 42, 43, 180, 1, 102, 181, 1, 102, 42, 43, 180, 1, 105, 181, 1, 105, 42, 43, 180, 1, 108, 181, 1, 108, 42, 43, 180, 0, 55, 181, 0, 55, 177]
theorem bwX12_takeFrom_64 : ((cX12_takeFrom.data.toList.drop 64).take 44).map UInt8.toNat = bwX12_takeFrom_64l := by decide +kernel
theorem dX12_takeFrom_64 : decode cX12_takeFrom 64 = .ok (.putfield 51, 3) := bq_o181 (a := 0) (b := 51) (bq_3 bwX12_takeFrom_64 0 (by decide +kernel)) rfl
theorem dX12_takeFrom_67 : decode cX12_takeFrom 67 = .ok (.aload_n 0, 1) := bq_o42 (bq_of bwX12_takeFrom_64 3 (by decide +kernel))
theorem dX12_takeFrom_68 : decode cX12_takeFrom 68 = .ok (.aload_n 1, 1) := bq_o43 (bq_of bwX12_takeFrom_64 4 (by decide +kernel))
theorem dX12_takeFrom_69 : decode cX12_takeFrom 69 = .ok (.getfield 148, 3) := bq_o180 (a := 0) (b := 148) (bq_3 bwX12_takeFrom_64 5 (by decide +kernel)) rfl
theorem dX12_takeFrom_72 : decode cX12_takeFrom 72 = .ok (.putfield 148, 3) := bq_o181 (a := 0) (b := 148) (bq_3 bwX12_takeFrom_64 8 (by decide +kernel)) rfl
theorem dX12_takeFrom_75 : decode cX12_takeFrom 75 = .ok (.aload_n 0, 1) := bq_o42 (bq_of bwX12_takeFrom_64 11 (by decide +kernel))
theorem dX12_takeFrom_76 : decode cX12_takeFrom 76 = .ok (.aload_n 1, 1) := bq_o43 (bq_of bwX12_takeFrom_64 12 (by decide +kernel))
theorem dX12_takeFrom_77 : decode cX12_takeFrom 77 = .ok (.getfield 358, 3) := bq_o180 (a := 1) (b := 102) (bq_3 bwX12_takeFrom_64 13 (by decide +kernel)) rfl
theorem dX12_takeFrom_80 : decode cX12_takeFrom 80 = .ok (.putfield 358, 3) := bq_o181 (a := 1) (b := 102) (bq_3 bwX12_takeFrom_64 16 (by decide +kernel)) rfl
theorem dX12_takeFrom_83 : decode cX12_takeFrom 83 = .ok (.aload_n 0, 1) := bq_o42 (bq_of bwX12_takeFrom_64 19 (by decide +kernel))
theorem dX12_takeFrom_84 : decode cX12_takeFrom 84 = .ok (.aload_n 1, 1) := bq_o43 (bq_of bwX12_takeFrom_64 20 (by decide +kernel))
theorem dX12_takeFrom_85 : decode cX12_takeFrom 85 = .ok (.getfield 361, 3) := bq_o180 (a := 1) (b := 105) (bq_3 bwX12_takeFrom_64 21 (by decide +kernel)) rfl
theorem dX12_takeFrom_88 : decode cX12_takeFrom 88 = .ok (.putfield 361, 3) := bq_o181 (a := 1) (b := 105) (bq_3 bwX12_takeFrom_64 24 (by decide +kernel)) rfl
theorem dX12_takeFrom_91 : decode cX12_takeFrom 91 = .ok (.aload_n 0, 1) := bq_o42 (bq_of bwX12_takeFrom_64 27 (by decide +kernel))
theorem dX12_takeFrom_92 : decode cX12_takeFrom 92 = .ok (.aload_n 1, 1) := bq_o43 (bq_of bwX12_takeFrom_64 28 (by decide +kernel))
theorem dX12_takeFrom_93 : decode cX12_takeFrom 93 = .ok (.getfield 364, 3) := bq_o180 (a := 1) (b := 108) (bq_3 bwX12_takeFrom_64 29 (by decide +kernel)) rfl
theorem dX12_takeFrom_96 : decode cX12_takeFrom 96 = .ok (.putfield 364, 3) := bq_o181 (a := 1) (b := 108) (bq_3 bwX12_takeFrom_64 32 (by decide +kernel)) rfl
theorem dX12_takeFrom_99 : decode cX12_takeFrom 99 = .ok (.aload_n 0, 1) := bq_o42 (bq_of bwX12_takeFrom_64 35 (by decide +kernel))
theorem dX12_takeFrom_100 : decode cX12_takeFrom 100 = .ok (.aload_n 1, 1) := bq_o43 (bq_of bwX12_takeFrom_64 36 (by decide +kernel))
theorem dX12_takeFrom_101 : decode cX12_takeFrom 101 = .ok (.getfield 55, 3) := bq_o180 (a := 0) (b := 55) (bq_3 bwX12_takeFrom_64 37 (by decide +kernel)) rfl
theorem dX12_takeFrom_104 : decode cX12_takeFrom 104 = .ok (.putfield 55, 3) := bq_o181 (a := 0) (b := 55) (bq_3 bwX12_takeFrom_64 40 (by decide +kernel)) rfl
theorem dX12_takeFrom_107 : decode cX12_takeFrom 107 = .ok (.return_, 1) := bq_o177 (bq_of bwX12_takeFrom_64 43 (by decide +kernel))
theorem dX12_image_0 : decode cX12_image 0 = .ok (.aload_n 0, 1) := by decide +kernel
theorem dX12_image_1 : decode cX12_image 1 = .ok (.getfield 380, 3) := by decide +kernel
theorem dX12_image_4 : decode cX12_image 4 = .ok (.ifnonnull 14, 3) := by decide +kernel
theorem dX12_image_7 : decode cX12_image 7 = .ok (.aload_n 0, 1) := by decide +kernel
theorem dX12_image_8 : decode cX12_image 8 = .ok (.new 8, 3) := by decide +kernel
theorem dX12_image_11 : decode cX12_image 11 = .ok (.dup, 1) := by decide +kernel
theorem dX12_image_12 : decode cX12_image 12 = .ok (.invokespecial 375, 3) := by decide +kernel
theorem dX12_image_15 : decode cX12_image 15 = .ok (.putfield 380, 3) := by decide +kernel
theorem dX12_image_18 : decode cX12_image 18 = .ok (.aload_n 0, 1) := by decide +kernel
theorem dX12_image_19 : decode cX12_image 19 = .ok (.getfield 380, 3) := by decide +kernel
theorem dX12_image_22 : decode cX12_image 22 = .ok (.aload_n 0, 1) := by decide +kernel
theorem dX12_image_23 : decode cX12_image 23 = .ok (.invokevirtual 245, 3) := by decide +kernel
theorem dX12_image_26 : decode cX12_image 26 = .ok (.iconst 1, 1) := by decide +kernel
theorem dX12_image_27 : decode cX12_image 27 = .ok (.ireturn, 1) := by decide +kernel
theorem dX12_back_0 : decode cX12_back 0 = .ok (.aload_n 0, 1) := by decide +kernel
theorem dX12_back_1 : decode cX12_back 1 = .ok (.getfield 380, 3) := by decide +kernel
theorem dX12_back_4 : decode cX12_back 4 = .ok (.ifnonnull 10, 3) := by decide +kernel
theorem dX12_back_7 : decode cX12_back 7 = .ok (.aload_n 0, 1) := by decide +kernel
theorem dX12_back_8 : decode cX12_back 8 = .ok (.bipush (-5), 2) := by decide +kernel
theorem dX12_back_10 : decode cX12_back 10 = .ok (.invokevirtual 102, 3) := by decide +kernel
theorem dX12_back_13 : decode cX12_back 13 = .ok (.ireturn, 1) := by decide +kernel
theorem dX12_back_14 : decode cX12_back 14 = .ok (.aload_n 0, 1) := by decide +kernel
theorem dX12_back_15 : decode cX12_back 15 = .ok (.aload_n 0, 1) := by decide +kernel
theorem dX12_back_16 : decode cX12_back 16 = .ok (.getfield 380, 3) := by decide +kernel
theorem dX12_back_19 : decode cX12_back 19 = .ok (.invokevirtual 245, 3) := by decide +kernel
theorem dX12_back_22 : decode cX12_back 22 = .ok (.iconst 1, 1) := by decide +kernel
theorem dX12_back_23 : decode cX12_back 23 = .ok (.ireturn, 1) := by decide +kernel
def bwX12_status_0l : List Nat := [3, 61, 27, 170, 0, 0, 0, 135, 0, 0, 0, 0, 0, 0, 0, 9, 0, 0, 0, 53, 0, 0, 0, 58, 0, 0, 0, 63, 0, 0, 0, 68, 0, 0, 0, 77, 0, 0, 0, 82, 0, 0, 0, 87, 0, 0, 0, 92, 0, 0, 0, 97, 0, 0, 0, 102, 42, 180, 0, 85, 172, 42, 180, 0, 51, 172]
theorem bwX12_status_0 : ((cX12_status.data.toList.drop 0).take 66).map UInt8.toNat = bwX12_status_0l := by decide +kernel
theorem dX12_status_0 : decode cX12_status 0 = .ok (.iconst 0, 1) := bq_o3 (bq_of bwX12_status_0 0 (by decide +kernel))
theorem dX12_status_1 : decode cX12_status 1 = .ok (.istore_n 2, 1) := bq_o61 (bq_of bwX12_status_0 1 (by decide +kernel))
theorem dX12_status_2 : decode cX12_status 2 = .ok (.iload_n 1, 1) := bq_o27 (bq_of bwX12_status_0 2 (by decide +kernel))
theorem dX12_status_3 : decode cX12_status 3 = .ok (.tableswitch 135 0 9 #[53, 58, 63, 68, 77, 82, 87, 92, 97, 102], 53) := by decide +kernel
theorem dX12_status_56 : decode cX12_status 56 = .ok (.aload_n 0, 1) := bq_o42 (bq_of bwX12_status_0 56 (by decide +kernel))
theorem dX12_status_57 : decode cX12_status 57 = .ok (.getfield 85, 3) := bq_o180 (a := 0) (b := 85) (bq_3 bwX12_status_0 57 (by decide +kernel)) rfl
theorem dX12_status_60 : decode cX12_status 60 = .ok (.ireturn, 1) := bq_o172 (bq_of bwX12_status_0 60 (by decide +kernel))
theorem dX12_status_61 : decode cX12_status 61 = .ok (.aload_n 0, 1) := bq_o42 (bq_of bwX12_status_0 61 (by decide +kernel))
theorem dX12_status_62 : decode cX12_status 62 = .ok (.getfield 51, 3) := bq_o180 (a := 0) (b := 51) (bq_3 bwX12_status_0 62 (by decide +kernel)) rfl
def bwX12_status_64l : List Nat := [51, 172, 42, 180, 0, 148, 172, 42, 42, 182, 0, 92, 182, 1, 73, 172, 42, 180, 1, 102, 172, 42, 180, 1, 105, 172, 42, 180, 1, 108, 172, 42, 180, 0, 156, 172, 42, 180, 0, 55, 172, 3, 62, 29, 16, 8, 162, 0, 26, 28, 42, 180, 0, 7, 29, 46, 153, 0, 7, 4, 167, 0, 4, 3, 96, 61]
theorem bwX12_status_64 : ((cX12_status.data.toList.drop 64).take 66).map UInt8.toNat = bwX12_status_64l := by decide +kernel
theorem dX12_status_65 : decode cX12_status 65 = .ok (.ireturn, 1) := bq_o172 (bq_of bwX12_status_64 1 (by decide +kernel))
theorem dX12_status_66 : decode cX12_status 66 = .ok (.aload_n 0, 1) := bq_o42 (bq_of bwX12_status_64 2 (by decide +kernel))
theorem dX12_status_67 : decode cX12_status 67 = .ok (.getfield 148, 3) := bq_o180 (a := 0) (b := 148) (bq_3 bwX12_status_64 3 (by decide +kernel)) rfl
theorem dX12_status_70 : decode cX12_status 70 = .ok (.ireturn, 1) := bq_o172 (bq_of bwX12_status_64 6 (by decide +kernel))
theorem dX12_status_71 : decode cX12_status 71 = .ok (.aload_n 0, 1) := bq_o42 (bq_of bwX12_status_64 7 (by decide +kernel))
theorem dX12_status_72 : decode cX12_status 72 = .ok (.aload_n 0, 1) := bq_o42 (bq_of bwX12_status_64 8 (by decide +kernel))
theorem dX12_status_73 : decode cX12_status 73 = .ok (.invokevirtual 92, 3) := bq_o182 (a := 0) (b := 92) (bq_3 bwX12_status_64 9 (by decide +kernel)) rfl
theorem dX12_status_76 : decode cX12_status 76 = .ok (.invokevirtual 329, 3) := bq_o182 (a := 1) (b := 73) (bq_3 bwX12_status_64 12 (by decide +kernel)) rfl
theorem dX12_status_79 : decode cX12_status 79 = .ok (.ireturn, 1) := bq_o172 (bq_of bwX12_status_64 15 (by decide +kernel))
theorem dX12_status_80 : decode cX12_status 80 = .ok (.aload_n 0, 1) := bq_o42 (bq_of bwX12_status_64 16 (by decide +kernel))
theorem dX12_status_81 : decode cX12_status 81 = .ok (.getfield 358, 3) := bq_o180 (a := 1) (b := 102) (bq_3 bwX12_status_64 17 (by decide +kernel)) rfl
theorem dX12_status_84 : decode cX12_status 84 = .ok (.ireturn, 1) := bq_o172 (bq_of bwX12_status_64 20 (by decide +kernel))
theorem dX12_status_85 : decode cX12_status 85 = .ok (.aload_n 0, 1) := bq_o42 (bq_of bwX12_status_64 21 (by decide +kernel))
theorem dX12_status_86 : decode cX12_status 86 = .ok (.getfield 361, 3) := bq_o180 (a := 1) (b := 105) (bq_3 bwX12_status_64 22 (by decide +kernel)) rfl
theorem dX12_status_89 : decode cX12_status 89 = .ok (.ireturn, 1) := bq_o172 (bq_of bwX12_status_64 25 (by decide +kernel))
theorem dX12_status_90 : decode cX12_status 90 = .ok (.aload_n 0, 1) := bq_o42 (bq_of bwX12_status_64 26 (by decide +kernel))
theorem dX12_status_91 : decode cX12_status 91 = .ok (.getfield 364, 3) := bq_o180 (a := 1) (b := 108) (bq_3 bwX12_status_64 27 (by decide +kernel)) rfl
theorem dX12_status_94 : decode cX12_status 94 = .ok (.ireturn, 1) := bq_o172 (bq_of bwX12_status_64 30 (by decide +kernel))
theorem dX12_status_95 : decode cX12_status 95 = .ok (.aload_n 0, 1) := bq_o42 (bq_of bwX12_status_64 31 (by decide +kernel))
theorem dX12_status_96 : decode cX12_status 96 = .ok (.getfield 156, 3) := bq_o180 (a := 0) (b := 156) (bq_3 bwX12_status_64 32 (by decide +kernel)) rfl
theorem dX12_status_99 : decode cX12_status 99 = .ok (.ireturn, 1) := bq_o172 (bq_of bwX12_status_64 35 (by decide +kernel))
theorem dX12_status_100 : decode cX12_status 100 = .ok (.aload_n 0, 1) := bq_o42 (bq_of bwX12_status_64 36 (by decide +kernel))
theorem dX12_status_101 : decode cX12_status 101 = .ok (.getfield 55, 3) := bq_o180 (a := 0) (b := 55) (bq_3 bwX12_status_64 37 (by decide +kernel)) rfl
theorem dX12_status_104 : decode cX12_status 104 = .ok (.ireturn, 1) := bq_o172 (bq_of bwX12_status_64 40 (by decide +kernel))
theorem dX12_status_105 : decode cX12_status 105 = .ok (.iconst 0, 1) := bq_o3 (bq_of bwX12_status_64 41 (by decide +kernel))
theorem dX12_status_106 : decode cX12_status 106 = .ok (.istore_n 3, 1) := bq_o62 (bq_of bwX12_status_64 42 (by decide +kernel))
theorem dX12_status_107 : decode cX12_status 107 = .ok (.iload_n 3, 1) := bq_o29 (bq_of bwX12_status_64 43 (by decide +kernel))
theorem dX12_status_108 : decode cX12_status 108 = .ok (.bipush 8, 2) := bq_o16 (a := 8) (bq_2 bwX12_status_64 44 (by decide +kernel)) (by decide +kernel)
theorem dX12_status_110 : decode cX12_status 110 = .ok (.if_icmp .ge 26, 3) := bq_o162 (a := 0) (b := 26) (bq_3 bwX12_status_64 46 (by decide +kernel)) (by decide +kernel)
theorem dX12_status_113 : decode cX12_status 113 = .ok (.iload_n 2, 1) := bq_o28 (bq_of bwX12_status_64 49 (by decide +kernel))
theorem dX12_status_114 : decode cX12_status 114 = .ok (.aload_n 0, 1) := bq_o42 (bq_of bwX12_status_64 50 (by decide +kernel))
theorem dX12_status_115 : decode cX12_status 115 = .ok (.getfield 7, 3) := bq_o180 (a := 0) (b := 7) (bq_3 bwX12_status_64 51 (by decide +kernel)) rfl
theorem dX12_status_118 : decode cX12_status 118 = .ok (.iload_n 3, 1) := bq_o29 (bq_of bwX12_status_64 54 (by decide +kernel))
theorem dX12_status_119 : decode cX12_status 119 = .ok (.iaload, 1) := bq_o46 (bq_of bwX12_status_64 55 (by decide +kernel))
theorem dX12_status_120 : decode cX12_status 120 = .ok (.ifCond .eq 7, 3) := bq_o153 (a := 0) (b := 7) (bq_3 bwX12_status_64 56 (by decide +kernel)) (by decide +kernel)
theorem dX12_status_123 : decode cX12_status 123 = .ok (.iconst 1, 1) := bq_o4 (bq_of bwX12_status_64 59 (by decide +kernel))
theorem dX12_status_124 : decode cX12_status 124 = .ok (.goto 4, 3) := bq_o167 (a := 0) (b := 4) (bq_3 bwX12_status_64 60 (by decide +kernel)) (by decide +kernel)
theorem dX12_status_127 : decode cX12_status 127 = .ok (.iconst 0, 1) := bq_o3 (bq_of bwX12_status_64 63 (by decide +kernel))
def bwX12_status_128l : List Nat := [96, 61, 132, 3, 1, 167, 255, 230, 28, 172, 27, 133, 20, 1, 127, 20, 1, 129, 184, 0, 88, 153, 0, 15, 42, 180, 0, 37, 27, 16, 10, 100, 46, 167, 0, 4, 2, 172]
theorem bwX12_status_128 : ((cX12_status.data.toList.drop 128).take 38).map UInt8.toNat = bwX12_status_128l := by decide +kernel
theorem dX12_status_128 : decode cX12_status 128 = .ok (.iadd, 1) := bq_o96 (bq_of bwX12_status_128 0 (by decide +kernel))
theorem dX12_status_129 : decode cX12_status 129 = .ok (.istore_n 2, 1) := bq_o61 (bq_of bwX12_status_128 1 (by decide +kernel))
theorem dX12_status_130 : decode cX12_status 130 = .ok (.iinc 3 1, 3) := bq_o132 (a := 3) (b := 1) (bq_3 bwX12_status_128 2 (by decide +kernel)) rfl (by decide +kernel)
theorem dX12_status_133 : decode cX12_status 133 = .ok (.goto (-26), 3) := bq_o167 (a := 255) (b := 230) (bq_3 bwX12_status_128 5 (by decide +kernel)) (by decide +kernel)
theorem dX12_status_136 : decode cX12_status 136 = .ok (.iload_n 2, 1) := bq_o28 (bq_of bwX12_status_128 8 (by decide +kernel))
theorem dX12_status_137 : decode cX12_status 137 = .ok (.ireturn, 1) := bq_o172 (bq_of bwX12_status_128 9 (by decide +kernel))
theorem dX12_status_138 : decode cX12_status 138 = .ok (.iload_n 1, 1) := bq_o27 (bq_of bwX12_status_128 10 (by decide +kernel))
theorem dX12_status_139 : decode cX12_status 139 = .ok (.i2l, 1) := bq_o133 (bq_of bwX12_status_128 11 (by decide +kernel))
theorem dX12_status_140 : decode cX12_status 140 = .ok (.ldc2_w 383, 3) := bq_o20 (a := 1) (b := 127) (bq_3 bwX12_status_128 12 (by decide +kernel)) rfl
theorem dX12_status_143 : decode cX12_status 143 = .ok (.ldc2_w 385, 3) := bq_o20 (a := 1) (b := 129) (bq_3 bwX12_status_128 15 (by decide +kernel)) rfl
theorem dX12_status_146 : decode cX12_status 146 = .ok (.invokestatic 88, 3) := bq_o184 (a := 0) (b := 88) (bq_3 bwX12_status_128 18 (by decide +kernel)) rfl
theorem dX12_status_149 : decode cX12_status 149 = .ok (.ifCond .eq 15, 3) := bq_o153 (a := 0) (b := 15) (bq_3 bwX12_status_128 21 (by decide +kernel)) (by decide +kernel)
theorem dX12_status_152 : decode cX12_status 152 = .ok (.aload_n 0, 1) := bq_o42 (bq_of bwX12_status_128 24 (by decide +kernel))
theorem dX12_status_153 : decode cX12_status 153 = .ok (.getfield 37, 3) := bq_o180 (a := 0) (b := 37) (bq_3 bwX12_status_128 25 (by decide +kernel)) rfl
theorem dX12_status_156 : decode cX12_status 156 = .ok (.iload_n 1, 1) := bq_o27 (bq_of bwX12_status_128 28 (by decide +kernel))
theorem dX12_status_157 : decode cX12_status 157 = .ok (.bipush 10, 2) := bq_o16 (a := 10) (bq_2 bwX12_status_128 29 (by decide +kernel)) (by decide +kernel)
theorem dX12_status_159 : decode cX12_status 159 = .ok (.isub, 1) := bq_o100 (bq_of bwX12_status_128 31 (by decide +kernel))
theorem dX12_status_160 : decode cX12_status 160 = .ok (.iaload, 1) := bq_o46 (bq_of bwX12_status_128 32 (by decide +kernel))
theorem dX12_status_161 : decode cX12_status 161 = .ok (.goto 4, 3) := bq_o167 (a := 0) (b := 4) (bq_3 bwX12_status_128 33 (by decide +kernel)) (by decide +kernel)
theorem dX12_status_164 : decode cX12_status 164 = .ok (.iconst (-1), 1) := bq_o2 (bq_of bwX12_status_128 36 (by decide +kernel))
theorem dX12_status_165 : decode cX12_status 165 = .ok (.ireturn, 1) := bq_o172 (bq_of bwX12_status_128 37 (by decide +kernel))
theorem dJ6_bitCount_0f7a4_0 : decode cJ6_bitCount_0f7a4 0 = .ok (.iload_n 0, 1) := by decide +kernel
theorem dJ6_bitCount_0f7a4_1 : decode cJ6_bitCount_0f7a4 1 = .ok (.iload_n 0, 1) := by decide +kernel
theorem dJ6_bitCount_0f7a4_2 : decode cJ6_bitCount_0f7a4 2 = .ok (.iconst 1, 1) := by decide +kernel
theorem dJ6_bitCount_0f7a4_3 : decode cJ6_bitCount_0f7a4 3 = .ok (.iushr, 1) := by decide +kernel
theorem dJ6_bitCount_0f7a4_4 : decode cJ6_bitCount_0f7a4 4 = .ok (.ldc_w 265, 3) := by decide +kernel
theorem dJ6_bitCount_0f7a4_7 : decode cJ6_bitCount_0f7a4 7 = .ok (.iand, 1) := by decide +kernel
theorem dJ6_bitCount_0f7a4_8 : decode cJ6_bitCount_0f7a4 8 = .ok (.isub, 1) := by decide +kernel
theorem dJ6_bitCount_0f7a4_9 : decode cJ6_bitCount_0f7a4 9 = .ok (.istore_n 0, 1) := by decide +kernel
theorem dJ6_bitCount_0f7a4_10 : decode cJ6_bitCount_0f7a4 10 = .ok (.iload_n 0, 1) := by decide +kernel
theorem dJ6_bitCount_0f7a4_11 : decode cJ6_bitCount_0f7a4 11 = .ok (.ldc_w 266, 3) := by decide +kernel
theorem dJ6_bitCount_0f7a4_14 : decode cJ6_bitCount_0f7a4 14 = .ok (.iand, 1) := by decide +kernel
theorem dJ6_bitCount_0f7a4_15 : decode cJ6_bitCount_0f7a4 15 = .ok (.iload_n 0, 1) := by decide +kernel
theorem dJ6_bitCount_0f7a4_16 : decode cJ6_bitCount_0f7a4 16 = .ok (.iconst 2, 1) := by decide +kernel
theorem dJ6_bitCount_0f7a4_17 : decode cJ6_bitCount_0f7a4 17 = .ok (.iushr, 1) := by decide +kernel
theorem dJ6_bitCount_0f7a4_18 : decode cJ6_bitCount_0f7a4 18 = .ok (.ldc_w 266, 3) := by decide +kernel
theorem dJ6_bitCount_0f7a4_21 : decode cJ6_bitCount_0f7a4 21 = .ok (.iand, 1) := by decide +kernel
theorem dJ6_bitCount_0f7a4_22 : decode cJ6_bitCount_0f7a4 22 = .ok (.iadd, 1) := by decide +kernel
theorem dJ6_bitCount_0f7a4_23 : decode cJ6_bitCount_0f7a4 23 = .ok (.istore_n 0, 1) := by decide +kernel
theorem dJ6_bitCount_0f7a4_24 : decode cJ6_bitCount_0f7a4 24 = .ok (.iload_n 0, 1) := by decide +kernel
theorem dJ6_bitCount_0f7a4_25 : decode cJ6_bitCount_0f7a4 25 = .ok (.iload_n 0, 1) := by decide +kernel
theorem dJ6_bitCount_0f7a4_26 : decode cJ6_bitCount_0f7a4 26 = .ok (.iconst 4, 1) := by decide +kernel
theorem dJ6_bitCount_0f7a4_27 : decode cJ6_bitCount_0f7a4 27 = .ok (.iushr, 1) := by decide +kernel
theorem dJ6_bitCount_0f7a4_28 : decode cJ6_bitCount_0f7a4 28 = .ok (.iadd, 1) := by decide +kernel
theorem dJ6_bitCount_0f7a4_29 : decode cJ6_bitCount_0f7a4 29 = .ok (.ldc_w 267, 3) := by decide +kernel
theorem dJ6_bitCount_0f7a4_32 : decode cJ6_bitCount_0f7a4 32 = .ok (.iand, 1) := by decide +kernel
theorem dJ6_bitCount_0f7a4_33 : decode cJ6_bitCount_0f7a4 33 = .ok (.istore_n 0, 1) := by decide +kernel
theorem dJ6_bitCount_0f7a4_34 : decode cJ6_bitCount_0f7a4 34 = .ok (.iload_n 0, 1) := by decide +kernel
theorem dJ6_bitCount_0f7a4_35 : decode cJ6_bitCount_0f7a4 35 = .ok (.iload_n 0, 1) := by decide +kernel
theorem dJ6_bitCount_0f7a4_36 : decode cJ6_bitCount_0f7a4 36 = .ok (.bipush 8, 2) := by decide +kernel
theorem dJ6_bitCount_0f7a4_38 : decode cJ6_bitCount_0f7a4 38 = .ok (.iushr, 1) := by decide +kernel
theorem dJ6_bitCount_0f7a4_39 : decode cJ6_bitCount_0f7a4 39 = .ok (.iadd, 1) := by decide +kernel
theorem dJ6_bitCount_0f7a4_40 : decode cJ6_bitCount_0f7a4 40 = .ok (.istore_n 0, 1) := by decide +kernel
theorem dJ6_bitCount_0f7a4_41 : decode cJ6_bitCount_0f7a4 41 = .ok (.iload_n 0, 1) := by decide +kernel
theorem dJ6_bitCount_0f7a4_42 : decode cJ6_bitCount_0f7a4 42 = .ok (.iload_n 0, 1) := by decide +kernel
theorem dJ6_bitCount_0f7a4_43 : decode cJ6_bitCount_0f7a4 43 = .ok (.bipush 16, 2) := by decide +kernel
theorem dJ6_bitCount_0f7a4_45 : decode cJ6_bitCount_0f7a4 45 = .ok (.iushr, 1) := by decide +kernel
theorem dJ6_bitCount_0f7a4_46 : decode cJ6_bitCount_0f7a4 46 = .ok (.iadd, 1) := by decide +kernel
theorem dJ6_bitCount_0f7a4_47 : decode cJ6_bitCount_0f7a4 47 = .ok (.istore_n 0, 1) := by decide +kernel
theorem dJ6_bitCount_0f7a4_48 : decode cJ6_bitCount_0f7a4 48 = .ok (.iload_n 0, 1) := by decide +kernel
theorem dJ6_bitCount_0f7a4_49 : decode cJ6_bitCount_0f7a4 49 = .ok (.bipush 63, 2) := by decide +kernel
theorem dJ6_bitCount_0f7a4_51 : decode cJ6_bitCount_0f7a4 51 = .ok (.iand, 1) := by decide +kernel
theorem dJ6_bitCount_0f7a4_52 : decode cJ6_bitCount_0f7a4 52 = .ok (.ireturn, 1) := by decide +kernel
theorem dJ0_length_8abf5_0 : decode cJ0_length_8abf5 0 = .ok (.aload_n 0, 1) := by decide +kernel
theorem dJ0_length_8abf5_1 : decode cJ0_length_8abf5 1 = .ok (.getfield 9, 3) := by decide +kernel
theorem dJ0_length_8abf5_4 : decode cJ0_length_8abf5 4 = .ok (.arraylength, 1) := by decide +kernel
theorem dJ0_length_8abf5_5 : decode cJ0_length_8abf5 5 = .ok (.aload_n 0, 1) := by decide +kernel
theorem dJ0_length_8abf5_6 : decode cJ0_length_8abf5 6 = .ok (.invokevirtual 335, 3) := by decide +kernel
theorem dJ0_length_8abf5_9 : decode cJ0_length_8abf5 9 = .ok (.ishr, 1) := by decide +kernel
theorem dJ0_length_8abf5_10 : decode cJ0_length_8abf5 10 = .ok (.ireturn, 1) := by decide +kernel
theorem dJ0_charAt_5068e_0 : decode cJ0_charAt_5068e 0 = .ok (.aload_n 0, 1) := by decide +kernel
theorem dJ0_charAt_5068e_1 : decode cJ0_charAt_5068e 1 = .ok (.invokevirtual 492, 3) := by decide +kernel
theorem dJ0_charAt_5068e_4 : decode cJ0_charAt_5068e 4 = .ok (.ifCond .eq 12, 3) := by decide +kernel
theorem dJ0_charAt_5068e_7 : decode cJ0_charAt_5068e 7 = .ok (.aload_n 0, 1) := by decide +kernel
theorem dJ0_charAt_5068e_8 : decode cJ0_charAt_5068e 8 = .ok (.getfield 9, 3) := by decide +kernel
theorem dJ0_charAt_5068e_11 : decode cJ0_charAt_5068e 11 = .ok (.iload_n 1, 1) := by decide +kernel
theorem dJ0_charAt_5068e_12 : decode cJ0_charAt_5068e 12 = .ok (.invokestatic 495, 3) := by decide +kernel
theorem dJ0_charAt_5068e_15 : decode cJ0_charAt_5068e 15 = .ok (.ireturn, 1) := by decide +kernel
theorem dJ0_coder_7d493_0 : decode cJ0_coder_7d493 0 = .ok (.getstatic 38, 3) := by decide +kernel
theorem dJ0_coder_7d493_3 : decode cJ0_coder_7d493 3 = .ok (.ifCond .eq 10, 3) := by decide +kernel
theorem dJ0_coder_7d493_6 : decode cJ0_coder_7d493 6 = .ok (.aload_n 0, 1) := by decide +kernel
theorem dJ0_coder_7d493_7 : decode cJ0_coder_7d493 7 = .ok (.getfield 15, 3) := by decide +kernel
theorem dJ0_coder_7d493_10 : decode cJ0_coder_7d493 10 = .ok (.goto 4, 3) := by decide +kernel
theorem dJ0_coder_7d493_14 : decode cJ0_coder_7d493 14 = .ok (.ireturn, 1) := by decide +kernel
theorem dJ0_isLatin1_aae02_0 : decode cJ0_isLatin1_aae02 0 = .ok (.getstatic 38, 3) := by decide +kernel
theorem dJ0_isLatin1_aae02_3 : decode cJ0_isLatin1_aae02 3 = .ok (.ifCond .eq 14, 3) := by decide +kernel
theorem dJ0_isLatin1_aae02_6 : decode cJ0_isLatin1_aae02 6 = .ok (.aload_n 0, 1) := by decide +kernel
theorem dJ0_isLatin1_aae02_7 : decode cJ0_isLatin1_aae02 7 = .ok (.getfield 15, 3) := by decide +kernel
theorem dJ0_isLatin1_aae02_10 : decode cJ0_isLatin1_aae02 10 = .ok (.ifCond .ne 7, 3) := by decide +kernel
theorem dJ0_isLatin1_aae02_13 : decode cJ0_isLatin1_aae02 13 = .ok (.iconst 1, 1) := by decide +kernel
theorem dJ0_isLatin1_aae02_14 : decode cJ0_isLatin1_aae02 14 = .ok (.goto 4, 3) := by decide +kernel
theorem dJ0_isLatin1_aae02_18 : decode cJ0_isLatin1_aae02 18 = .ok (.ireturn, 1) := by decide +kernel
theorem dJ0_checkIndex_df160_0 : decode cJ0_checkIndex_df160 0 = .ok (.iload_n 0, 1) := by decide +kernel
theorem dJ0_checkIndex_df160_1 : decode cJ0_checkIndex_df160 1 = .ok (.iload_n 1, 1) := by decide +kernel
theorem dJ0_checkIndex_df160_2 : decode cJ0_checkIndex_df160 2 = .ok (.getstatic 1053, 3) := by decide +kernel
theorem dJ0_checkIndex_df160_5 : decode cJ0_checkIndex_df160 5 = .ok (.invokestatic 1059, 3) := by decide +kernel
theorem dJ0_checkIndex_df160_8 : decode cJ0_checkIndex_df160 8 = .ok (.pop, 1) := by decide +kernel
theorem dJ0_checkIndex_df160_9 : decode cJ0_checkIndex_df160 9 = .ok (.return_, 1) := by decide +kernel
theorem dJ1_charAt_3b067_0 : decode cJ1_charAt_3b067 0 = .ok (.iload_n 1, 1) := by decide +kernel
theorem dJ1_charAt_3b067_1 : decode cJ1_charAt_3b067 1 = .ok (.aload_n 0, 1) := by decide +kernel
theorem dJ1_charAt_3b067_2 : decode cJ1_charAt_3b067 2 = .ok (.arraylength, 1) := by decide +kernel
theorem dJ1_charAt_3b067_3 : decode cJ1_charAt_3b067 3 = .ok (.invokestatic 9, 3) := by decide +kernel
theorem dJ1_charAt_3b067_6 : decode cJ1_charAt_3b067 6 = .ok (.aload_n 0, 1) := by decide +kernel
theorem dJ1_charAt_3b067_7 : decode cJ1_charAt_3b067 7 = .ok (.iload_n 1, 1) := by decide +kernel
theorem dJ1_charAt_3b067_8 : decode cJ1_charAt_3b067 8 = .ok (.baload, 1) := by decide +kernel
theorem dJ1_charAt_3b067_9 : decode cJ1_charAt_3b067 9 = .ok (.sipush 255, 3) := by decide +kernel
theorem dJ1_charAt_3b067_12 : decode cJ1_charAt_3b067 12 = .ok (.iand, 1) := by decide +kernel
theorem dJ1_charAt_3b067_13 : decode cJ1_charAt_3b067 13 = .ok (.i2c, 1) := by decide +kernel
theorem dJ1_charAt_3b067_14 : decode cJ1_charAt_3b067 14 = .ok (.ireturn, 1) := by decide +kernel
theorem dJ3_checkIndex_8e157_0 : decode cJ3_checkIndex_8e157 0 = .ok (.iload_n 0, 1) := by decide +kernel
theorem dJ3_checkIndex_8e157_1 : decode cJ3_checkIndex_8e157 1 = .ok (.ifCond .lt 8, 3) := by decide +kernel
theorem dJ3_checkIndex_8e157_4 : decode cJ3_checkIndex_8e157 4 = .ok (.iload_n 0, 1) := by decide +kernel
theorem dJ3_checkIndex_8e157_5 : decode cJ3_checkIndex_8e157 5 = .ok (.iload_n 1, 1) := by decide +kernel
theorem dJ3_checkIndex_8e157_6 : decode cJ3_checkIndex_8e157 6 = .ok (.if_icmp .lt 10, 3) := by decide +kernel
theorem dJ3_checkIndex_8e157_16 : decode cJ3_checkIndex_8e157 16 = .ok (.iload_n 0, 1) := by decide +kernel
theorem dJ3_checkIndex_8e157_17 : decode cJ3_checkIndex_8e157 17 = .ok (.ireturn, 1) := by decide +kernel
def bwL_law_0l : List Nat := [187, 0, 7, 89, 183, 0, 9, 76, 187, 0, 10, 89, 183, 0, 12, 77, 3, 62, 29, 42, 190, 16, 6, 100, 163, 6, 13, 42, 29, 46, 16, 63, 126, 170, 0, 0, 0, 0, 5, 254, 0, 0, 0, 0, 0, 0, 0, 46, 0, 0, 0, 203, 0, 0, 0, 246, 0, 0, 1, 63, 0, 0, 1, 126, 0, 0]
theorem bwL_law_0 : ((cL_law.data.toList.drop 0).take 66).map UInt8.toNat = bwL_law_0l := by decide +kernel
theorem dL_law_0 : decode cL_law 0 = .ok (.new 7, 3) := bq_o187 (a := 0) (b := 7) (bq_3 bwL_law_0 0 (by decide +kernel)) rfl
theorem dL_law_3 : decode cL_law 3 = .ok (.dup, 1) := bq_o89 (bq_of bwL_law_0 3 (by decide +kernel))
theorem dL_law_4 : decode cL_law 4 = .ok (.invokespecial 9, 3) := bq_o183 (a := 0) (b := 9) (bq_3 bwL_law_0 4 (by decide +kernel)) rfl
theorem dL_law_7 : decode cL_law 7 = .ok (.astore_n 1, 1) := bq_o76 (bq_of bwL_law_0 7 (by decide +kernel))
theorem dL_law_8 : decode cL_law 8 = .ok (.new 10, 3) := bq_o187 (a := 0) (b := 10) (bq_3 bwL_law_0 8 (by decide +kernel)) rfl
theorem dL_law_11 : decode cL_law 11 = .ok (.dup, 1) := bq_o89 (bq_of bwL_law_0 11 (by decide +kernel))
theorem dL_law_12 : decode cL_law 12 = .ok (.invokespecial 12, 3) := bq_o183 (a := 0) (b := 12) (bq_3 bwL_law_0 12 (by decide +kernel)) rfl
theorem dL_law_15 : decode cL_law 15 = .ok (.astore_n 2, 1) := bq_o77 (bq_of bwL_law_0 15 (by decide +kernel))
theorem dL_law_16 : decode cL_law 16 = .ok (.iconst 0, 1) := bq_o3 (bq_of bwL_law_0 16 (by decide +kernel))
theorem dL_law_17 : decode cL_law 17 = .ok (.istore_n 3, 1) := bq_o62 (bq_of bwL_law_0 17 (by decide +kernel))
theorem dL_law_18 : decode cL_law 18 = .ok (.iload_n 3, 1) := bq_o29 (bq_of bwL_law_0 18 (by decide +kernel))
theorem dL_law_19 : decode cL_law 19 = .ok (.aload_n 0, 1) := bq_o42 (bq_of bwL_law_0 19 (by decide +kernel))
theorem dL_law_20 : decode cL_law 20 = .ok (.arraylength, 1) := bq_o190 (bq_of bwL_law_0 20 (by decide +kernel))
theorem dL_law_21 : decode cL_law 21 = .ok (.bipush 6, 2) := bq_o16 (a := 6) (bq_2 bwL_law_0 21 (by decide +kernel)) (by decide +kernel)
theorem dL_law_23 : decode cL_law 23 = .ok (.isub, 1) := bq_o100 (bq_of bwL_law_0 23 (by decide +kernel))
theorem dL_law_24 : decode cL_law 24 = .ok (.if_icmp .gt 1549, 3) := bq_o163 (a := 6) (b := 13) (bq_3 bwL_law_0 24 (by decide +kernel)) (by decide +kernel)
theorem dL_law_27 : decode cL_law 27 = .ok (.aload_n 0, 1) := bq_o42 (bq_of bwL_law_0 27 (by decide +kernel))
theorem dL_law_28 : decode cL_law 28 = .ok (.iload_n 3, 1) := bq_o29 (bq_of bwL_law_0 28 (by decide +kernel))
theorem dL_law_29 : decode cL_law 29 = .ok (.iaload, 1) := bq_o46 (bq_of bwL_law_0 29 (by decide +kernel))
theorem dL_law_30 : decode cL_law 30 = .ok (.bipush 63, 2) := bq_o16 (a := 63) (bq_2 bwL_law_0 30 (by decide +kernel)) (by decide +kernel)
theorem dL_law_32 : decode cL_law 32 = .ok (.iand, 1) := bq_o126 (bq_of bwL_law_0 32 (by decide +kernel))
theorem dL_law_33 : decode cL_law 33 = .ok (.tableswitch 1534 0 46 #[203, 246, 319, 382, 415, 438, 481, 514, 547, 590, 633, 666, 689, 702, 715, 748, 781, 804, 827, 850, 873, 906, 949, 972, 1005, 1028, 1061, 1084, 1097, 1120, 1143, 1156, 1179, 1212, 1225, 1248, 1271, 1304, 1347, 1380, 1403, 1426, 1439, 1462, 1485, 1498, 1511], 203) := by decide +kernel
def bwL_law_192l : List Nat := [0, 0, 4, 247, 0, 0, 5, 24, 0, 0, 5, 67, 0, 0, 5, 100, 0, 0, 5, 123, 0, 0, 5, 146, 0, 0, 5, 159, 0, 0, 5, 182, 0, 0, 5, 205, 0, 0, 5, 218, 0, 0, 5, 231, 43, 42, 29, 4, 96, 46, 42, 29, 5, 96, 46, 42, 29, 6, 96, 46, 182, 0, 13, 87, 44, 42]
theorem bwL_law_192 : ((cL_law.data.toList.drop 192).take 66).map UInt8.toNat = bwL_law_192l := by decide +kernel
theorem dL_law_236 : decode cL_law 236 = .ok (.aload_n 1, 1) := bq_o43 (bq_of bwL_law_192 44 (by decide +kernel))
theorem dL_law_237 : decode cL_law 237 = .ok (.aload_n 0, 1) := bq_o42 (bq_of bwL_law_192 45 (by decide +kernel))
theorem dL_law_238 : decode cL_law 238 = .ok (.iload_n 3, 1) := bq_o29 (bq_of bwL_law_192 46 (by decide +kernel))
theorem dL_law_239 : decode cL_law 239 = .ok (.iconst 1, 1) := bq_o4 (bq_of bwL_law_192 47 (by decide +kernel))
theorem dL_law_240 : decode cL_law 240 = .ok (.iadd, 1) := bq_o96 (bq_of bwL_law_192 48 (by decide +kernel))
theorem dL_law_241 : decode cL_law 241 = .ok (.iaload, 1) := bq_o46 (bq_of bwL_law_192 49 (by decide +kernel))
theorem dL_law_242 : decode cL_law 242 = .ok (.aload_n 0, 1) := bq_o42 (bq_of bwL_law_192 50 (by decide +kernel))
theorem dL_law_243 : decode cL_law 243 = .ok (.iload_n 3, 1) := bq_o29 (bq_of bwL_law_192 51 (by decide +kernel))
theorem dL_law_244 : decode cL_law 244 = .ok (.iconst 2, 1) := bq_o5 (bq_of bwL_law_192 52 (by decide +kernel))
theorem dL_law_245 : decode cL_law 245 = .ok (.iadd, 1) := bq_o96 (bq_of bwL_law_192 53 (by decide +kernel))
theorem dL_law_246 : decode cL_law 246 = .ok (.iaload, 1) := bq_o46 (bq_of bwL_law_192 54 (by decide +kernel))
theorem dL_law_247 : decode cL_law 247 = .ok (.aload_n 0, 1) := bq_o42 (bq_of bwL_law_192 55 (by decide +kernel))
theorem dL_law_248 : decode cL_law 248 = .ok (.iload_n 3, 1) := bq_o29 (bq_of bwL_law_192 56 (by decide +kernel))
theorem dL_law_249 : decode cL_law 249 = .ok (.iconst 3, 1) := bq_o6 (bq_of bwL_law_192 57 (by decide +kernel))
theorem dL_law_250 : decode cL_law 250 = .ok (.iadd, 1) := bq_o96 (bq_of bwL_law_192 58 (by decide +kernel))
theorem dL_law_251 : decode cL_law 251 = .ok (.iaload, 1) := bq_o46 (bq_of bwL_law_192 59 (by decide +kernel))
theorem dL_law_252 : decode cL_law 252 = .ok (.invokevirtual 13, 3) := bq_o182 (a := 0) (b := 13) (bq_3 bwL_law_192 60 (by decide +kernel)) rfl
theorem dL_law_255 : decode cL_law 255 = .ok (.pop, 1) := bq_o87 (bq_of bwL_law_192 63 (by decide +kernel))
def bwL_law_256l : List Nat := [44, 42, 29, 4, 96, 46, 42, 29, 5, 96, 46, 42, 29, 6, 96, 46, 182, 0, 17, 87, 167, 5, 11, 43, 42, 29, 4, 96, 46, 42, 29, 5, 96, 46, 42, 29, 6, 96, 46, 133, 16, 32, 121, 42, 29, 7, 96, 46, 133, 20, 0, 18, 127, 129, 182, 0, 20, 87, 44, 42, 29, 4, 96, 46, 42, 29]
theorem bwL_law_256 : ((cL_law.data.toList.drop 256).take 66).map UInt8.toNat = bwL_law_256l := by decide +kernel
theorem dL_law_256 : decode cL_law 256 = .ok (.aload_n 2, 1) := bq_o44 (bq_of bwL_law_256 0 (by decide +kernel))
theorem dL_law_257 : decode cL_law 257 = .ok (.aload_n 0, 1) := bq_o42 (bq_of bwL_law_256 1 (by decide +kernel))
theorem dL_law_258 : decode cL_law 258 = .ok (.iload_n 3, 1) := bq_o29 (bq_of bwL_law_256 2 (by decide +kernel))
theorem dL_law_259 : decode cL_law 259 = .ok (.iconst 1, 1) := bq_o4 (bq_of bwL_law_256 3 (by decide +kernel))
theorem dL_law_260 : decode cL_law 260 = .ok (.iadd, 1) := bq_o96 (bq_of bwL_law_256 4 (by decide +kernel))
theorem dL_law_261 : decode cL_law 261 = .ok (.iaload, 1) := bq_o46 (bq_of bwL_law_256 5 (by decide +kernel))
theorem dL_law_262 : decode cL_law 262 = .ok (.aload_n 0, 1) := bq_o42 (bq_of bwL_law_256 6 (by decide +kernel))
theorem dL_law_263 : decode cL_law 263 = .ok (.iload_n 3, 1) := bq_o29 (bq_of bwL_law_256 7 (by decide +kernel))
theorem dL_law_264 : decode cL_law 264 = .ok (.iconst 2, 1) := bq_o5 (bq_of bwL_law_256 8 (by decide +kernel))
theorem dL_law_265 : decode cL_law 265 = .ok (.iadd, 1) := bq_o96 (bq_of bwL_law_256 9 (by decide +kernel))
theorem dL_law_266 : decode cL_law 266 = .ok (.iaload, 1) := bq_o46 (bq_of bwL_law_256 10 (by decide +kernel))
theorem dL_law_267 : decode cL_law 267 = .ok (.aload_n 0, 1) := bq_o42 (bq_of bwL_law_256 11 (by decide +kernel))
theorem dL_law_268 : decode cL_law 268 = .ok (.iload_n 3, 1) := bq_o29 (bq_of bwL_law_256 12 (by decide +kernel))
theorem dL_law_269 : decode cL_law 269 = .ok (.iconst 3, 1) := bq_o6 (bq_of bwL_law_256 13 (by decide +kernel))
theorem dL_law_270 : decode cL_law 270 = .ok (.iadd, 1) := bq_o96 (bq_of bwL_law_256 14 (by decide +kernel))
theorem dL_law_271 : decode cL_law 271 = .ok (.iaload, 1) := bq_o46 (bq_of bwL_law_256 15 (by decide +kernel))
theorem dL_law_272 : decode cL_law 272 = .ok (.invokevirtual 17, 3) := bq_o182 (a := 0) (b := 17) (bq_3 bwL_law_256 16 (by decide +kernel)) rfl
theorem dL_law_275 : decode cL_law 275 = .ok (.pop, 1) := bq_o87 (bq_of bwL_law_256 19 (by decide +kernel))
theorem dL_law_276 : decode cL_law 276 = .ok (.goto 1291, 3) := bq_o167 (a := 5) (b := 11) (bq_3 bwL_law_256 20 (by decide +kernel)) (by decide +kernel)
theorem dL_law_279 : decode cL_law 279 = .ok (.aload_n 1, 1) := bq_o43 (bq_of bwL_law_256 23 (by decide +kernel))
theorem dL_law_280 : decode cL_law 280 = .ok (.aload_n 0, 1) := bq_o42 (bq_of bwL_law_256 24 (by decide +kernel))
theorem dL_law_281 : decode cL_law 281 = .ok (.iload_n 3, 1) := bq_o29 (bq_of bwL_law_256 25 (by decide +kernel))
theorem dL_law_282 : decode cL_law 282 = .ok (.iconst 1, 1) := bq_o4 (bq_of bwL_law_256 26 (by decide +kernel))
theorem dL_law_283 : decode cL_law 283 = .ok (.iadd, 1) := bq_o96 (bq_of bwL_law_256 27 (by decide +kernel))
theorem dL_law_284 : decode cL_law 284 = .ok (.iaload, 1) := bq_o46 (bq_of bwL_law_256 28 (by decide +kernel))
theorem dL_law_285 : decode cL_law 285 = .ok (.aload_n 0, 1) := bq_o42 (bq_of bwL_law_256 29 (by decide +kernel))
theorem dL_law_286 : decode cL_law 286 = .ok (.iload_n 3, 1) := bq_o29 (bq_of bwL_law_256 30 (by decide +kernel))
theorem dL_law_287 : decode cL_law 287 = .ok (.iconst 2, 1) := bq_o5 (bq_of bwL_law_256 31 (by decide +kernel))
theorem dL_law_288 : decode cL_law 288 = .ok (.iadd, 1) := bq_o96 (bq_of bwL_law_256 32 (by decide +kernel))
theorem dL_law_289 : decode cL_law 289 = .ok (.iaload, 1) := bq_o46 (bq_of bwL_law_256 33 (by decide +kernel))
theorem dL_law_290 : decode cL_law 290 = .ok (.aload_n 0, 1) := bq_o42 (bq_of bwL_law_256 34 (by decide +kernel))
theorem dL_law_291 : decode cL_law 291 = .ok (.iload_n 3, 1) := bq_o29 (bq_of bwL_law_256 35 (by decide +kernel))
theorem dL_law_292 : decode cL_law 292 = .ok (.iconst 3, 1) := bq_o6 (bq_of bwL_law_256 36 (by decide +kernel))
theorem dL_law_293 : decode cL_law 293 = .ok (.iadd, 1) := bq_o96 (bq_of bwL_law_256 37 (by decide +kernel))
theorem dL_law_294 : decode cL_law 294 = .ok (.iaload, 1) := bq_o46 (bq_of bwL_law_256 38 (by decide +kernel))
theorem dL_law_295 : decode cL_law 295 = .ok (.i2l, 1) := bq_o133 (bq_of bwL_law_256 39 (by decide +kernel))
theorem dL_law_296 : decode cL_law 296 = .ok (.bipush 32, 2) := bq_o16 (a := 32) (bq_2 bwL_law_256 40 (by decide +kernel)) (by decide +kernel)
theorem dL_law_298 : decode cL_law 298 = .ok (.lshl, 1) := bq_o121 (bq_of bwL_law_256 42 (by decide +kernel))
theorem dL_law_299 : decode cL_law 299 = .ok (.aload_n 0, 1) := bq_o42 (bq_of bwL_law_256 43 (by decide +kernel))
theorem dL_law_300 : decode cL_law 300 = .ok (.iload_n 3, 1) := bq_o29 (bq_of bwL_law_256 44 (by decide +kernel))
theorem dL_law_301 : decode cL_law 301 = .ok (.iconst 4, 1) := bq_o7 (bq_of bwL_law_256 45 (by decide +kernel))
theorem dL_law_302 : decode cL_law 302 = .ok (.iadd, 1) := bq_o96 (bq_of bwL_law_256 46 (by decide +kernel))
theorem dL_law_303 : decode cL_law 303 = .ok (.iaload, 1) := bq_o46 (bq_of bwL_law_256 47 (by decide +kernel))
theorem dL_law_304 : decode cL_law 304 = .ok (.i2l, 1) := bq_o133 (bq_of bwL_law_256 48 (by decide +kernel))
theorem dL_law_305 : decode cL_law 305 = .ok (.ldc2_w 18, 3) := bq_o20 (a := 0) (b := 18) (bq_3 bwL_law_256 49 (by decide +kernel)) rfl
theorem dL_law_308 : decode cL_law 308 = .ok (.land, 1) := bq_o127 (bq_of bwL_law_256 52 (by decide +kernel))
theorem dL_law_309 : decode cL_law 309 = .ok (.lor, 1) := bq_o129 (bq_of bwL_law_256 53 (by decide +kernel))
theorem dL_law_310 : decode cL_law 310 = .ok (.invokevirtual 20, 3) := bq_o182 (a := 0) (b := 20) (bq_3 bwL_law_256 54 (by decide +kernel)) rfl
theorem dL_law_313 : decode cL_law 313 = .ok (.pop, 1) := bq_o87 (bq_of bwL_law_256 57 (by decide +kernel))
theorem dL_law_314 : decode cL_law 314 = .ok (.aload_n 2, 1) := bq_o44 (bq_of bwL_law_256 58 (by decide +kernel))
theorem dL_law_315 : decode cL_law 315 = .ok (.aload_n 0, 1) := bq_o42 (bq_of bwL_law_256 59 (by decide +kernel))
theorem dL_law_316 : decode cL_law 316 = .ok (.iload_n 3, 1) := bq_o29 (bq_of bwL_law_256 60 (by decide +kernel))
theorem dL_law_317 : decode cL_law 317 = .ok (.iconst 1, 1) := bq_o4 (bq_of bwL_law_256 61 (by decide +kernel))
theorem dL_law_318 : decode cL_law 318 = .ok (.iadd, 1) := bq_o96 (bq_of bwL_law_256 62 (by decide +kernel))
theorem dL_law_319 : decode cL_law 319 = .ok (.iaload, 1) := bq_o46 (bq_of bwL_law_256 63 (by decide +kernel))
def bwL_law_320l : List Nat := [42, 29, 5, 96, 46, 42, 29, 6, 96, 46, 133, 16, 32, 121, 42, 29, 7, 96, 46, 133, 20, 0, 18, 127, 129, 182, 0, 24, 87, 167, 4, 194, 43, 42, 29, 4, 96, 46, 42, 29, 5, 96, 46, 42, 29, 6, 96, 46, 42, 29, 7, 96, 46, 42, 29, 8, 96, 46, 182, 0, 25, 87, 44, 42, 29, 4]
theorem bwL_law_320 : ((cL_law.data.toList.drop 320).take 66).map UInt8.toNat = bwL_law_320l := by decide +kernel
theorem dL_law_320 : decode cL_law 320 = .ok (.aload_n 0, 1) := bq_o42 (bq_of bwL_law_320 0 (by decide +kernel))
theorem dL_law_321 : decode cL_law 321 = .ok (.iload_n 3, 1) := bq_o29 (bq_of bwL_law_320 1 (by decide +kernel))
theorem dL_law_322 : decode cL_law 322 = .ok (.iconst 2, 1) := bq_o5 (bq_of bwL_law_320 2 (by decide +kernel))
theorem dL_law_323 : decode cL_law 323 = .ok (.iadd, 1) := bq_o96 (bq_of bwL_law_320 3 (by decide +kernel))
theorem dL_law_324 : decode cL_law 324 = .ok (.iaload, 1) := bq_o46 (bq_of bwL_law_320 4 (by decide +kernel))
theorem dL_law_325 : decode cL_law 325 = .ok (.aload_n 0, 1) := bq_o42 (bq_of bwL_law_320 5 (by decide +kernel))
theorem dL_law_326 : decode cL_law 326 = .ok (.iload_n 3, 1) := bq_o29 (bq_of bwL_law_320 6 (by decide +kernel))
theorem dL_law_327 : decode cL_law 327 = .ok (.iconst 3, 1) := bq_o6 (bq_of bwL_law_320 7 (by decide +kernel))
theorem dL_law_328 : decode cL_law 328 = .ok (.iadd, 1) := bq_o96 (bq_of bwL_law_320 8 (by decide +kernel))
theorem dL_law_329 : decode cL_law 329 = .ok (.iaload, 1) := bq_o46 (bq_of bwL_law_320 9 (by decide +kernel))
theorem dL_law_330 : decode cL_law 330 = .ok (.i2l, 1) := bq_o133 (bq_of bwL_law_320 10 (by decide +kernel))
theorem dL_law_331 : decode cL_law 331 = .ok (.bipush 32, 2) := bq_o16 (a := 32) (bq_2 bwL_law_320 11 (by decide +kernel)) (by decide +kernel)
theorem dL_law_333 : decode cL_law 333 = .ok (.lshl, 1) := bq_o121 (bq_of bwL_law_320 13 (by decide +kernel))
theorem dL_law_334 : decode cL_law 334 = .ok (.aload_n 0, 1) := bq_o42 (bq_of bwL_law_320 14 (by decide +kernel))
theorem dL_law_335 : decode cL_law 335 = .ok (.iload_n 3, 1) := bq_o29 (bq_of bwL_law_320 15 (by decide +kernel))
theorem dL_law_336 : decode cL_law 336 = .ok (.iconst 4, 1) := bq_o7 (bq_of bwL_law_320 16 (by decide +kernel))
theorem dL_law_337 : decode cL_law 337 = .ok (.iadd, 1) := bq_o96 (bq_of bwL_law_320 17 (by decide +kernel))
theorem dL_law_338 : decode cL_law 338 = .ok (.iaload, 1) := bq_o46 (bq_of bwL_law_320 18 (by decide +kernel))
theorem dL_law_339 : decode cL_law 339 = .ok (.i2l, 1) := bq_o133 (bq_of bwL_law_320 19 (by decide +kernel))
theorem dL_law_340 : decode cL_law 340 = .ok (.ldc2_w 18, 3) := bq_o20 (a := 0) (b := 18) (bq_3 bwL_law_320 20 (by decide +kernel)) rfl
theorem dL_law_343 : decode cL_law 343 = .ok (.land, 1) := bq_o127 (bq_of bwL_law_320 23 (by decide +kernel))
theorem dL_law_344 : decode cL_law 344 = .ok (.lor, 1) := bq_o129 (bq_of bwL_law_320 24 (by decide +kernel))
theorem dL_law_345 : decode cL_law 345 = .ok (.invokevirtual 24, 3) := bq_o182 (a := 0) (b := 24) (bq_3 bwL_law_320 25 (by decide +kernel)) rfl
theorem dL_law_348 : decode cL_law 348 = .ok (.pop, 1) := bq_o87 (bq_of bwL_law_320 28 (by decide +kernel))
theorem dL_law_349 : decode cL_law 349 = .ok (.goto 1218, 3) := bq_o167 (a := 4) (b := 194) (bq_3 bwL_law_320 29 (by decide +kernel)) (by decide +kernel)
theorem dL_law_352 : decode cL_law 352 = .ok (.aload_n 1, 1) := bq_o43 (bq_of bwL_law_320 32 (by decide +kernel))
theorem dL_law_353 : decode cL_law 353 = .ok (.aload_n 0, 1) := bq_o42 (bq_of bwL_law_320 33 (by decide +kernel))
theorem dL_law_354 : decode cL_law 354 = .ok (.iload_n 3, 1) := bq_o29 (bq_of bwL_law_320 34 (by decide +kernel))
theorem dL_law_355 : decode cL_law 355 = .ok (.iconst 1, 1) := bq_o4 (bq_of bwL_law_320 35 (by decide +kernel))
theorem dL_law_356 : decode cL_law 356 = .ok (.iadd, 1) := bq_o96 (bq_of bwL_law_320 36 (by decide +kernel))
theorem dL_law_357 : decode cL_law 357 = .ok (.iaload, 1) := bq_o46 (bq_of bwL_law_320 37 (by decide +kernel))
theorem dL_law_358 : decode cL_law 358 = .ok (.aload_n 0, 1) := bq_o42 (bq_of bwL_law_320 38 (by decide +kernel))
theorem dL_law_359 : decode cL_law 359 = .ok (.iload_n 3, 1) := bq_o29 (bq_of bwL_law_320 39 (by decide +kernel))
theorem dL_law_360 : decode cL_law 360 = .ok (.iconst 2, 1) := bq_o5 (bq_of bwL_law_320 40 (by decide +kernel))
theorem dL_law_361 : decode cL_law 361 = .ok (.iadd, 1) := bq_o96 (bq_of bwL_law_320 41 (by decide +kernel))
theorem dL_law_362 : decode cL_law 362 = .ok (.iaload, 1) := bq_o46 (bq_of bwL_law_320 42 (by decide +kernel))
theorem dL_law_363 : decode cL_law 363 = .ok (.aload_n 0, 1) := bq_o42 (bq_of bwL_law_320 43 (by decide +kernel))
theorem dL_law_364 : decode cL_law 364 = .ok (.iload_n 3, 1) := bq_o29 (bq_of bwL_law_320 44 (by decide +kernel))
theorem dL_law_365 : decode cL_law 365 = .ok (.iconst 3, 1) := bq_o6 (bq_of bwL_law_320 45 (by decide +kernel))
theorem dL_law_366 : decode cL_law 366 = .ok (.iadd, 1) := bq_o96 (bq_of bwL_law_320 46 (by decide +kernel))
theorem dL_law_367 : decode cL_law 367 = .ok (.iaload, 1) := bq_o46 (bq_of bwL_law_320 47 (by decide +kernel))
theorem dL_law_368 : decode cL_law 368 = .ok (.aload_n 0, 1) := bq_o42 (bq_of bwL_law_320 48 (by decide +kernel))
theorem dL_law_369 : decode cL_law 369 = .ok (.iload_n 3, 1) := bq_o29 (bq_of bwL_law_320 49 (by decide +kernel))
theorem dL_law_370 : decode cL_law 370 = .ok (.iconst 4, 1) := bq_o7 (bq_of bwL_law_320 50 (by decide +kernel))
theorem dL_law_371 : decode cL_law 371 = .ok (.iadd, 1) := bq_o96 (bq_of bwL_law_320 51 (by decide +kernel))
theorem dL_law_372 : decode cL_law 372 = .ok (.iaload, 1) := bq_o46 (bq_of bwL_law_320 52 (by decide +kernel))
theorem dL_law_373 : decode cL_law 373 = .ok (.aload_n 0, 1) := bq_o42 (bq_of bwL_law_320 53 (by decide +kernel))
theorem dL_law_374 : decode cL_law 374 = .ok (.iload_n 3, 1) := bq_o29 (bq_of bwL_law_320 54 (by decide +kernel))
theorem dL_law_375 : decode cL_law 375 = .ok (.iconst 5, 1) := bq_o8 (bq_of bwL_law_320 55 (by decide +kernel))
theorem dL_law_376 : decode cL_law 376 = .ok (.iadd, 1) := bq_o96 (bq_of bwL_law_320 56 (by decide +kernel))
theorem dL_law_377 : decode cL_law 377 = .ok (.iaload, 1) := bq_o46 (bq_of bwL_law_320 57 (by decide +kernel))
theorem dL_law_378 : decode cL_law 378 = .ok (.invokevirtual 25, 3) := bq_o182 (a := 0) (b := 25) (bq_3 bwL_law_320 58 (by decide +kernel)) rfl
theorem dL_law_381 : decode cL_law 381 = .ok (.pop, 1) := bq_o87 (bq_of bwL_law_320 61 (by decide +kernel))
theorem dL_law_382 : decode cL_law 382 = .ok (.aload_n 2, 1) := bq_o44 (bq_of bwL_law_320 62 (by decide +kernel))
theorem dL_law_383 : decode cL_law 383 = .ok (.aload_n 0, 1) := bq_o42 (bq_of bwL_law_320 63 (by decide +kernel))
def bwL_law_384l : List Nat := [29, 4, 96, 46, 42, 29, 5, 96, 46, 42, 29, 6, 96, 46, 42, 29, 7, 96, 46, 42, 29, 8, 96, 46, 182, 0, 29, 87, 167, 4, 131, 43, 42, 29, 4, 96, 46, 42, 29, 5, 96, 46, 182, 0, 30, 88, 44, 42, 29, 4, 96, 46, 42, 29, 5, 96, 46, 182, 0, 34, 88, 167, 4, 98, 43, 42]
theorem bwL_law_384 : ((cL_law.data.toList.drop 384).take 66).map UInt8.toNat = bwL_law_384l := by decide +kernel
theorem dL_law_384 : decode cL_law 384 = .ok (.iload_n 3, 1) := bq_o29 (bq_of bwL_law_384 0 (by decide +kernel))
theorem dL_law_385 : decode cL_law 385 = .ok (.iconst 1, 1) := bq_o4 (bq_of bwL_law_384 1 (by decide +kernel))
theorem dL_law_386 : decode cL_law 386 = .ok (.iadd, 1) := bq_o96 (bq_of bwL_law_384 2 (by decide +kernel))
theorem dL_law_387 : decode cL_law 387 = .ok (.iaload, 1) := bq_o46 (bq_of bwL_law_384 3 (by decide +kernel))
theorem dL_law_388 : decode cL_law 388 = .ok (.aload_n 0, 1) := bq_o42 (bq_of bwL_law_384 4 (by decide +kernel))
theorem dL_law_389 : decode cL_law 389 = .ok (.iload_n 3, 1) := bq_o29 (bq_of bwL_law_384 5 (by decide +kernel))
theorem dL_law_390 : decode cL_law 390 = .ok (.iconst 2, 1) := bq_o5 (bq_of bwL_law_384 6 (by decide +kernel))
theorem dL_law_391 : decode cL_law 391 = .ok (.iadd, 1) := bq_o96 (bq_of bwL_law_384 7 (by decide +kernel))
theorem dL_law_392 : decode cL_law 392 = .ok (.iaload, 1) := bq_o46 (bq_of bwL_law_384 8 (by decide +kernel))
theorem dL_law_393 : decode cL_law 393 = .ok (.aload_n 0, 1) := bq_o42 (bq_of bwL_law_384 9 (by decide +kernel))
theorem dL_law_394 : decode cL_law 394 = .ok (.iload_n 3, 1) := bq_o29 (bq_of bwL_law_384 10 (by decide +kernel))
theorem dL_law_395 : decode cL_law 395 = .ok (.iconst 3, 1) := bq_o6 (bq_of bwL_law_384 11 (by decide +kernel))
theorem dL_law_396 : decode cL_law 396 = .ok (.iadd, 1) := bq_o96 (bq_of bwL_law_384 12 (by decide +kernel))
theorem dL_law_397 : decode cL_law 397 = .ok (.iaload, 1) := bq_o46 (bq_of bwL_law_384 13 (by decide +kernel))
theorem dL_law_398 : decode cL_law 398 = .ok (.aload_n 0, 1) := bq_o42 (bq_of bwL_law_384 14 (by decide +kernel))
theorem dL_law_399 : decode cL_law 399 = .ok (.iload_n 3, 1) := bq_o29 (bq_of bwL_law_384 15 (by decide +kernel))
theorem dL_law_400 : decode cL_law 400 = .ok (.iconst 4, 1) := bq_o7 (bq_of bwL_law_384 16 (by decide +kernel))
theorem dL_law_401 : decode cL_law 401 = .ok (.iadd, 1) := bq_o96 (bq_of bwL_law_384 17 (by decide +kernel))
theorem dL_law_402 : decode cL_law 402 = .ok (.iaload, 1) := bq_o46 (bq_of bwL_law_384 18 (by decide +kernel))
theorem dL_law_403 : decode cL_law 403 = .ok (.aload_n 0, 1) := bq_o42 (bq_of bwL_law_384 19 (by decide +kernel))
theorem dL_law_404 : decode cL_law 404 = .ok (.iload_n 3, 1) := bq_o29 (bq_of bwL_law_384 20 (by decide +kernel))
theorem dL_law_405 : decode cL_law 405 = .ok (.iconst 5, 1) := bq_o8 (bq_of bwL_law_384 21 (by decide +kernel))
theorem dL_law_406 : decode cL_law 406 = .ok (.iadd, 1) := bq_o96 (bq_of bwL_law_384 22 (by decide +kernel))
theorem dL_law_407 : decode cL_law 407 = .ok (.iaload, 1) := bq_o46 (bq_of bwL_law_384 23 (by decide +kernel))
theorem dL_law_408 : decode cL_law 408 = .ok (.invokevirtual 29, 3) := bq_o182 (a := 0) (b := 29) (bq_3 bwL_law_384 24 (by decide +kernel)) rfl
theorem dL_law_411 : decode cL_law 411 = .ok (.pop, 1) := bq_o87 (bq_of bwL_law_384 27 (by decide +kernel))
theorem dL_law_412 : decode cL_law 412 = .ok (.goto 1155, 3) := bq_o167 (a := 4) (b := 131) (bq_3 bwL_law_384 28 (by decide +kernel)) (by decide +kernel)
theorem dL_law_415 : decode cL_law 415 = .ok (.aload_n 1, 1) := bq_o43 (bq_of bwL_law_384 31 (by decide +kernel))
theorem dL_law_416 : decode cL_law 416 = .ok (.aload_n 0, 1) := bq_o42 (bq_of bwL_law_384 32 (by decide +kernel))
theorem dL_law_417 : decode cL_law 417 = .ok (.iload_n 3, 1) := bq_o29 (bq_of bwL_law_384 33 (by decide +kernel))
theorem dL_law_418 : decode cL_law 418 = .ok (.iconst 1, 1) := bq_o4 (bq_of bwL_law_384 34 (by decide +kernel))
theorem dL_law_419 : decode cL_law 419 = .ok (.iadd, 1) := bq_o96 (bq_of bwL_law_384 35 (by decide +kernel))
theorem dL_law_420 : decode cL_law 420 = .ok (.iaload, 1) := bq_o46 (bq_of bwL_law_384 36 (by decide +kernel))
theorem dL_law_421 : decode cL_law 421 = .ok (.aload_n 0, 1) := bq_o42 (bq_of bwL_law_384 37 (by decide +kernel))
theorem dL_law_422 : decode cL_law 422 = .ok (.iload_n 3, 1) := bq_o29 (bq_of bwL_law_384 38 (by decide +kernel))
theorem dL_law_423 : decode cL_law 423 = .ok (.iconst 2, 1) := bq_o5 (bq_of bwL_law_384 39 (by decide +kernel))
theorem dL_law_424 : decode cL_law 424 = .ok (.iadd, 1) := bq_o96 (bq_of bwL_law_384 40 (by decide +kernel))
theorem dL_law_425 : decode cL_law 425 = .ok (.iaload, 1) := bq_o46 (bq_of bwL_law_384 41 (by decide +kernel))
theorem dL_law_426 : decode cL_law 426 = .ok (.invokevirtual 30, 3) := bq_o182 (a := 0) (b := 30) (bq_3 bwL_law_384 42 (by decide +kernel)) rfl
theorem dL_law_429 : decode cL_law 429 = .ok (.pop2, 1) := bq_o88 (bq_of bwL_law_384 45 (by decide +kernel))
theorem dL_law_430 : decode cL_law 430 = .ok (.aload_n 2, 1) := bq_o44 (bq_of bwL_law_384 46 (by decide +kernel))
theorem dL_law_431 : decode cL_law 431 = .ok (.aload_n 0, 1) := bq_o42 (bq_of bwL_law_384 47 (by decide +kernel))
theorem dL_law_432 : decode cL_law 432 = .ok (.iload_n 3, 1) := bq_o29 (bq_of bwL_law_384 48 (by decide +kernel))
theorem dL_law_433 : decode cL_law 433 = .ok (.iconst 1, 1) := bq_o4 (bq_of bwL_law_384 49 (by decide +kernel))
theorem dL_law_434 : decode cL_law 434 = .ok (.iadd, 1) := bq_o96 (bq_of bwL_law_384 50 (by decide +kernel))
theorem dL_law_435 : decode cL_law 435 = .ok (.iaload, 1) := bq_o46 (bq_of bwL_law_384 51 (by decide +kernel))
theorem dL_law_436 : decode cL_law 436 = .ok (.aload_n 0, 1) := bq_o42 (bq_of bwL_law_384 52 (by decide +kernel))
theorem dL_law_437 : decode cL_law 437 = .ok (.iload_n 3, 1) := bq_o29 (bq_of bwL_law_384 53 (by decide +kernel))
theorem dL_law_438 : decode cL_law 438 = .ok (.iconst 2, 1) := bq_o5 (bq_of bwL_law_384 54 (by decide +kernel))
theorem dL_law_439 : decode cL_law 439 = .ok (.iadd, 1) := bq_o96 (bq_of bwL_law_384 55 (by decide +kernel))
theorem dL_law_440 : decode cL_law 440 = .ok (.iaload, 1) := bq_o46 (bq_of bwL_law_384 56 (by decide +kernel))
theorem dL_law_441 : decode cL_law 441 = .ok (.invokevirtual 34, 3) := bq_o182 (a := 0) (b := 34) (bq_3 bwL_law_384 57 (by decide +kernel)) rfl
theorem dL_law_444 : decode cL_law 444 = .ok (.pop2, 1) := bq_o88 (bq_of bwL_law_384 60 (by decide +kernel))
theorem dL_law_445 : decode cL_law 445 = .ok (.goto 1122, 3) := bq_o167 (a := 4) (b := 98) (bq_3 bwL_law_384 61 (by decide +kernel)) (by decide +kernel)
def bwL_law_448l : List Nat := [43, 42, 29, 4, 96, 46, 182, 0, 35, 87, 44, 42, 29, 4, 96, 46, 182, 0, 39, 87, 167, 4, 75, 43, 42, 29, 4, 96, 46, 42, 29, 5, 96, 46, 42, 29, 6, 96, 46, 182, 0, 40, 87, 44, 42, 29, 4, 96, 46, 42, 29, 5, 96, 46, 42, 29, 6, 96, 46, 182, 0, 43, 87, 167, 4, 32]
theorem bwL_law_448 : ((cL_law.data.toList.drop 448).take 66).map UInt8.toNat = bwL_law_448l := by decide +kernel
theorem dL_law_448 : decode cL_law 448 = .ok (.aload_n 1, 1) := bq_o43 (bq_of bwL_law_448 0 (by decide +kernel))
theorem dL_law_449 : decode cL_law 449 = .ok (.aload_n 0, 1) := bq_o42 (bq_of bwL_law_448 1 (by decide +kernel))
theorem dL_law_450 : decode cL_law 450 = .ok (.iload_n 3, 1) := bq_o29 (bq_of bwL_law_448 2 (by decide +kernel))
theorem dL_law_451 : decode cL_law 451 = .ok (.iconst 1, 1) := bq_o4 (bq_of bwL_law_448 3 (by decide +kernel))
theorem dL_law_452 : decode cL_law 452 = .ok (.iadd, 1) := bq_o96 (bq_of bwL_law_448 4 (by decide +kernel))
theorem dL_law_453 : decode cL_law 453 = .ok (.iaload, 1) := bq_o46 (bq_of bwL_law_448 5 (by decide +kernel))
theorem dL_law_454 : decode cL_law 454 = .ok (.invokevirtual 35, 3) := bq_o182 (a := 0) (b := 35) (bq_3 bwL_law_448 6 (by decide +kernel)) rfl
theorem dL_law_457 : decode cL_law 457 = .ok (.pop, 1) := bq_o87 (bq_of bwL_law_448 9 (by decide +kernel))
theorem dL_law_458 : decode cL_law 458 = .ok (.aload_n 2, 1) := bq_o44 (bq_of bwL_law_448 10 (by decide +kernel))
theorem dL_law_459 : decode cL_law 459 = .ok (.aload_n 0, 1) := bq_o42 (bq_of bwL_law_448 11 (by decide +kernel))
theorem dL_law_460 : decode cL_law 460 = .ok (.iload_n 3, 1) := bq_o29 (bq_of bwL_law_448 12 (by decide +kernel))
theorem dL_law_461 : decode cL_law 461 = .ok (.iconst 1, 1) := bq_o4 (bq_of bwL_law_448 13 (by decide +kernel))
theorem dL_law_462 : decode cL_law 462 = .ok (.iadd, 1) := bq_o96 (bq_of bwL_law_448 14 (by decide +kernel))
theorem dL_law_463 : decode cL_law 463 = .ok (.iaload, 1) := bq_o46 (bq_of bwL_law_448 15 (by decide +kernel))
theorem dL_law_464 : decode cL_law 464 = .ok (.invokevirtual 39, 3) := bq_o182 (a := 0) (b := 39) (bq_3 bwL_law_448 16 (by decide +kernel)) rfl
theorem dL_law_467 : decode cL_law 467 = .ok (.pop, 1) := bq_o87 (bq_of bwL_law_448 19 (by decide +kernel))
theorem dL_law_468 : decode cL_law 468 = .ok (.goto 1099, 3) := bq_o167 (a := 4) (b := 75) (bq_3 bwL_law_448 20 (by decide +kernel)) (by decide +kernel)
theorem dL_law_471 : decode cL_law 471 = .ok (.aload_n 1, 1) := bq_o43 (bq_of bwL_law_448 23 (by decide +kernel))
theorem dL_law_472 : decode cL_law 472 = .ok (.aload_n 0, 1) := bq_o42 (bq_of bwL_law_448 24 (by decide +kernel))
theorem dL_law_473 : decode cL_law 473 = .ok (.iload_n 3, 1) := bq_o29 (bq_of bwL_law_448 25 (by decide +kernel))
theorem dL_law_474 : decode cL_law 474 = .ok (.iconst 1, 1) := bq_o4 (bq_of bwL_law_448 26 (by decide +kernel))
theorem dL_law_475 : decode cL_law 475 = .ok (.iadd, 1) := bq_o96 (bq_of bwL_law_448 27 (by decide +kernel))
theorem dL_law_476 : decode cL_law 476 = .ok (.iaload, 1) := bq_o46 (bq_of bwL_law_448 28 (by decide +kernel))
theorem dL_law_477 : decode cL_law 477 = .ok (.aload_n 0, 1) := bq_o42 (bq_of bwL_law_448 29 (by decide +kernel))
theorem dL_law_478 : decode cL_law 478 = .ok (.iload_n 3, 1) := bq_o29 (bq_of bwL_law_448 30 (by decide +kernel))
theorem dL_law_479 : decode cL_law 479 = .ok (.iconst 2, 1) := bq_o5 (bq_of bwL_law_448 31 (by decide +kernel))
theorem dL_law_480 : decode cL_law 480 = .ok (.iadd, 1) := bq_o96 (bq_of bwL_law_448 32 (by decide +kernel))
theorem dL_law_481 : decode cL_law 481 = .ok (.iaload, 1) := bq_o46 (bq_of bwL_law_448 33 (by decide +kernel))
theorem dL_law_482 : decode cL_law 482 = .ok (.aload_n 0, 1) := bq_o42 (bq_of bwL_law_448 34 (by decide +kernel))
theorem dL_law_483 : decode cL_law 483 = .ok (.iload_n 3, 1) := bq_o29 (bq_of bwL_law_448 35 (by decide +kernel))
theorem dL_law_484 : decode cL_law 484 = .ok (.iconst 3, 1) := bq_o6 (bq_of bwL_law_448 36 (by decide +kernel))
theorem dL_law_485 : decode cL_law 485 = .ok (.iadd, 1) := bq_o96 (bq_of bwL_law_448 37 (by decide +kernel))
theorem dL_law_486 : decode cL_law 486 = .ok (.iaload, 1) := bq_o46 (bq_of bwL_law_448 38 (by decide +kernel))
theorem dL_law_487 : decode cL_law 487 = .ok (.invokevirtual 40, 3) := bq_o182 (a := 0) (b := 40) (bq_3 bwL_law_448 39 (by decide +kernel)) rfl
theorem dL_law_490 : decode cL_law 490 = .ok (.pop, 1) := bq_o87 (bq_of bwL_law_448 42 (by decide +kernel))
theorem dL_law_491 : decode cL_law 491 = .ok (.aload_n 2, 1) := bq_o44 (bq_of bwL_law_448 43 (by decide +kernel))
theorem dL_law_492 : decode cL_law 492 = .ok (.aload_n 0, 1) := bq_o42 (bq_of bwL_law_448 44 (by decide +kernel))
theorem dL_law_493 : decode cL_law 493 = .ok (.iload_n 3, 1) := bq_o29 (bq_of bwL_law_448 45 (by decide +kernel))
theorem dL_law_494 : decode cL_law 494 = .ok (.iconst 1, 1) := bq_o4 (bq_of bwL_law_448 46 (by decide +kernel))
theorem dL_law_495 : decode cL_law 495 = .ok (.iadd, 1) := bq_o96 (bq_of bwL_law_448 47 (by decide +kernel))
theorem dL_law_496 : decode cL_law 496 = .ok (.iaload, 1) := bq_o46 (bq_of bwL_law_448 48 (by decide +kernel))
theorem dL_law_497 : decode cL_law 497 = .ok (.aload_n 0, 1) := bq_o42 (bq_of bwL_law_448 49 (by decide +kernel))
theorem dL_law_498 : decode cL_law 498 = .ok (.iload_n 3, 1) := bq_o29 (bq_of bwL_law_448 50 (by decide +kernel))
theorem dL_law_499 : decode cL_law 499 = .ok (.iconst 2, 1) := bq_o5 (bq_of bwL_law_448 51 (by decide +kernel))
theorem dL_law_500 : decode cL_law 500 = .ok (.iadd, 1) := bq_o96 (bq_of bwL_law_448 52 (by decide +kernel))
theorem dL_law_501 : decode cL_law 501 = .ok (.iaload, 1) := bq_o46 (bq_of bwL_law_448 53 (by decide +kernel))
theorem dL_law_502 : decode cL_law 502 = .ok (.aload_n 0, 1) := bq_o42 (bq_of bwL_law_448 54 (by decide +kernel))
theorem dL_law_503 : decode cL_law 503 = .ok (.iload_n 3, 1) := bq_o29 (bq_of bwL_law_448 55 (by decide +kernel))
theorem dL_law_504 : decode cL_law 504 = .ok (.iconst 3, 1) := bq_o6 (bq_of bwL_law_448 56 (by decide +kernel))
theorem dL_law_505 : decode cL_law 505 = .ok (.iadd, 1) := bq_o96 (bq_of bwL_law_448 57 (by decide +kernel))
theorem dL_law_506 : decode cL_law 506 = .ok (.iaload, 1) := bq_o46 (bq_of bwL_law_448 58 (by decide +kernel))
theorem dL_law_507 : decode cL_law 507 = .ok (.invokevirtual 43, 3) := bq_o182 (a := 0) (b := 43) (bq_3 bwL_law_448 59 (by decide +kernel)) rfl
theorem dL_law_510 : decode cL_law 510 = .ok (.pop, 1) := bq_o87 (bq_of bwL_law_448 62 (by decide +kernel))
theorem dL_law_511 : decode cL_law 511 = .ok (.goto 1056, 3) := bq_o167 (a := 4) (b := 32) (bq_3 bwL_law_448 63 (by decide +kernel)) (by decide +kernel)
def bwL_law_512l : List Nat := [4, 32, 43, 42, 29, 4, 96, 46, 42, 29, 5, 96, 46, 182, 0, 44, 87, 44, 42, 29, 4, 96, 46, 42, 29, 5, 96, 46, 182, 0, 48, 87, 167, 3, 255, 43, 42, 29, 4, 96, 46, 42, 29, 5, 96, 46, 182, 0, 49, 87, 44, 42, 29, 4, 96, 46, 42, 29, 5, 96, 46, 182, 0, 52, 87, 167]
theorem bwL_law_512 : ((cL_law.data.toList.drop 512).take 66).map UInt8.toNat = bwL_law_512l := by decide +kernel
theorem dL_law_514 : decode cL_law 514 = .ok (.aload_n 1, 1) := bq_o43 (bq_of bwL_law_512 2 (by decide +kernel))
theorem dL_law_515 : decode cL_law 515 = .ok (.aload_n 0, 1) := bq_o42 (bq_of bwL_law_512 3 (by decide +kernel))
theorem dL_law_516 : decode cL_law 516 = .ok (.iload_n 3, 1) := bq_o29 (bq_of bwL_law_512 4 (by decide +kernel))
theorem dL_law_517 : decode cL_law 517 = .ok (.iconst 1, 1) := bq_o4 (bq_of bwL_law_512 5 (by decide +kernel))
theorem dL_law_518 : decode cL_law 518 = .ok (.iadd, 1) := bq_o96 (bq_of bwL_law_512 6 (by decide +kernel))
theorem dL_law_519 : decode cL_law 519 = .ok (.iaload, 1) := bq_o46 (bq_of bwL_law_512 7 (by decide +kernel))
theorem dL_law_520 : decode cL_law 520 = .ok (.aload_n 0, 1) := bq_o42 (bq_of bwL_law_512 8 (by decide +kernel))
theorem dL_law_521 : decode cL_law 521 = .ok (.iload_n 3, 1) := bq_o29 (bq_of bwL_law_512 9 (by decide +kernel))
theorem dL_law_522 : decode cL_law 522 = .ok (.iconst 2, 1) := bq_o5 (bq_of bwL_law_512 10 (by decide +kernel))
theorem dL_law_523 : decode cL_law 523 = .ok (.iadd, 1) := bq_o96 (bq_of bwL_law_512 11 (by decide +kernel))
theorem dL_law_524 : decode cL_law 524 = .ok (.iaload, 1) := bq_o46 (bq_of bwL_law_512 12 (by decide +kernel))
theorem dL_law_525 : decode cL_law 525 = .ok (.invokevirtual 44, 3) := bq_o182 (a := 0) (b := 44) (bq_3 bwL_law_512 13 (by decide +kernel)) rfl
theorem dL_law_528 : decode cL_law 528 = .ok (.pop, 1) := bq_o87 (bq_of bwL_law_512 16 (by decide +kernel))
theorem dL_law_529 : decode cL_law 529 = .ok (.aload_n 2, 1) := bq_o44 (bq_of bwL_law_512 17 (by decide +kernel))
theorem dL_law_530 : decode cL_law 530 = .ok (.aload_n 0, 1) := bq_o42 (bq_of bwL_law_512 18 (by decide +kernel))
theorem dL_law_531 : decode cL_law 531 = .ok (.iload_n 3, 1) := bq_o29 (bq_of bwL_law_512 19 (by decide +kernel))
theorem dL_law_532 : decode cL_law 532 = .ok (.iconst 1, 1) := bq_o4 (bq_of bwL_law_512 20 (by decide +kernel))
theorem dL_law_533 : decode cL_law 533 = .ok (.iadd, 1) := bq_o96 (bq_of bwL_law_512 21 (by decide +kernel))
theorem dL_law_534 : decode cL_law 534 = .ok (.iaload, 1) := bq_o46 (bq_of bwL_law_512 22 (by decide +kernel))
theorem dL_law_535 : decode cL_law 535 = .ok (.aload_n 0, 1) := bq_o42 (bq_of bwL_law_512 23 (by decide +kernel))
theorem dL_law_536 : decode cL_law 536 = .ok (.iload_n 3, 1) := bq_o29 (bq_of bwL_law_512 24 (by decide +kernel))
theorem dL_law_537 : decode cL_law 537 = .ok (.iconst 2, 1) := bq_o5 (bq_of bwL_law_512 25 (by decide +kernel))
theorem dL_law_538 : decode cL_law 538 = .ok (.iadd, 1) := bq_o96 (bq_of bwL_law_512 26 (by decide +kernel))
theorem dL_law_539 : decode cL_law 539 = .ok (.iaload, 1) := bq_o46 (bq_of bwL_law_512 27 (by decide +kernel))
theorem dL_law_540 : decode cL_law 540 = .ok (.invokevirtual 48, 3) := bq_o182 (a := 0) (b := 48) (bq_3 bwL_law_512 28 (by decide +kernel)) rfl
theorem dL_law_543 : decode cL_law 543 = .ok (.pop, 1) := bq_o87 (bq_of bwL_law_512 31 (by decide +kernel))
theorem dL_law_544 : decode cL_law 544 = .ok (.goto 1023, 3) := bq_o167 (a := 3) (b := 255) (bq_3 bwL_law_512 32 (by decide +kernel)) (by decide +kernel)
theorem dL_law_547 : decode cL_law 547 = .ok (.aload_n 1, 1) := bq_o43 (bq_of bwL_law_512 35 (by decide +kernel))
theorem dL_law_548 : decode cL_law 548 = .ok (.aload_n 0, 1) := bq_o42 (bq_of bwL_law_512 36 (by decide +kernel))
theorem dL_law_549 : decode cL_law 549 = .ok (.iload_n 3, 1) := bq_o29 (bq_of bwL_law_512 37 (by decide +kernel))
theorem dL_law_550 : decode cL_law 550 = .ok (.iconst 1, 1) := bq_o4 (bq_of bwL_law_512 38 (by decide +kernel))
theorem dL_law_551 : decode cL_law 551 = .ok (.iadd, 1) := bq_o96 (bq_of bwL_law_512 39 (by decide +kernel))
theorem dL_law_552 : decode cL_law 552 = .ok (.iaload, 1) := bq_o46 (bq_of bwL_law_512 40 (by decide +kernel))
theorem dL_law_553 : decode cL_law 553 = .ok (.aload_n 0, 1) := bq_o42 (bq_of bwL_law_512 41 (by decide +kernel))
theorem dL_law_554 : decode cL_law 554 = .ok (.iload_n 3, 1) := bq_o29 (bq_of bwL_law_512 42 (by decide +kernel))
theorem dL_law_555 : decode cL_law 555 = .ok (.iconst 2, 1) := bq_o5 (bq_of bwL_law_512 43 (by decide +kernel))
theorem dL_law_556 : decode cL_law 556 = .ok (.iadd, 1) := bq_o96 (bq_of bwL_law_512 44 (by decide +kernel))
theorem dL_law_557 : decode cL_law 557 = .ok (.iaload, 1) := bq_o46 (bq_of bwL_law_512 45 (by decide +kernel))
theorem dL_law_558 : decode cL_law 558 = .ok (.invokevirtual 49, 3) := bq_o182 (a := 0) (b := 49) (bq_3 bwL_law_512 46 (by decide +kernel)) rfl
theorem dL_law_561 : decode cL_law 561 = .ok (.pop, 1) := bq_o87 (bq_of bwL_law_512 49 (by decide +kernel))
theorem dL_law_562 : decode cL_law 562 = .ok (.aload_n 2, 1) := bq_o44 (bq_of bwL_law_512 50 (by decide +kernel))
theorem dL_law_563 : decode cL_law 563 = .ok (.aload_n 0, 1) := bq_o42 (bq_of bwL_law_512 51 (by decide +kernel))
theorem dL_law_564 : decode cL_law 564 = .ok (.iload_n 3, 1) := bq_o29 (bq_of bwL_law_512 52 (by decide +kernel))
theorem dL_law_565 : decode cL_law 565 = .ok (.iconst 1, 1) := bq_o4 (bq_of bwL_law_512 53 (by decide +kernel))
theorem dL_law_566 : decode cL_law 566 = .ok (.iadd, 1) := bq_o96 (bq_of bwL_law_512 54 (by decide +kernel))
theorem dL_law_567 : decode cL_law 567 = .ok (.iaload, 1) := bq_o46 (bq_of bwL_law_512 55 (by decide +kernel))
theorem dL_law_568 : decode cL_law 568 = .ok (.aload_n 0, 1) := bq_o42 (bq_of bwL_law_512 56 (by decide +kernel))
theorem dL_law_569 : decode cL_law 569 = .ok (.iload_n 3, 1) := bq_o29 (bq_of bwL_law_512 57 (by decide +kernel))
theorem dL_law_570 : decode cL_law 570 = .ok (.iconst 2, 1) := bq_o5 (bq_of bwL_law_512 58 (by decide +kernel))
theorem dL_law_571 : decode cL_law 571 = .ok (.iadd, 1) := bq_o96 (bq_of bwL_law_512 59 (by decide +kernel))
theorem dL_law_572 : decode cL_law 572 = .ok (.iaload, 1) := bq_o46 (bq_of bwL_law_512 60 (by decide +kernel))
theorem dL_law_573 : decode cL_law 573 = .ok (.invokevirtual 52, 3) := bq_o182 (a := 0) (b := 52) (bq_3 bwL_law_512 61 (by decide +kernel)) rfl
def bwL_law_576l : List Nat := [87, 167, 3, 222, 43, 42, 29, 4, 96, 46, 42, 29, 5, 96, 46, 42, 29, 6, 96, 46, 182, 0, 53, 87, 44, 42, 29, 4, 96, 46, 42, 29, 5, 96, 46, 42, 29, 6, 96, 46, 182, 0, 56, 87, 167, 3, 179, 43, 42, 29, 4, 96, 46, 42, 29, 5, 96, 46, 42, 29, 6, 96, 46, 182, 0, 57]
theorem bwL_law_576 : ((cL_law.data.toList.drop 576).take 66).map UInt8.toNat = bwL_law_576l := by decide +kernel
theorem dL_law_576 : decode cL_law 576 = .ok (.pop, 1) := bq_o87 (bq_of bwL_law_576 0 (by decide +kernel))
theorem dL_law_577 : decode cL_law 577 = .ok (.goto 990, 3) := bq_o167 (a := 3) (b := 222) (bq_3 bwL_law_576 1 (by decide +kernel)) (by decide +kernel)
theorem dL_law_580 : decode cL_law 580 = .ok (.aload_n 1, 1) := bq_o43 (bq_of bwL_law_576 4 (by decide +kernel))
theorem dL_law_581 : decode cL_law 581 = .ok (.aload_n 0, 1) := bq_o42 (bq_of bwL_law_576 5 (by decide +kernel))
theorem dL_law_582 : decode cL_law 582 = .ok (.iload_n 3, 1) := bq_o29 (bq_of bwL_law_576 6 (by decide +kernel))
theorem dL_law_583 : decode cL_law 583 = .ok (.iconst 1, 1) := bq_o4 (bq_of bwL_law_576 7 (by decide +kernel))
theorem dL_law_584 : decode cL_law 584 = .ok (.iadd, 1) := bq_o96 (bq_of bwL_law_576 8 (by decide +kernel))
theorem dL_law_585 : decode cL_law 585 = .ok (.iaload, 1) := bq_o46 (bq_of bwL_law_576 9 (by decide +kernel))
theorem dL_law_586 : decode cL_law 586 = .ok (.aload_n 0, 1) := bq_o42 (bq_of bwL_law_576 10 (by decide +kernel))
theorem dL_law_587 : decode cL_law 587 = .ok (.iload_n 3, 1) := bq_o29 (bq_of bwL_law_576 11 (by decide +kernel))
theorem dL_law_588 : decode cL_law 588 = .ok (.iconst 2, 1) := bq_o5 (bq_of bwL_law_576 12 (by decide +kernel))
theorem dL_law_589 : decode cL_law 589 = .ok (.iadd, 1) := bq_o96 (bq_of bwL_law_576 13 (by decide +kernel))
theorem dL_law_590 : decode cL_law 590 = .ok (.iaload, 1) := bq_o46 (bq_of bwL_law_576 14 (by decide +kernel))
theorem dL_law_591 : decode cL_law 591 = .ok (.aload_n 0, 1) := bq_o42 (bq_of bwL_law_576 15 (by decide +kernel))
theorem dL_law_592 : decode cL_law 592 = .ok (.iload_n 3, 1) := bq_o29 (bq_of bwL_law_576 16 (by decide +kernel))
theorem dL_law_593 : decode cL_law 593 = .ok (.iconst 3, 1) := bq_o6 (bq_of bwL_law_576 17 (by decide +kernel))
theorem dL_law_594 : decode cL_law 594 = .ok (.iadd, 1) := bq_o96 (bq_of bwL_law_576 18 (by decide +kernel))
theorem dL_law_595 : decode cL_law 595 = .ok (.iaload, 1) := bq_o46 (bq_of bwL_law_576 19 (by decide +kernel))
theorem dL_law_596 : decode cL_law 596 = .ok (.invokevirtual 53, 3) := bq_o182 (a := 0) (b := 53) (bq_3 bwL_law_576 20 (by decide +kernel)) rfl
theorem dL_law_599 : decode cL_law 599 = .ok (.pop, 1) := bq_o87 (bq_of bwL_law_576 23 (by decide +kernel))
theorem dL_law_600 : decode cL_law 600 = .ok (.aload_n 2, 1) := bq_o44 (bq_of bwL_law_576 24 (by decide +kernel))
theorem dL_law_601 : decode cL_law 601 = .ok (.aload_n 0, 1) := bq_o42 (bq_of bwL_law_576 25 (by decide +kernel))
theorem dL_law_602 : decode cL_law 602 = .ok (.iload_n 3, 1) := bq_o29 (bq_of bwL_law_576 26 (by decide +kernel))
theorem dL_law_603 : decode cL_law 603 = .ok (.iconst 1, 1) := bq_o4 (bq_of bwL_law_576 27 (by decide +kernel))
theorem dL_law_604 : decode cL_law 604 = .ok (.iadd, 1) := bq_o96 (bq_of bwL_law_576 28 (by decide +kernel))
theorem dL_law_605 : decode cL_law 605 = .ok (.iaload, 1) := bq_o46 (bq_of bwL_law_576 29 (by decide +kernel))
theorem dL_law_606 : decode cL_law 606 = .ok (.aload_n 0, 1) := bq_o42 (bq_of bwL_law_576 30 (by decide +kernel))
theorem dL_law_607 : decode cL_law 607 = .ok (.iload_n 3, 1) := bq_o29 (bq_of bwL_law_576 31 (by decide +kernel))
theorem dL_law_608 : decode cL_law 608 = .ok (.iconst 2, 1) := bq_o5 (bq_of bwL_law_576 32 (by decide +kernel))
theorem dL_law_609 : decode cL_law 609 = .ok (.iadd, 1) := bq_o96 (bq_of bwL_law_576 33 (by decide +kernel))
theorem dL_law_610 : decode cL_law 610 = .ok (.iaload, 1) := bq_o46 (bq_of bwL_law_576 34 (by decide +kernel))
theorem dL_law_611 : decode cL_law 611 = .ok (.aload_n 0, 1) := bq_o42 (bq_of bwL_law_576 35 (by decide +kernel))
theorem dL_law_612 : decode cL_law 612 = .ok (.iload_n 3, 1) := bq_o29 (bq_of bwL_law_576 36 (by decide +kernel))
theorem dL_law_613 : decode cL_law 613 = .ok (.iconst 3, 1) := bq_o6 (bq_of bwL_law_576 37 (by decide +kernel))
theorem dL_law_614 : decode cL_law 614 = .ok (.iadd, 1) := bq_o96 (bq_of bwL_law_576 38 (by decide +kernel))
theorem dL_law_615 : decode cL_law 615 = .ok (.iaload, 1) := bq_o46 (bq_of bwL_law_576 39 (by decide +kernel))
theorem dL_law_616 : decode cL_law 616 = .ok (.invokevirtual 56, 3) := bq_o182 (a := 0) (b := 56) (bq_3 bwL_law_576 40 (by decide +kernel)) rfl
theorem dL_law_619 : decode cL_law 619 = .ok (.pop, 1) := bq_o87 (bq_of bwL_law_576 43 (by decide +kernel))
theorem dL_law_620 : decode cL_law 620 = .ok (.goto 947, 3) := bq_o167 (a := 3) (b := 179) (bq_3 bwL_law_576 44 (by decide +kernel)) (by decide +kernel)
theorem dL_law_623 : decode cL_law 623 = .ok (.aload_n 1, 1) := bq_o43 (bq_of bwL_law_576 47 (by decide +kernel))
theorem dL_law_624 : decode cL_law 624 = .ok (.aload_n 0, 1) := bq_o42 (bq_of bwL_law_576 48 (by decide +kernel))
theorem dL_law_625 : decode cL_law 625 = .ok (.iload_n 3, 1) := bq_o29 (bq_of bwL_law_576 49 (by decide +kernel))
theorem dL_law_626 : decode cL_law 626 = .ok (.iconst 1, 1) := bq_o4 (bq_of bwL_law_576 50 (by decide +kernel))
theorem dL_law_627 : decode cL_law 627 = .ok (.iadd, 1) := bq_o96 (bq_of bwL_law_576 51 (by decide +kernel))
theorem dL_law_628 : decode cL_law 628 = .ok (.iaload, 1) := bq_o46 (bq_of bwL_law_576 52 (by decide +kernel))
theorem dL_law_629 : decode cL_law 629 = .ok (.aload_n 0, 1) := bq_o42 (bq_of bwL_law_576 53 (by decide +kernel))
theorem dL_law_630 : decode cL_law 630 = .ok (.iload_n 3, 1) := bq_o29 (bq_of bwL_law_576 54 (by decide +kernel))
theorem dL_law_631 : decode cL_law 631 = .ok (.iconst 2, 1) := bq_o5 (bq_of bwL_law_576 55 (by decide +kernel))
theorem dL_law_632 : decode cL_law 632 = .ok (.iadd, 1) := bq_o96 (bq_of bwL_law_576 56 (by decide +kernel))
theorem dL_law_633 : decode cL_law 633 = .ok (.iaload, 1) := bq_o46 (bq_of bwL_law_576 57 (by decide +kernel))
theorem dL_law_634 : decode cL_law 634 = .ok (.aload_n 0, 1) := bq_o42 (bq_of bwL_law_576 58 (by decide +kernel))
theorem dL_law_635 : decode cL_law 635 = .ok (.iload_n 3, 1) := bq_o29 (bq_of bwL_law_576 59 (by decide +kernel))
theorem dL_law_636 : decode cL_law 636 = .ok (.iconst 3, 1) := bq_o6 (bq_of bwL_law_576 60 (by decide +kernel))
theorem dL_law_637 : decode cL_law 637 = .ok (.iadd, 1) := bq_o96 (bq_of bwL_law_576 61 (by decide +kernel))
theorem dL_law_638 : decode cL_law 638 = .ok (.iaload, 1) := bq_o46 (bq_of bwL_law_576 62 (by decide +kernel))
theorem dL_law_639 : decode cL_law 639 = .ok (.invokevirtual 57, 3) := bq_o182 (a := 0) (b := 57) (bq_3 bwL_law_576 63 (by decide +kernel)) rfl
def bwL_law_640l : List Nat := [0, 57, 87, 44, 42, 29, 4, 96, 46, 42, 29, 5, 96, 46, 42, 29, 6, 96, 46, 182, 0, 60, 87, 167, 3, 136, 43, 42, 29, 4, 96, 46, 42, 29, 5, 96, 46, 182, 0, 61, 87, 44, 42, 29, 4, 96, 46, 42, 29, 5, 96, 46, 182, 0, 64, 87, 167, 3, 103, 43, 42, 29, 4, 96, 46, 182]
theorem bwL_law_640 : ((cL_law.data.toList.drop 640).take 66).map UInt8.toNat = bwL_law_640l := by decide +kernel
theorem dL_law_642 : decode cL_law 642 = .ok (.pop, 1) := bq_o87 (bq_of bwL_law_640 2 (by decide +kernel))
theorem dL_law_643 : decode cL_law 643 = .ok (.aload_n 2, 1) := bq_o44 (bq_of bwL_law_640 3 (by decide +kernel))
theorem dL_law_644 : decode cL_law 644 = .ok (.aload_n 0, 1) := bq_o42 (bq_of bwL_law_640 4 (by decide +kernel))
theorem dL_law_645 : decode cL_law 645 = .ok (.iload_n 3, 1) := bq_o29 (bq_of bwL_law_640 5 (by decide +kernel))
theorem dL_law_646 : decode cL_law 646 = .ok (.iconst 1, 1) := bq_o4 (bq_of bwL_law_640 6 (by decide +kernel))
theorem dL_law_647 : decode cL_law 647 = .ok (.iadd, 1) := bq_o96 (bq_of bwL_law_640 7 (by decide +kernel))
theorem dL_law_648 : decode cL_law 648 = .ok (.iaload, 1) := bq_o46 (bq_of bwL_law_640 8 (by decide +kernel))
theorem dL_law_649 : decode cL_law 649 = .ok (.aload_n 0, 1) := bq_o42 (bq_of bwL_law_640 9 (by decide +kernel))
theorem dL_law_650 : decode cL_law 650 = .ok (.iload_n 3, 1) := bq_o29 (bq_of bwL_law_640 10 (by decide +kernel))
theorem dL_law_651 : decode cL_law 651 = .ok (.iconst 2, 1) := bq_o5 (bq_of bwL_law_640 11 (by decide +kernel))
theorem dL_law_652 : decode cL_law 652 = .ok (.iadd, 1) := bq_o96 (bq_of bwL_law_640 12 (by decide +kernel))
theorem dL_law_653 : decode cL_law 653 = .ok (.iaload, 1) := bq_o46 (bq_of bwL_law_640 13 (by decide +kernel))
theorem dL_law_654 : decode cL_law 654 = .ok (.aload_n 0, 1) := bq_o42 (bq_of bwL_law_640 14 (by decide +kernel))
theorem dL_law_655 : decode cL_law 655 = .ok (.iload_n 3, 1) := bq_o29 (bq_of bwL_law_640 15 (by decide +kernel))
theorem dL_law_656 : decode cL_law 656 = .ok (.iconst 3, 1) := bq_o6 (bq_of bwL_law_640 16 (by decide +kernel))
theorem dL_law_657 : decode cL_law 657 = .ok (.iadd, 1) := bq_o96 (bq_of bwL_law_640 17 (by decide +kernel))
theorem dL_law_658 : decode cL_law 658 = .ok (.iaload, 1) := bq_o46 (bq_of bwL_law_640 18 (by decide +kernel))
theorem dL_law_659 : decode cL_law 659 = .ok (.invokevirtual 60, 3) := bq_o182 (a := 0) (b := 60) (bq_3 bwL_law_640 19 (by decide +kernel)) rfl
theorem dL_law_662 : decode cL_law 662 = .ok (.pop, 1) := bq_o87 (bq_of bwL_law_640 22 (by decide +kernel))
theorem dL_law_663 : decode cL_law 663 = .ok (.goto 904, 3) := bq_o167 (a := 3) (b := 136) (bq_3 bwL_law_640 23 (by decide +kernel)) (by decide +kernel)
theorem dL_law_666 : decode cL_law 666 = .ok (.aload_n 1, 1) := bq_o43 (bq_of bwL_law_640 26 (by decide +kernel))
theorem dL_law_667 : decode cL_law 667 = .ok (.aload_n 0, 1) := bq_o42 (bq_of bwL_law_640 27 (by decide +kernel))
theorem dL_law_668 : decode cL_law 668 = .ok (.iload_n 3, 1) := bq_o29 (bq_of bwL_law_640 28 (by decide +kernel))
theorem dL_law_669 : decode cL_law 669 = .ok (.iconst 1, 1) := bq_o4 (bq_of bwL_law_640 29 (by decide +kernel))
theorem dL_law_670 : decode cL_law 670 = .ok (.iadd, 1) := bq_o96 (bq_of bwL_law_640 30 (by decide +kernel))
theorem dL_law_671 : decode cL_law 671 = .ok (.iaload, 1) := bq_o46 (bq_of bwL_law_640 31 (by decide +kernel))
theorem dL_law_672 : decode cL_law 672 = .ok (.aload_n 0, 1) := bq_o42 (bq_of bwL_law_640 32 (by decide +kernel))
theorem dL_law_673 : decode cL_law 673 = .ok (.iload_n 3, 1) := bq_o29 (bq_of bwL_law_640 33 (by decide +kernel))
theorem dL_law_674 : decode cL_law 674 = .ok (.iconst 2, 1) := bq_o5 (bq_of bwL_law_640 34 (by decide +kernel))
theorem dL_law_675 : decode cL_law 675 = .ok (.iadd, 1) := bq_o96 (bq_of bwL_law_640 35 (by decide +kernel))
theorem dL_law_676 : decode cL_law 676 = .ok (.iaload, 1) := bq_o46 (bq_of bwL_law_640 36 (by decide +kernel))
theorem dL_law_677 : decode cL_law 677 = .ok (.invokevirtual 61, 3) := bq_o182 (a := 0) (b := 61) (bq_3 bwL_law_640 37 (by decide +kernel)) rfl
theorem dL_law_680 : decode cL_law 680 = .ok (.pop, 1) := bq_o87 (bq_of bwL_law_640 40 (by decide +kernel))
theorem dL_law_681 : decode cL_law 681 = .ok (.aload_n 2, 1) := bq_o44 (bq_of bwL_law_640 41 (by decide +kernel))
theorem dL_law_682 : decode cL_law 682 = .ok (.aload_n 0, 1) := bq_o42 (bq_of bwL_law_640 42 (by decide +kernel))
theorem dL_law_683 : decode cL_law 683 = .ok (.iload_n 3, 1) := bq_o29 (bq_of bwL_law_640 43 (by decide +kernel))
theorem dL_law_684 : decode cL_law 684 = .ok (.iconst 1, 1) := bq_o4 (bq_of bwL_law_640 44 (by decide +kernel))
theorem dL_law_685 : decode cL_law 685 = .ok (.iadd, 1) := bq_o96 (bq_of bwL_law_640 45 (by decide +kernel))
theorem dL_law_686 : decode cL_law 686 = .ok (.iaload, 1) := bq_o46 (bq_of bwL_law_640 46 (by decide +kernel))
theorem dL_law_687 : decode cL_law 687 = .ok (.aload_n 0, 1) := bq_o42 (bq_of bwL_law_640 47 (by decide +kernel))
theorem dL_law_688 : decode cL_law 688 = .ok (.iload_n 3, 1) := bq_o29 (bq_of bwL_law_640 48 (by decide +kernel))
theorem dL_law_689 : decode cL_law 689 = .ok (.iconst 2, 1) := bq_o5 (bq_of bwL_law_640 49 (by decide +kernel))
theorem dL_law_690 : decode cL_law 690 = .ok (.iadd, 1) := bq_o96 (bq_of bwL_law_640 50 (by decide +kernel))
theorem dL_law_691 : decode cL_law 691 = .ok (.iaload, 1) := bq_o46 (bq_of bwL_law_640 51 (by decide +kernel))
theorem dL_law_692 : decode cL_law 692 = .ok (.invokevirtual 64, 3) := bq_o182 (a := 0) (b := 64) (bq_3 bwL_law_640 52 (by decide +kernel)) rfl
theorem dL_law_695 : decode cL_law 695 = .ok (.pop, 1) := bq_o87 (bq_of bwL_law_640 55 (by decide +kernel))
theorem dL_law_696 : decode cL_law 696 = .ok (.goto 871, 3) := bq_o167 (a := 3) (b := 103) (bq_3 bwL_law_640 56 (by decide +kernel)) (by decide +kernel)
theorem dL_law_699 : decode cL_law 699 = .ok (.aload_n 1, 1) := bq_o43 (bq_of bwL_law_640 59 (by decide +kernel))
theorem dL_law_700 : decode cL_law 700 = .ok (.aload_n 0, 1) := bq_o42 (bq_of bwL_law_640 60 (by decide +kernel))
theorem dL_law_701 : decode cL_law 701 = .ok (.iload_n 3, 1) := bq_o29 (bq_of bwL_law_640 61 (by decide +kernel))
theorem dL_law_702 : decode cL_law 702 = .ok (.iconst 1, 1) := bq_o4 (bq_of bwL_law_640 62 (by decide +kernel))
theorem dL_law_703 : decode cL_law 703 = .ok (.iadd, 1) := bq_o96 (bq_of bwL_law_640 63 (by decide +kernel))
def bwL_law_704l : List Nat := [46, 182, 0, 65, 87, 44, 42, 29, 4, 96, 46, 182, 0, 68, 87, 167, 3, 80, 43, 182, 0, 69, 87, 44, 182, 0, 73, 87, 167, 3, 67, 43, 182, 0, 74, 87, 44, 182, 0, 77, 87, 167, 3, 54, 43, 42, 29, 4, 96, 46, 42, 29, 5, 96, 46, 182, 0, 78, 87, 44, 42, 29, 4, 96, 46, 42]
theorem bwL_law_704 : ((cL_law.data.toList.drop 704).take 66).map UInt8.toNat = bwL_law_704l := by decide +kernel
theorem dL_law_704 : decode cL_law 704 = .ok (.iaload, 1) := bq_o46 (bq_of bwL_law_704 0 (by decide +kernel))
theorem dL_law_705 : decode cL_law 705 = .ok (.invokevirtual 65, 3) := bq_o182 (a := 0) (b := 65) (bq_3 bwL_law_704 1 (by decide +kernel)) rfl
theorem dL_law_708 : decode cL_law 708 = .ok (.pop, 1) := bq_o87 (bq_of bwL_law_704 4 (by decide +kernel))
theorem dL_law_709 : decode cL_law 709 = .ok (.aload_n 2, 1) := bq_o44 (bq_of bwL_law_704 5 (by decide +kernel))
theorem dL_law_710 : decode cL_law 710 = .ok (.aload_n 0, 1) := bq_o42 (bq_of bwL_law_704 6 (by decide +kernel))
theorem dL_law_711 : decode cL_law 711 = .ok (.iload_n 3, 1) := bq_o29 (bq_of bwL_law_704 7 (by decide +kernel))
theorem dL_law_712 : decode cL_law 712 = .ok (.iconst 1, 1) := bq_o4 (bq_of bwL_law_704 8 (by decide +kernel))
theorem dL_law_713 : decode cL_law 713 = .ok (.iadd, 1) := bq_o96 (bq_of bwL_law_704 9 (by decide +kernel))
theorem dL_law_714 : decode cL_law 714 = .ok (.iaload, 1) := bq_o46 (bq_of bwL_law_704 10 (by decide +kernel))
theorem dL_law_715 : decode cL_law 715 = .ok (.invokevirtual 68, 3) := bq_o182 (a := 0) (b := 68) (bq_3 bwL_law_704 11 (by decide +kernel)) rfl
theorem dL_law_718 : decode cL_law 718 = .ok (.pop, 1) := bq_o87 (bq_of bwL_law_704 14 (by decide +kernel))
theorem dL_law_719 : decode cL_law 719 = .ok (.goto 848, 3) := bq_o167 (a := 3) (b := 80) (bq_3 bwL_law_704 15 (by decide +kernel)) (by decide +kernel)
theorem dL_law_722 : decode cL_law 722 = .ok (.aload_n 1, 1) := bq_o43 (bq_of bwL_law_704 18 (by decide +kernel))
theorem dL_law_723 : decode cL_law 723 = .ok (.invokevirtual 69, 3) := bq_o182 (a := 0) (b := 69) (bq_3 bwL_law_704 19 (by decide +kernel)) rfl
theorem dL_law_726 : decode cL_law 726 = .ok (.pop, 1) := bq_o87 (bq_of bwL_law_704 22 (by decide +kernel))
theorem dL_law_727 : decode cL_law 727 = .ok (.aload_n 2, 1) := bq_o44 (bq_of bwL_law_704 23 (by decide +kernel))
theorem dL_law_728 : decode cL_law 728 = .ok (.invokevirtual 73, 3) := bq_o182 (a := 0) (b := 73) (bq_3 bwL_law_704 24 (by decide +kernel)) rfl
theorem dL_law_731 : decode cL_law 731 = .ok (.pop, 1) := bq_o87 (bq_of bwL_law_704 27 (by decide +kernel))
theorem dL_law_732 : decode cL_law 732 = .ok (.goto 835, 3) := bq_o167 (a := 3) (b := 67) (bq_3 bwL_law_704 28 (by decide +kernel)) (by decide +kernel)
theorem dL_law_735 : decode cL_law 735 = .ok (.aload_n 1, 1) := bq_o43 (bq_of bwL_law_704 31 (by decide +kernel))
theorem dL_law_736 : decode cL_law 736 = .ok (.invokevirtual 74, 3) := bq_o182 (a := 0) (b := 74) (bq_3 bwL_law_704 32 (by decide +kernel)) rfl
theorem dL_law_739 : decode cL_law 739 = .ok (.pop, 1) := bq_o87 (bq_of bwL_law_704 35 (by decide +kernel))
theorem dL_law_740 : decode cL_law 740 = .ok (.aload_n 2, 1) := bq_o44 (bq_of bwL_law_704 36 (by decide +kernel))
theorem dL_law_741 : decode cL_law 741 = .ok (.invokevirtual 77, 3) := bq_o182 (a := 0) (b := 77) (bq_3 bwL_law_704 37 (by decide +kernel)) rfl
theorem dL_law_744 : decode cL_law 744 = .ok (.pop, 1) := bq_o87 (bq_of bwL_law_704 40 (by decide +kernel))
theorem dL_law_745 : decode cL_law 745 = .ok (.goto 822, 3) := bq_o167 (a := 3) (b := 54) (bq_3 bwL_law_704 41 (by decide +kernel)) (by decide +kernel)
theorem dL_law_748 : decode cL_law 748 = .ok (.aload_n 1, 1) := bq_o43 (bq_of bwL_law_704 44 (by decide +kernel))
theorem dL_law_749 : decode cL_law 749 = .ok (.aload_n 0, 1) := bq_o42 (bq_of bwL_law_704 45 (by decide +kernel))
theorem dL_law_750 : decode cL_law 750 = .ok (.iload_n 3, 1) := bq_o29 (bq_of bwL_law_704 46 (by decide +kernel))
theorem dL_law_751 : decode cL_law 751 = .ok (.iconst 1, 1) := bq_o4 (bq_of bwL_law_704 47 (by decide +kernel))
theorem dL_law_752 : decode cL_law 752 = .ok (.iadd, 1) := bq_o96 (bq_of bwL_law_704 48 (by decide +kernel))
theorem dL_law_753 : decode cL_law 753 = .ok (.iaload, 1) := bq_o46 (bq_of bwL_law_704 49 (by decide +kernel))
theorem dL_law_754 : decode cL_law 754 = .ok (.aload_n 0, 1) := bq_o42 (bq_of bwL_law_704 50 (by decide +kernel))
theorem dL_law_755 : decode cL_law 755 = .ok (.iload_n 3, 1) := bq_o29 (bq_of bwL_law_704 51 (by decide +kernel))
theorem dL_law_756 : decode cL_law 756 = .ok (.iconst 2, 1) := bq_o5 (bq_of bwL_law_704 52 (by decide +kernel))
theorem dL_law_757 : decode cL_law 757 = .ok (.iadd, 1) := bq_o96 (bq_of bwL_law_704 53 (by decide +kernel))
theorem dL_law_758 : decode cL_law 758 = .ok (.iaload, 1) := bq_o46 (bq_of bwL_law_704 54 (by decide +kernel))
theorem dL_law_759 : decode cL_law 759 = .ok (.invokevirtual 78, 3) := bq_o182 (a := 0) (b := 78) (bq_3 bwL_law_704 55 (by decide +kernel)) rfl
theorem dL_law_762 : decode cL_law 762 = .ok (.pop, 1) := bq_o87 (bq_of bwL_law_704 58 (by decide +kernel))
theorem dL_law_763 : decode cL_law 763 = .ok (.aload_n 2, 1) := bq_o44 (bq_of bwL_law_704 59 (by decide +kernel))
theorem dL_law_764 : decode cL_law 764 = .ok (.aload_n 0, 1) := bq_o42 (bq_of bwL_law_704 60 (by decide +kernel))
theorem dL_law_765 : decode cL_law 765 = .ok (.iload_n 3, 1) := bq_o29 (bq_of bwL_law_704 61 (by decide +kernel))
theorem dL_law_766 : decode cL_law 766 = .ok (.iconst 1, 1) := bq_o4 (bq_of bwL_law_704 62 (by decide +kernel))
theorem dL_law_767 : decode cL_law 767 = .ok (.iadd, 1) := bq_o96 (bq_of bwL_law_704 63 (by decide +kernel))
def bwL_law_768l : List Nat := [46, 42, 29, 5, 96, 46, 182, 0, 81, 87, 167, 3, 21, 43, 42, 29, 4, 96, 46, 42, 29, 5, 96, 46, 182, 0, 82, 87, 44, 42, 29, 4, 96, 46, 42, 29, 5, 96, 46, 182, 0, 85, 87, 167, 2, 244, 43, 42, 29, 4, 96, 46, 182, 0, 86, 87, 44, 42, 29, 4, 96, 46, 182, 0, 89, 87]
theorem bwL_law_768 : ((cL_law.data.toList.drop 768).take 66).map UInt8.toNat = bwL_law_768l := by decide +kernel
theorem dL_law_768 : decode cL_law 768 = .ok (.iaload, 1) := bq_o46 (bq_of bwL_law_768 0 (by decide +kernel))
theorem dL_law_769 : decode cL_law 769 = .ok (.aload_n 0, 1) := bq_o42 (bq_of bwL_law_768 1 (by decide +kernel))
theorem dL_law_770 : decode cL_law 770 = .ok (.iload_n 3, 1) := bq_o29 (bq_of bwL_law_768 2 (by decide +kernel))
theorem dL_law_771 : decode cL_law 771 = .ok (.iconst 2, 1) := bq_o5 (bq_of bwL_law_768 3 (by decide +kernel))
theorem dL_law_772 : decode cL_law 772 = .ok (.iadd, 1) := bq_o96 (bq_of bwL_law_768 4 (by decide +kernel))
theorem dL_law_773 : decode cL_law 773 = .ok (.iaload, 1) := bq_o46 (bq_of bwL_law_768 5 (by decide +kernel))
theorem dL_law_774 : decode cL_law 774 = .ok (.invokevirtual 81, 3) := bq_o182 (a := 0) (b := 81) (bq_3 bwL_law_768 6 (by decide +kernel)) rfl
theorem dL_law_777 : decode cL_law 777 = .ok (.pop, 1) := bq_o87 (bq_of bwL_law_768 9 (by decide +kernel))
theorem dL_law_778 : decode cL_law 778 = .ok (.goto 789, 3) := bq_o167 (a := 3) (b := 21) (bq_3 bwL_law_768 10 (by decide +kernel)) (by decide +kernel)
theorem dL_law_781 : decode cL_law 781 = .ok (.aload_n 1, 1) := bq_o43 (bq_of bwL_law_768 13 (by decide +kernel))
theorem dL_law_782 : decode cL_law 782 = .ok (.aload_n 0, 1) := bq_o42 (bq_of bwL_law_768 14 (by decide +kernel))
theorem dL_law_783 : decode cL_law 783 = .ok (.iload_n 3, 1) := bq_o29 (bq_of bwL_law_768 15 (by decide +kernel))
theorem dL_law_784 : decode cL_law 784 = .ok (.iconst 1, 1) := bq_o4 (bq_of bwL_law_768 16 (by decide +kernel))
theorem dL_law_785 : decode cL_law 785 = .ok (.iadd, 1) := bq_o96 (bq_of bwL_law_768 17 (by decide +kernel))
theorem dL_law_786 : decode cL_law 786 = .ok (.iaload, 1) := bq_o46 (bq_of bwL_law_768 18 (by decide +kernel))
theorem dL_law_787 : decode cL_law 787 = .ok (.aload_n 0, 1) := bq_o42 (bq_of bwL_law_768 19 (by decide +kernel))
theorem dL_law_788 : decode cL_law 788 = .ok (.iload_n 3, 1) := bq_o29 (bq_of bwL_law_768 20 (by decide +kernel))
theorem dL_law_789 : decode cL_law 789 = .ok (.iconst 2, 1) := bq_o5 (bq_of bwL_law_768 21 (by decide +kernel))
theorem dL_law_790 : decode cL_law 790 = .ok (.iadd, 1) := bq_o96 (bq_of bwL_law_768 22 (by decide +kernel))
theorem dL_law_791 : decode cL_law 791 = .ok (.iaload, 1) := bq_o46 (bq_of bwL_law_768 23 (by decide +kernel))
theorem dL_law_792 : decode cL_law 792 = .ok (.invokevirtual 82, 3) := bq_o182 (a := 0) (b := 82) (bq_3 bwL_law_768 24 (by decide +kernel)) rfl
theorem dL_law_795 : decode cL_law 795 = .ok (.pop, 1) := bq_o87 (bq_of bwL_law_768 27 (by decide +kernel))
theorem dL_law_796 : decode cL_law 796 = .ok (.aload_n 2, 1) := bq_o44 (bq_of bwL_law_768 28 (by decide +kernel))
theorem dL_law_797 : decode cL_law 797 = .ok (.aload_n 0, 1) := bq_o42 (bq_of bwL_law_768 29 (by decide +kernel))
theorem dL_law_798 : decode cL_law 798 = .ok (.iload_n 3, 1) := bq_o29 (bq_of bwL_law_768 30 (by decide +kernel))
theorem dL_law_799 : decode cL_law 799 = .ok (.iconst 1, 1) := bq_o4 (bq_of bwL_law_768 31 (by decide +kernel))
theorem dL_law_800 : decode cL_law 800 = .ok (.iadd, 1) := bq_o96 (bq_of bwL_law_768 32 (by decide +kernel))
theorem dL_law_801 : decode cL_law 801 = .ok (.iaload, 1) := bq_o46 (bq_of bwL_law_768 33 (by decide +kernel))
theorem dL_law_802 : decode cL_law 802 = .ok (.aload_n 0, 1) := bq_o42 (bq_of bwL_law_768 34 (by decide +kernel))
theorem dL_law_803 : decode cL_law 803 = .ok (.iload_n 3, 1) := bq_o29 (bq_of bwL_law_768 35 (by decide +kernel))
theorem dL_law_804 : decode cL_law 804 = .ok (.iconst 2, 1) := bq_o5 (bq_of bwL_law_768 36 (by decide +kernel))
theorem dL_law_805 : decode cL_law 805 = .ok (.iadd, 1) := bq_o96 (bq_of bwL_law_768 37 (by decide +kernel))
theorem dL_law_806 : decode cL_law 806 = .ok (.iaload, 1) := bq_o46 (bq_of bwL_law_768 38 (by decide +kernel))
theorem dL_law_807 : decode cL_law 807 = .ok (.invokevirtual 85, 3) := bq_o182 (a := 0) (b := 85) (bq_3 bwL_law_768 39 (by decide +kernel)) rfl
theorem dL_law_810 : decode cL_law 810 = .ok (.pop, 1) := bq_o87 (bq_of bwL_law_768 42 (by decide +kernel))
theorem dL_law_811 : decode cL_law 811 = .ok (.goto 756, 3) := bq_o167 (a := 2) (b := 244) (bq_3 bwL_law_768 43 (by decide +kernel)) (by decide +kernel)
theorem dL_law_814 : decode cL_law 814 = .ok (.aload_n 1, 1) := bq_o43 (bq_of bwL_law_768 46 (by decide +kernel))
theorem dL_law_815 : decode cL_law 815 = .ok (.aload_n 0, 1) := bq_o42 (bq_of bwL_law_768 47 (by decide +kernel))
theorem dL_law_816 : decode cL_law 816 = .ok (.iload_n 3, 1) := bq_o29 (bq_of bwL_law_768 48 (by decide +kernel))
theorem dL_law_817 : decode cL_law 817 = .ok (.iconst 1, 1) := bq_o4 (bq_of bwL_law_768 49 (by decide +kernel))
theorem dL_law_818 : decode cL_law 818 = .ok (.iadd, 1) := bq_o96 (bq_of bwL_law_768 50 (by decide +kernel))
theorem dL_law_819 : decode cL_law 819 = .ok (.iaload, 1) := bq_o46 (bq_of bwL_law_768 51 (by decide +kernel))
theorem dL_law_820 : decode cL_law 820 = .ok (.invokevirtual 86, 3) := bq_o182 (a := 0) (b := 86) (bq_3 bwL_law_768 52 (by decide +kernel)) rfl
theorem dL_law_823 : decode cL_law 823 = .ok (.pop, 1) := bq_o87 (bq_of bwL_law_768 55 (by decide +kernel))
theorem dL_law_824 : decode cL_law 824 = .ok (.aload_n 2, 1) := bq_o44 (bq_of bwL_law_768 56 (by decide +kernel))
theorem dL_law_825 : decode cL_law 825 = .ok (.aload_n 0, 1) := bq_o42 (bq_of bwL_law_768 57 (by decide +kernel))
theorem dL_law_826 : decode cL_law 826 = .ok (.iload_n 3, 1) := bq_o29 (bq_of bwL_law_768 58 (by decide +kernel))
theorem dL_law_827 : decode cL_law 827 = .ok (.iconst 1, 1) := bq_o4 (bq_of bwL_law_768 59 (by decide +kernel))
theorem dL_law_828 : decode cL_law 828 = .ok (.iadd, 1) := bq_o96 (bq_of bwL_law_768 60 (by decide +kernel))
theorem dL_law_829 : decode cL_law 829 = .ok (.iaload, 1) := bq_o46 (bq_of bwL_law_768 61 (by decide +kernel))
theorem dL_law_830 : decode cL_law 830 = .ok (.invokevirtual 89, 3) := bq_o182 (a := 0) (b := 89) (bq_3 bwL_law_768 62 (by decide +kernel)) rfl
def bwL_law_832l : List Nat := [89, 87, 167, 2, 221, 43, 42, 29, 4, 96, 46, 182, 0, 90, 87, 44, 42, 29, 4, 96, 46, 182, 0, 93, 87, 167, 2, 198, 43, 42, 29, 4, 96, 46, 182, 0, 94, 87, 44, 42, 29, 4, 96, 46, 182, 0, 97, 87, 167, 2, 175, 43, 42, 29, 4, 96, 46, 182, 0, 98, 87, 44, 42, 29, 4, 96]
theorem bwL_law_832 : ((cL_law.data.toList.drop 832).take 66).map UInt8.toNat = bwL_law_832l := by decide +kernel
theorem dL_law_833 : decode cL_law 833 = .ok (.pop, 1) := bq_o87 (bq_of bwL_law_832 1 (by decide +kernel))
theorem dL_law_834 : decode cL_law 834 = .ok (.goto 733, 3) := bq_o167 (a := 2) (b := 221) (bq_3 bwL_law_832 2 (by decide +kernel)) (by decide +kernel)
theorem dL_law_837 : decode cL_law 837 = .ok (.aload_n 1, 1) := bq_o43 (bq_of bwL_law_832 5 (by decide +kernel))
theorem dL_law_838 : decode cL_law 838 = .ok (.aload_n 0, 1) := bq_o42 (bq_of bwL_law_832 6 (by decide +kernel))
theorem dL_law_839 : decode cL_law 839 = .ok (.iload_n 3, 1) := bq_o29 (bq_of bwL_law_832 7 (by decide +kernel))
theorem dL_law_840 : decode cL_law 840 = .ok (.iconst 1, 1) := bq_o4 (bq_of bwL_law_832 8 (by decide +kernel))
theorem dL_law_841 : decode cL_law 841 = .ok (.iadd, 1) := bq_o96 (bq_of bwL_law_832 9 (by decide +kernel))
theorem dL_law_842 : decode cL_law 842 = .ok (.iaload, 1) := bq_o46 (bq_of bwL_law_832 10 (by decide +kernel))
theorem dL_law_843 : decode cL_law 843 = .ok (.invokevirtual 90, 3) := bq_o182 (a := 0) (b := 90) (bq_3 bwL_law_832 11 (by decide +kernel)) rfl
theorem dL_law_846 : decode cL_law 846 = .ok (.pop, 1) := bq_o87 (bq_of bwL_law_832 14 (by decide +kernel))
theorem dL_law_847 : decode cL_law 847 = .ok (.aload_n 2, 1) := bq_o44 (bq_of bwL_law_832 15 (by decide +kernel))
theorem dL_law_848 : decode cL_law 848 = .ok (.aload_n 0, 1) := bq_o42 (bq_of bwL_law_832 16 (by decide +kernel))
theorem dL_law_849 : decode cL_law 849 = .ok (.iload_n 3, 1) := bq_o29 (bq_of bwL_law_832 17 (by decide +kernel))
theorem dL_law_850 : decode cL_law 850 = .ok (.iconst 1, 1) := bq_o4 (bq_of bwL_law_832 18 (by decide +kernel))
theorem dL_law_851 : decode cL_law 851 = .ok (.iadd, 1) := bq_o96 (bq_of bwL_law_832 19 (by decide +kernel))
theorem dL_law_852 : decode cL_law 852 = .ok (.iaload, 1) := bq_o46 (bq_of bwL_law_832 20 (by decide +kernel))
theorem dL_law_853 : decode cL_law 853 = .ok (.invokevirtual 93, 3) := bq_o182 (a := 0) (b := 93) (bq_3 bwL_law_832 21 (by decide +kernel)) rfl
theorem dL_law_856 : decode cL_law 856 = .ok (.pop, 1) := bq_o87 (bq_of bwL_law_832 24 (by decide +kernel))
theorem dL_law_857 : decode cL_law 857 = .ok (.goto 710, 3) := bq_o167 (a := 2) (b := 198) (bq_3 bwL_law_832 25 (by decide +kernel)) (by decide +kernel)
theorem dL_law_860 : decode cL_law 860 = .ok (.aload_n 1, 1) := bq_o43 (bq_of bwL_law_832 28 (by decide +kernel))
theorem dL_law_861 : decode cL_law 861 = .ok (.aload_n 0, 1) := bq_o42 (bq_of bwL_law_832 29 (by decide +kernel))
theorem dL_law_862 : decode cL_law 862 = .ok (.iload_n 3, 1) := bq_o29 (bq_of bwL_law_832 30 (by decide +kernel))
theorem dL_law_863 : decode cL_law 863 = .ok (.iconst 1, 1) := bq_o4 (bq_of bwL_law_832 31 (by decide +kernel))
theorem dL_law_864 : decode cL_law 864 = .ok (.iadd, 1) := bq_o96 (bq_of bwL_law_832 32 (by decide +kernel))
theorem dL_law_865 : decode cL_law 865 = .ok (.iaload, 1) := bq_o46 (bq_of bwL_law_832 33 (by decide +kernel))
theorem dL_law_866 : decode cL_law 866 = .ok (.invokevirtual 94, 3) := bq_o182 (a := 0) (b := 94) (bq_3 bwL_law_832 34 (by decide +kernel)) rfl
theorem dL_law_869 : decode cL_law 869 = .ok (.pop, 1) := bq_o87 (bq_of bwL_law_832 37 (by decide +kernel))
theorem dL_law_870 : decode cL_law 870 = .ok (.aload_n 2, 1) := bq_o44 (bq_of bwL_law_832 38 (by decide +kernel))
theorem dL_law_871 : decode cL_law 871 = .ok (.aload_n 0, 1) := bq_o42 (bq_of bwL_law_832 39 (by decide +kernel))
theorem dL_law_872 : decode cL_law 872 = .ok (.iload_n 3, 1) := bq_o29 (bq_of bwL_law_832 40 (by decide +kernel))
theorem dL_law_873 : decode cL_law 873 = .ok (.iconst 1, 1) := bq_o4 (bq_of bwL_law_832 41 (by decide +kernel))
theorem dL_law_874 : decode cL_law 874 = .ok (.iadd, 1) := bq_o96 (bq_of bwL_law_832 42 (by decide +kernel))
theorem dL_law_875 : decode cL_law 875 = .ok (.iaload, 1) := bq_o46 (bq_of bwL_law_832 43 (by decide +kernel))
theorem dL_law_876 : decode cL_law 876 = .ok (.invokevirtual 97, 3) := bq_o182 (a := 0) (b := 97) (bq_3 bwL_law_832 44 (by decide +kernel)) rfl
theorem dL_law_879 : decode cL_law 879 = .ok (.pop, 1) := bq_o87 (bq_of bwL_law_832 47 (by decide +kernel))
theorem dL_law_880 : decode cL_law 880 = .ok (.goto 687, 3) := bq_o167 (a := 2) (b := 175) (bq_3 bwL_law_832 48 (by decide +kernel)) (by decide +kernel)
theorem dL_law_883 : decode cL_law 883 = .ok (.aload_n 1, 1) := bq_o43 (bq_of bwL_law_832 51 (by decide +kernel))
theorem dL_law_884 : decode cL_law 884 = .ok (.aload_n 0, 1) := bq_o42 (bq_of bwL_law_832 52 (by decide +kernel))
theorem dL_law_885 : decode cL_law 885 = .ok (.iload_n 3, 1) := bq_o29 (bq_of bwL_law_832 53 (by decide +kernel))
theorem dL_law_886 : decode cL_law 886 = .ok (.iconst 1, 1) := bq_o4 (bq_of bwL_law_832 54 (by decide +kernel))
theorem dL_law_887 : decode cL_law 887 = .ok (.iadd, 1) := bq_o96 (bq_of bwL_law_832 55 (by decide +kernel))
theorem dL_law_888 : decode cL_law 888 = .ok (.iaload, 1) := bq_o46 (bq_of bwL_law_832 56 (by decide +kernel))
theorem dL_law_889 : decode cL_law 889 = .ok (.invokevirtual 98, 3) := bq_o182 (a := 0) (b := 98) (bq_3 bwL_law_832 57 (by decide +kernel)) rfl
theorem dL_law_892 : decode cL_law 892 = .ok (.pop, 1) := bq_o87 (bq_of bwL_law_832 60 (by decide +kernel))
theorem dL_law_893 : decode cL_law 893 = .ok (.aload_n 2, 1) := bq_o44 (bq_of bwL_law_832 61 (by decide +kernel))
theorem dL_law_894 : decode cL_law 894 = .ok (.aload_n 0, 1) := bq_o42 (bq_of bwL_law_832 62 (by decide +kernel))
theorem dL_law_895 : decode cL_law 895 = .ok (.iload_n 3, 1) := bq_o29 (bq_of bwL_law_832 63 (by decide +kernel))
def bwL_law_896l : List Nat := [4, 96, 46, 182, 0, 101, 87, 167, 2, 152, 43, 42, 29, 4, 96, 46, 42, 29, 5, 96, 46, 182, 0, 102, 87, 44, 42, 29, 4, 96, 46, 42, 29, 5, 96, 46, 182, 0, 105, 87, 167, 2, 119, 43, 42, 29, 4, 96, 46, 42, 29, 5, 96, 46, 42, 29, 6, 96, 46, 182, 0, 106, 87, 44, 42, 29]
theorem bwL_law_896 : ((cL_law.data.toList.drop 896).take 66).map UInt8.toNat = bwL_law_896l := by decide +kernel
theorem dL_law_896 : decode cL_law 896 = .ok (.iconst 1, 1) := bq_o4 (bq_of bwL_law_896 0 (by decide +kernel))
theorem dL_law_897 : decode cL_law 897 = .ok (.iadd, 1) := bq_o96 (bq_of bwL_law_896 1 (by decide +kernel))
theorem dL_law_898 : decode cL_law 898 = .ok (.iaload, 1) := bq_o46 (bq_of bwL_law_896 2 (by decide +kernel))
theorem dL_law_899 : decode cL_law 899 = .ok (.invokevirtual 101, 3) := bq_o182 (a := 0) (b := 101) (bq_3 bwL_law_896 3 (by decide +kernel)) rfl
theorem dL_law_902 : decode cL_law 902 = .ok (.pop, 1) := bq_o87 (bq_of bwL_law_896 6 (by decide +kernel))
theorem dL_law_903 : decode cL_law 903 = .ok (.goto 664, 3) := bq_o167 (a := 2) (b := 152) (bq_3 bwL_law_896 7 (by decide +kernel)) (by decide +kernel)
theorem dL_law_906 : decode cL_law 906 = .ok (.aload_n 1, 1) := bq_o43 (bq_of bwL_law_896 10 (by decide +kernel))
theorem dL_law_907 : decode cL_law 907 = .ok (.aload_n 0, 1) := bq_o42 (bq_of bwL_law_896 11 (by decide +kernel))
theorem dL_law_908 : decode cL_law 908 = .ok (.iload_n 3, 1) := bq_o29 (bq_of bwL_law_896 12 (by decide +kernel))
theorem dL_law_909 : decode cL_law 909 = .ok (.iconst 1, 1) := bq_o4 (bq_of bwL_law_896 13 (by decide +kernel))
theorem dL_law_910 : decode cL_law 910 = .ok (.iadd, 1) := bq_o96 (bq_of bwL_law_896 14 (by decide +kernel))
theorem dL_law_911 : decode cL_law 911 = .ok (.iaload, 1) := bq_o46 (bq_of bwL_law_896 15 (by decide +kernel))
theorem dL_law_912 : decode cL_law 912 = .ok (.aload_n 0, 1) := bq_o42 (bq_of bwL_law_896 16 (by decide +kernel))
theorem dL_law_913 : decode cL_law 913 = .ok (.iload_n 3, 1) := bq_o29 (bq_of bwL_law_896 17 (by decide +kernel))
theorem dL_law_914 : decode cL_law 914 = .ok (.iconst 2, 1) := bq_o5 (bq_of bwL_law_896 18 (by decide +kernel))
theorem dL_law_915 : decode cL_law 915 = .ok (.iadd, 1) := bq_o96 (bq_of bwL_law_896 19 (by decide +kernel))
theorem dL_law_916 : decode cL_law 916 = .ok (.iaload, 1) := bq_o46 (bq_of bwL_law_896 20 (by decide +kernel))
theorem dL_law_917 : decode cL_law 917 = .ok (.invokevirtual 102, 3) := bq_o182 (a := 0) (b := 102) (bq_3 bwL_law_896 21 (by decide +kernel)) rfl
theorem dL_law_920 : decode cL_law 920 = .ok (.pop, 1) := bq_o87 (bq_of bwL_law_896 24 (by decide +kernel))
theorem dL_law_921 : decode cL_law 921 = .ok (.aload_n 2, 1) := bq_o44 (bq_of bwL_law_896 25 (by decide +kernel))
theorem dL_law_922 : decode cL_law 922 = .ok (.aload_n 0, 1) := bq_o42 (bq_of bwL_law_896 26 (by decide +kernel))
theorem dL_law_923 : decode cL_law 923 = .ok (.iload_n 3, 1) := bq_o29 (bq_of bwL_law_896 27 (by decide +kernel))
theorem dL_law_924 : decode cL_law 924 = .ok (.iconst 1, 1) := bq_o4 (bq_of bwL_law_896 28 (by decide +kernel))
theorem dL_law_925 : decode cL_law 925 = .ok (.iadd, 1) := bq_o96 (bq_of bwL_law_896 29 (by decide +kernel))
theorem dL_law_926 : decode cL_law 926 = .ok (.iaload, 1) := bq_o46 (bq_of bwL_law_896 30 (by decide +kernel))
theorem dL_law_927 : decode cL_law 927 = .ok (.aload_n 0, 1) := bq_o42 (bq_of bwL_law_896 31 (by decide +kernel))
theorem dL_law_928 : decode cL_law 928 = .ok (.iload_n 3, 1) := bq_o29 (bq_of bwL_law_896 32 (by decide +kernel))
theorem dL_law_929 : decode cL_law 929 = .ok (.iconst 2, 1) := bq_o5 (bq_of bwL_law_896 33 (by decide +kernel))
theorem dL_law_930 : decode cL_law 930 = .ok (.iadd, 1) := bq_o96 (bq_of bwL_law_896 34 (by decide +kernel))
theorem dL_law_931 : decode cL_law 931 = .ok (.iaload, 1) := bq_o46 (bq_of bwL_law_896 35 (by decide +kernel))
theorem dL_law_932 : decode cL_law 932 = .ok (.invokevirtual 105, 3) := bq_o182 (a := 0) (b := 105) (bq_3 bwL_law_896 36 (by decide +kernel)) rfl
theorem dL_law_935 : decode cL_law 935 = .ok (.pop, 1) := bq_o87 (bq_of bwL_law_896 39 (by decide +kernel))
theorem dL_law_936 : decode cL_law 936 = .ok (.goto 631, 3) := bq_o167 (a := 2) (b := 119) (bq_3 bwL_law_896 40 (by decide +kernel)) (by decide +kernel)
theorem dL_law_939 : decode cL_law 939 = .ok (.aload_n 1, 1) := bq_o43 (bq_of bwL_law_896 43 (by decide +kernel))
theorem dL_law_940 : decode cL_law 940 = .ok (.aload_n 0, 1) := bq_o42 (bq_of bwL_law_896 44 (by decide +kernel))
theorem dL_law_941 : decode cL_law 941 = .ok (.iload_n 3, 1) := bq_o29 (bq_of bwL_law_896 45 (by decide +kernel))
theorem dL_law_942 : decode cL_law 942 = .ok (.iconst 1, 1) := bq_o4 (bq_of bwL_law_896 46 (by decide +kernel))
theorem dL_law_943 : decode cL_law 943 = .ok (.iadd, 1) := bq_o96 (bq_of bwL_law_896 47 (by decide +kernel))
theorem dL_law_944 : decode cL_law 944 = .ok (.iaload, 1) := bq_o46 (bq_of bwL_law_896 48 (by decide +kernel))
theorem dL_law_945 : decode cL_law 945 = .ok (.aload_n 0, 1) := bq_o42 (bq_of bwL_law_896 49 (by decide +kernel))
theorem dL_law_946 : decode cL_law 946 = .ok (.iload_n 3, 1) := bq_o29 (bq_of bwL_law_896 50 (by decide +kernel))
theorem dL_law_947 : decode cL_law 947 = .ok (.iconst 2, 1) := bq_o5 (bq_of bwL_law_896 51 (by decide +kernel))
theorem dL_law_948 : decode cL_law 948 = .ok (.iadd, 1) := bq_o96 (bq_of bwL_law_896 52 (by decide +kernel))
theorem dL_law_949 : decode cL_law 949 = .ok (.iaload, 1) := bq_o46 (bq_of bwL_law_896 53 (by decide +kernel))
theorem dL_law_950 : decode cL_law 950 = .ok (.aload_n 0, 1) := bq_o42 (bq_of bwL_law_896 54 (by decide +kernel))
theorem dL_law_951 : decode cL_law 951 = .ok (.iload_n 3, 1) := bq_o29 (bq_of bwL_law_896 55 (by decide +kernel))
theorem dL_law_952 : decode cL_law 952 = .ok (.iconst 3, 1) := bq_o6 (bq_of bwL_law_896 56 (by decide +kernel))
theorem dL_law_953 : decode cL_law 953 = .ok (.iadd, 1) := bq_o96 (bq_of bwL_law_896 57 (by decide +kernel))
theorem dL_law_954 : decode cL_law 954 = .ok (.iaload, 1) := bq_o46 (bq_of bwL_law_896 58 (by decide +kernel))
theorem dL_law_955 : decode cL_law 955 = .ok (.invokevirtual 106, 3) := bq_o182 (a := 0) (b := 106) (bq_3 bwL_law_896 59 (by decide +kernel)) rfl
theorem dL_law_958 : decode cL_law 958 = .ok (.pop, 1) := bq_o87 (bq_of bwL_law_896 62 (by decide +kernel))
theorem dL_law_959 : decode cL_law 959 = .ok (.aload_n 2, 1) := bq_o44 (bq_of bwL_law_896 63 (by decide +kernel))
def bwL_law_960l : List Nat := [42, 29, 4, 96, 46, 42, 29, 5, 96, 46, 42, 29, 6, 96, 46, 182, 0, 109, 87, 167, 2, 76, 43, 42, 29, 4, 96, 46, 182, 0, 110, 87, 44, 42, 29, 4, 96, 46, 182, 0, 113, 87, 167, 2, 53, 43, 42, 29, 4, 96, 46, 42, 29, 5, 96, 46, 182, 0, 114, 87, 44, 42, 29, 4, 96, 46]
theorem bwL_law_960 : ((cL_law.data.toList.drop 960).take 66).map UInt8.toNat = bwL_law_960l := by decide +kernel
theorem dL_law_960 : decode cL_law 960 = .ok (.aload_n 0, 1) := bq_o42 (bq_of bwL_law_960 0 (by decide +kernel))
theorem dL_law_961 : decode cL_law 961 = .ok (.iload_n 3, 1) := bq_o29 (bq_of bwL_law_960 1 (by decide +kernel))
theorem dL_law_962 : decode cL_law 962 = .ok (.iconst 1, 1) := bq_o4 (bq_of bwL_law_960 2 (by decide +kernel))
theorem dL_law_963 : decode cL_law 963 = .ok (.iadd, 1) := bq_o96 (bq_of bwL_law_960 3 (by decide +kernel))
theorem dL_law_964 : decode cL_law 964 = .ok (.iaload, 1) := bq_o46 (bq_of bwL_law_960 4 (by decide +kernel))
theorem dL_law_965 : decode cL_law 965 = .ok (.aload_n 0, 1) := bq_o42 (bq_of bwL_law_960 5 (by decide +kernel))
theorem dL_law_966 : decode cL_law 966 = .ok (.iload_n 3, 1) := bq_o29 (bq_of bwL_law_960 6 (by decide +kernel))
theorem dL_law_967 : decode cL_law 967 = .ok (.iconst 2, 1) := bq_o5 (bq_of bwL_law_960 7 (by decide +kernel))
theorem dL_law_968 : decode cL_law 968 = .ok (.iadd, 1) := bq_o96 (bq_of bwL_law_960 8 (by decide +kernel))
theorem dL_law_969 : decode cL_law 969 = .ok (.iaload, 1) := bq_o46 (bq_of bwL_law_960 9 (by decide +kernel))
theorem dL_law_970 : decode cL_law 970 = .ok (.aload_n 0, 1) := bq_o42 (bq_of bwL_law_960 10 (by decide +kernel))
theorem dL_law_971 : decode cL_law 971 = .ok (.iload_n 3, 1) := bq_o29 (bq_of bwL_law_960 11 (by decide +kernel))
theorem dL_law_972 : decode cL_law 972 = .ok (.iconst 3, 1) := bq_o6 (bq_of bwL_law_960 12 (by decide +kernel))
theorem dL_law_973 : decode cL_law 973 = .ok (.iadd, 1) := bq_o96 (bq_of bwL_law_960 13 (by decide +kernel))
theorem dL_law_974 : decode cL_law 974 = .ok (.iaload, 1) := bq_o46 (bq_of bwL_law_960 14 (by decide +kernel))
theorem dL_law_975 : decode cL_law 975 = .ok (.invokevirtual 109, 3) := bq_o182 (a := 0) (b := 109) (bq_3 bwL_law_960 15 (by decide +kernel)) rfl
theorem dL_law_978 : decode cL_law 978 = .ok (.pop, 1) := bq_o87 (bq_of bwL_law_960 18 (by decide +kernel))
theorem dL_law_979 : decode cL_law 979 = .ok (.goto 588, 3) := bq_o167 (a := 2) (b := 76) (bq_3 bwL_law_960 19 (by decide +kernel)) (by decide +kernel)
theorem dL_law_982 : decode cL_law 982 = .ok (.aload_n 1, 1) := bq_o43 (bq_of bwL_law_960 22 (by decide +kernel))
theorem dL_law_983 : decode cL_law 983 = .ok (.aload_n 0, 1) := bq_o42 (bq_of bwL_law_960 23 (by decide +kernel))
theorem dL_law_984 : decode cL_law 984 = .ok (.iload_n 3, 1) := bq_o29 (bq_of bwL_law_960 24 (by decide +kernel))
theorem dL_law_985 : decode cL_law 985 = .ok (.iconst 1, 1) := bq_o4 (bq_of bwL_law_960 25 (by decide +kernel))
theorem dL_law_986 : decode cL_law 986 = .ok (.iadd, 1) := bq_o96 (bq_of bwL_law_960 26 (by decide +kernel))
theorem dL_law_987 : decode cL_law 987 = .ok (.iaload, 1) := bq_o46 (bq_of bwL_law_960 27 (by decide +kernel))
theorem dL_law_988 : decode cL_law 988 = .ok (.invokevirtual 110, 3) := bq_o182 (a := 0) (b := 110) (bq_3 bwL_law_960 28 (by decide +kernel)) rfl
theorem dL_law_991 : decode cL_law 991 = .ok (.pop, 1) := bq_o87 (bq_of bwL_law_960 31 (by decide +kernel))
theorem dL_law_992 : decode cL_law 992 = .ok (.aload_n 2, 1) := bq_o44 (bq_of bwL_law_960 32 (by decide +kernel))
theorem dL_law_993 : decode cL_law 993 = .ok (.aload_n 0, 1) := bq_o42 (bq_of bwL_law_960 33 (by decide +kernel))
theorem dL_law_994 : decode cL_law 994 = .ok (.iload_n 3, 1) := bq_o29 (bq_of bwL_law_960 34 (by decide +kernel))
theorem dL_law_995 : decode cL_law 995 = .ok (.iconst 1, 1) := bq_o4 (bq_of bwL_law_960 35 (by decide +kernel))
theorem dL_law_996 : decode cL_law 996 = .ok (.iadd, 1) := bq_o96 (bq_of bwL_law_960 36 (by decide +kernel))
theorem dL_law_997 : decode cL_law 997 = .ok (.iaload, 1) := bq_o46 (bq_of bwL_law_960 37 (by decide +kernel))
theorem dL_law_998 : decode cL_law 998 = .ok (.invokevirtual 113, 3) := bq_o182 (a := 0) (b := 113) (bq_3 bwL_law_960 38 (by decide +kernel)) rfl
theorem dL_law_1001 : decode cL_law 1001 = .ok (.pop, 1) := bq_o87 (bq_of bwL_law_960 41 (by decide +kernel))
theorem dL_law_1002 : decode cL_law 1002 = .ok (.goto 565, 3) := bq_o167 (a := 2) (b := 53) (bq_3 bwL_law_960 42 (by decide +kernel)) (by decide +kernel)
theorem dL_law_1005 : decode cL_law 1005 = .ok (.aload_n 1, 1) := bq_o43 (bq_of bwL_law_960 45 (by decide +kernel))
theorem dL_law_1006 : decode cL_law 1006 = .ok (.aload_n 0, 1) := bq_o42 (bq_of bwL_law_960 46 (by decide +kernel))
theorem dL_law_1007 : decode cL_law 1007 = .ok (.iload_n 3, 1) := bq_o29 (bq_of bwL_law_960 47 (by decide +kernel))
theorem dL_law_1008 : decode cL_law 1008 = .ok (.iconst 1, 1) := bq_o4 (bq_of bwL_law_960 48 (by decide +kernel))
theorem dL_law_1009 : decode cL_law 1009 = .ok (.iadd, 1) := bq_o96 (bq_of bwL_law_960 49 (by decide +kernel))
theorem dL_law_1010 : decode cL_law 1010 = .ok (.iaload, 1) := bq_o46 (bq_of bwL_law_960 50 (by decide +kernel))
theorem dL_law_1011 : decode cL_law 1011 = .ok (.aload_n 0, 1) := bq_o42 (bq_of bwL_law_960 51 (by decide +kernel))
theorem dL_law_1012 : decode cL_law 1012 = .ok (.iload_n 3, 1) := bq_o29 (bq_of bwL_law_960 52 (by decide +kernel))
theorem dL_law_1013 : decode cL_law 1013 = .ok (.iconst 2, 1) := bq_o5 (bq_of bwL_law_960 53 (by decide +kernel))
theorem dL_law_1014 : decode cL_law 1014 = .ok (.iadd, 1) := bq_o96 (bq_of bwL_law_960 54 (by decide +kernel))
theorem dL_law_1015 : decode cL_law 1015 = .ok (.iaload, 1) := bq_o46 (bq_of bwL_law_960 55 (by decide +kernel))
theorem dL_law_1016 : decode cL_law 1016 = .ok (.invokevirtual 114, 3) := bq_o182 (a := 0) (b := 114) (bq_3 bwL_law_960 56 (by decide +kernel)) rfl
theorem dL_law_1019 : decode cL_law 1019 = .ok (.pop, 1) := bq_o87 (bq_of bwL_law_960 59 (by decide +kernel))
theorem dL_law_1020 : decode cL_law 1020 = .ok (.aload_n 2, 1) := bq_o44 (bq_of bwL_law_960 60 (by decide +kernel))
theorem dL_law_1021 : decode cL_law 1021 = .ok (.aload_n 0, 1) := bq_o42 (bq_of bwL_law_960 61 (by decide +kernel))
theorem dL_law_1022 : decode cL_law 1022 = .ok (.iload_n 3, 1) := bq_o29 (bq_of bwL_law_960 62 (by decide +kernel))
theorem dL_law_1023 : decode cL_law 1023 = .ok (.iconst 1, 1) := bq_o4 (bq_of bwL_law_960 63 (by decide +kernel))
def bwL_law_1024l : List Nat := [96, 46, 42, 29, 5, 96, 46, 182, 0, 117, 87, 167, 2, 20, 43, 42, 29, 4, 96, 46, 182, 0, 118, 87, 44, 42, 29, 4, 96, 46, 182, 0, 121, 87, 167, 1, 253, 43, 42, 29, 4, 96, 46, 42, 29, 5, 96, 46, 182, 0, 122, 87, 44, 42, 29, 4, 96, 46, 42, 29, 5, 96, 46, 182, 0, 125]
theorem bwL_law_1024 : ((cL_law.data.toList.drop 1024).take 66).map UInt8.toNat = bwL_law_1024l := by decide +kernel
theorem dL_law_1024 : decode cL_law 1024 = .ok (.iadd, 1) := bq_o96 (bq_of bwL_law_1024 0 (by decide +kernel))
theorem dL_law_1025 : decode cL_law 1025 = .ok (.iaload, 1) := bq_o46 (bq_of bwL_law_1024 1 (by decide +kernel))
theorem dL_law_1026 : decode cL_law 1026 = .ok (.aload_n 0, 1) := bq_o42 (bq_of bwL_law_1024 2 (by decide +kernel))
theorem dL_law_1027 : decode cL_law 1027 = .ok (.iload_n 3, 1) := bq_o29 (bq_of bwL_law_1024 3 (by decide +kernel))
theorem dL_law_1028 : decode cL_law 1028 = .ok (.iconst 2, 1) := bq_o5 (bq_of bwL_law_1024 4 (by decide +kernel))
theorem dL_law_1029 : decode cL_law 1029 = .ok (.iadd, 1) := bq_o96 (bq_of bwL_law_1024 5 (by decide +kernel))
theorem dL_law_1030 : decode cL_law 1030 = .ok (.iaload, 1) := bq_o46 (bq_of bwL_law_1024 6 (by decide +kernel))
theorem dL_law_1031 : decode cL_law 1031 = .ok (.invokevirtual 117, 3) := bq_o182 (a := 0) (b := 117) (bq_3 bwL_law_1024 7 (by decide +kernel)) rfl
theorem dL_law_1034 : decode cL_law 1034 = .ok (.pop, 1) := bq_o87 (bq_of bwL_law_1024 10 (by decide +kernel))
theorem dL_law_1035 : decode cL_law 1035 = .ok (.goto 532, 3) := bq_o167 (a := 2) (b := 20) (bq_3 bwL_law_1024 11 (by decide +kernel)) (by decide +kernel)
theorem dL_law_1038 : decode cL_law 1038 = .ok (.aload_n 1, 1) := bq_o43 (bq_of bwL_law_1024 14 (by decide +kernel))
theorem dL_law_1039 : decode cL_law 1039 = .ok (.aload_n 0, 1) := bq_o42 (bq_of bwL_law_1024 15 (by decide +kernel))
theorem dL_law_1040 : decode cL_law 1040 = .ok (.iload_n 3, 1) := bq_o29 (bq_of bwL_law_1024 16 (by decide +kernel))
theorem dL_law_1041 : decode cL_law 1041 = .ok (.iconst 1, 1) := bq_o4 (bq_of bwL_law_1024 17 (by decide +kernel))
theorem dL_law_1042 : decode cL_law 1042 = .ok (.iadd, 1) := bq_o96 (bq_of bwL_law_1024 18 (by decide +kernel))
theorem dL_law_1043 : decode cL_law 1043 = .ok (.iaload, 1) := bq_o46 (bq_of bwL_law_1024 19 (by decide +kernel))
theorem dL_law_1044 : decode cL_law 1044 = .ok (.invokevirtual 118, 3) := bq_o182 (a := 0) (b := 118) (bq_3 bwL_law_1024 20 (by decide +kernel)) rfl
theorem dL_law_1047 : decode cL_law 1047 = .ok (.pop, 1) := bq_o87 (bq_of bwL_law_1024 23 (by decide +kernel))
theorem dL_law_1048 : decode cL_law 1048 = .ok (.aload_n 2, 1) := bq_o44 (bq_of bwL_law_1024 24 (by decide +kernel))
theorem dL_law_1049 : decode cL_law 1049 = .ok (.aload_n 0, 1) := bq_o42 (bq_of bwL_law_1024 25 (by decide +kernel))
theorem dL_law_1050 : decode cL_law 1050 = .ok (.iload_n 3, 1) := bq_o29 (bq_of bwL_law_1024 26 (by decide +kernel))
theorem dL_law_1051 : decode cL_law 1051 = .ok (.iconst 1, 1) := bq_o4 (bq_of bwL_law_1024 27 (by decide +kernel))
theorem dL_law_1052 : decode cL_law 1052 = .ok (.iadd, 1) := bq_o96 (bq_of bwL_law_1024 28 (by decide +kernel))
theorem dL_law_1053 : decode cL_law 1053 = .ok (.iaload, 1) := bq_o46 (bq_of bwL_law_1024 29 (by decide +kernel))
theorem dL_law_1054 : decode cL_law 1054 = .ok (.invokevirtual 121, 3) := bq_o182 (a := 0) (b := 121) (bq_3 bwL_law_1024 30 (by decide +kernel)) rfl
theorem dL_law_1057 : decode cL_law 1057 = .ok (.pop, 1) := bq_o87 (bq_of bwL_law_1024 33 (by decide +kernel))
theorem dL_law_1058 : decode cL_law 1058 = .ok (.goto 509, 3) := bq_o167 (a := 1) (b := 253) (bq_3 bwL_law_1024 34 (by decide +kernel)) (by decide +kernel)
theorem dL_law_1061 : decode cL_law 1061 = .ok (.aload_n 1, 1) := bq_o43 (bq_of bwL_law_1024 37 (by decide +kernel))
theorem dL_law_1062 : decode cL_law 1062 = .ok (.aload_n 0, 1) := bq_o42 (bq_of bwL_law_1024 38 (by decide +kernel))
theorem dL_law_1063 : decode cL_law 1063 = .ok (.iload_n 3, 1) := bq_o29 (bq_of bwL_law_1024 39 (by decide +kernel))
theorem dL_law_1064 : decode cL_law 1064 = .ok (.iconst 1, 1) := bq_o4 (bq_of bwL_law_1024 40 (by decide +kernel))
theorem dL_law_1065 : decode cL_law 1065 = .ok (.iadd, 1) := bq_o96 (bq_of bwL_law_1024 41 (by decide +kernel))
theorem dL_law_1066 : decode cL_law 1066 = .ok (.iaload, 1) := bq_o46 (bq_of bwL_law_1024 42 (by decide +kernel))
theorem dL_law_1067 : decode cL_law 1067 = .ok (.aload_n 0, 1) := bq_o42 (bq_of bwL_law_1024 43 (by decide +kernel))
theorem dL_law_1068 : decode cL_law 1068 = .ok (.iload_n 3, 1) := bq_o29 (bq_of bwL_law_1024 44 (by decide +kernel))
theorem dL_law_1069 : decode cL_law 1069 = .ok (.iconst 2, 1) := bq_o5 (bq_of bwL_law_1024 45 (by decide +kernel))
theorem dL_law_1070 : decode cL_law 1070 = .ok (.iadd, 1) := bq_o96 (bq_of bwL_law_1024 46 (by decide +kernel))
theorem dL_law_1071 : decode cL_law 1071 = .ok (.iaload, 1) := bq_o46 (bq_of bwL_law_1024 47 (by decide +kernel))
theorem dL_law_1072 : decode cL_law 1072 = .ok (.invokevirtual 122, 3) := bq_o182 (a := 0) (b := 122) (bq_3 bwL_law_1024 48 (by decide +kernel)) rfl
theorem dL_law_1075 : decode cL_law 1075 = .ok (.pop, 1) := bq_o87 (bq_of bwL_law_1024 51 (by decide +kernel))
theorem dL_law_1076 : decode cL_law 1076 = .ok (.aload_n 2, 1) := bq_o44 (bq_of bwL_law_1024 52 (by decide +kernel))
theorem dL_law_1077 : decode cL_law 1077 = .ok (.aload_n 0, 1) := bq_o42 (bq_of bwL_law_1024 53 (by decide +kernel))
theorem dL_law_1078 : decode cL_law 1078 = .ok (.iload_n 3, 1) := bq_o29 (bq_of bwL_law_1024 54 (by decide +kernel))
theorem dL_law_1079 : decode cL_law 1079 = .ok (.iconst 1, 1) := bq_o4 (bq_of bwL_law_1024 55 (by decide +kernel))
theorem dL_law_1080 : decode cL_law 1080 = .ok (.iadd, 1) := bq_o96 (bq_of bwL_law_1024 56 (by decide +kernel))
theorem dL_law_1081 : decode cL_law 1081 = .ok (.iaload, 1) := bq_o46 (bq_of bwL_law_1024 57 (by decide +kernel))
theorem dL_law_1082 : decode cL_law 1082 = .ok (.aload_n 0, 1) := bq_o42 (bq_of bwL_law_1024 58 (by decide +kernel))
theorem dL_law_1083 : decode cL_law 1083 = .ok (.iload_n 3, 1) := bq_o29 (bq_of bwL_law_1024 59 (by decide +kernel))
theorem dL_law_1084 : decode cL_law 1084 = .ok (.iconst 2, 1) := bq_o5 (bq_of bwL_law_1024 60 (by decide +kernel))
theorem dL_law_1085 : decode cL_law 1085 = .ok (.iadd, 1) := bq_o96 (bq_of bwL_law_1024 61 (by decide +kernel))
theorem dL_law_1086 : decode cL_law 1086 = .ok (.iaload, 1) := bq_o46 (bq_of bwL_law_1024 62 (by decide +kernel))
theorem dL_law_1087 : decode cL_law 1087 = .ok (.invokevirtual 125, 3) := bq_o182 (a := 0) (b := 125) (bq_3 bwL_law_1024 63 (by decide +kernel)) rfl
def bwL_law_1088l : List Nat := [0, 125, 87, 167, 1, 220, 43, 42, 29, 4, 96, 46, 182, 0, 126, 87, 44, 42, 29, 4, 96, 46, 182, 0, 129, 87, 167, 1, 197, 43, 182, 0, 130, 87, 44, 182, 0, 133, 87, 167, 1, 184, 43, 42, 29, 4, 96, 46, 182, 0, 134, 87, 44, 42, 29, 4, 96, 46, 182, 0, 137, 87, 167, 1, 161, 43]
theorem bwL_law_1088 : ((cL_law.data.toList.drop 1088).take 66).map UInt8.toNat = bwL_law_1088l := by decide +kernel
theorem dL_law_1090 : decode cL_law 1090 = .ok (.pop, 1) := bq_o87 (bq_of bwL_law_1088 2 (by decide +kernel))
theorem dL_law_1091 : decode cL_law 1091 = .ok (.goto 476, 3) := bq_o167 (a := 1) (b := 220) (bq_3 bwL_law_1088 3 (by decide +kernel)) (by decide +kernel)
theorem dL_law_1094 : decode cL_law 1094 = .ok (.aload_n 1, 1) := bq_o43 (bq_of bwL_law_1088 6 (by decide +kernel))
theorem dL_law_1095 : decode cL_law 1095 = .ok (.aload_n 0, 1) := bq_o42 (bq_of bwL_law_1088 7 (by decide +kernel))
theorem dL_law_1096 : decode cL_law 1096 = .ok (.iload_n 3, 1) := bq_o29 (bq_of bwL_law_1088 8 (by decide +kernel))
theorem dL_law_1097 : decode cL_law 1097 = .ok (.iconst 1, 1) := bq_o4 (bq_of bwL_law_1088 9 (by decide +kernel))
theorem dL_law_1098 : decode cL_law 1098 = .ok (.iadd, 1) := bq_o96 (bq_of bwL_law_1088 10 (by decide +kernel))
theorem dL_law_1099 : decode cL_law 1099 = .ok (.iaload, 1) := bq_o46 (bq_of bwL_law_1088 11 (by decide +kernel))
theorem dL_law_1100 : decode cL_law 1100 = .ok (.invokevirtual 126, 3) := bq_o182 (a := 0) (b := 126) (bq_3 bwL_law_1088 12 (by decide +kernel)) rfl
theorem dL_law_1103 : decode cL_law 1103 = .ok (.pop, 1) := bq_o87 (bq_of bwL_law_1088 15 (by decide +kernel))
theorem dL_law_1104 : decode cL_law 1104 = .ok (.aload_n 2, 1) := bq_o44 (bq_of bwL_law_1088 16 (by decide +kernel))
theorem dL_law_1105 : decode cL_law 1105 = .ok (.aload_n 0, 1) := bq_o42 (bq_of bwL_law_1088 17 (by decide +kernel))
theorem dL_law_1106 : decode cL_law 1106 = .ok (.iload_n 3, 1) := bq_o29 (bq_of bwL_law_1088 18 (by decide +kernel))
theorem dL_law_1107 : decode cL_law 1107 = .ok (.iconst 1, 1) := bq_o4 (bq_of bwL_law_1088 19 (by decide +kernel))
theorem dL_law_1108 : decode cL_law 1108 = .ok (.iadd, 1) := bq_o96 (bq_of bwL_law_1088 20 (by decide +kernel))
theorem dL_law_1109 : decode cL_law 1109 = .ok (.iaload, 1) := bq_o46 (bq_of bwL_law_1088 21 (by decide +kernel))
theorem dL_law_1110 : decode cL_law 1110 = .ok (.invokevirtual 129, 3) := bq_o182 (a := 0) (b := 129) (bq_3 bwL_law_1088 22 (by decide +kernel)) rfl
theorem dL_law_1113 : decode cL_law 1113 = .ok (.pop, 1) := bq_o87 (bq_of bwL_law_1088 25 (by decide +kernel))
theorem dL_law_1114 : decode cL_law 1114 = .ok (.goto 453, 3) := bq_o167 (a := 1) (b := 197) (bq_3 bwL_law_1088 26 (by decide +kernel)) (by decide +kernel)
theorem dL_law_1117 : decode cL_law 1117 = .ok (.aload_n 1, 1) := bq_o43 (bq_of bwL_law_1088 29 (by decide +kernel))
theorem dL_law_1118 : decode cL_law 1118 = .ok (.invokevirtual 130, 3) := bq_o182 (a := 0) (b := 130) (bq_3 bwL_law_1088 30 (by decide +kernel)) rfl
theorem dL_law_1121 : decode cL_law 1121 = .ok (.pop, 1) := bq_o87 (bq_of bwL_law_1088 33 (by decide +kernel))
theorem dL_law_1122 : decode cL_law 1122 = .ok (.aload_n 2, 1) := bq_o44 (bq_of bwL_law_1088 34 (by decide +kernel))
theorem dL_law_1123 : decode cL_law 1123 = .ok (.invokevirtual 133, 3) := bq_o182 (a := 0) (b := 133) (bq_3 bwL_law_1088 35 (by decide +kernel)) rfl
theorem dL_law_1126 : decode cL_law 1126 = .ok (.pop, 1) := bq_o87 (bq_of bwL_law_1088 38 (by decide +kernel))
theorem dL_law_1127 : decode cL_law 1127 = .ok (.goto 440, 3) := bq_o167 (a := 1) (b := 184) (bq_3 bwL_law_1088 39 (by decide +kernel)) (by decide +kernel)
theorem dL_law_1130 : decode cL_law 1130 = .ok (.aload_n 1, 1) := bq_o43 (bq_of bwL_law_1088 42 (by decide +kernel))
theorem dL_law_1131 : decode cL_law 1131 = .ok (.aload_n 0, 1) := bq_o42 (bq_of bwL_law_1088 43 (by decide +kernel))
theorem dL_law_1132 : decode cL_law 1132 = .ok (.iload_n 3, 1) := bq_o29 (bq_of bwL_law_1088 44 (by decide +kernel))
theorem dL_law_1133 : decode cL_law 1133 = .ok (.iconst 1, 1) := bq_o4 (bq_of bwL_law_1088 45 (by decide +kernel))
theorem dL_law_1134 : decode cL_law 1134 = .ok (.iadd, 1) := bq_o96 (bq_of bwL_law_1088 46 (by decide +kernel))
theorem dL_law_1135 : decode cL_law 1135 = .ok (.iaload, 1) := bq_o46 (bq_of bwL_law_1088 47 (by decide +kernel))
theorem dL_law_1136 : decode cL_law 1136 = .ok (.invokevirtual 134, 3) := bq_o182 (a := 0) (b := 134) (bq_3 bwL_law_1088 48 (by decide +kernel)) rfl
theorem dL_law_1139 : decode cL_law 1139 = .ok (.pop, 1) := bq_o87 (bq_of bwL_law_1088 51 (by decide +kernel))
theorem dL_law_1140 : decode cL_law 1140 = .ok (.aload_n 2, 1) := bq_o44 (bq_of bwL_law_1088 52 (by decide +kernel))
theorem dL_law_1141 : decode cL_law 1141 = .ok (.aload_n 0, 1) := bq_o42 (bq_of bwL_law_1088 53 (by decide +kernel))
theorem dL_law_1142 : decode cL_law 1142 = .ok (.iload_n 3, 1) := bq_o29 (bq_of bwL_law_1088 54 (by decide +kernel))
theorem dL_law_1143 : decode cL_law 1143 = .ok (.iconst 1, 1) := bq_o4 (bq_of bwL_law_1088 55 (by decide +kernel))
theorem dL_law_1144 : decode cL_law 1144 = .ok (.iadd, 1) := bq_o96 (bq_of bwL_law_1088 56 (by decide +kernel))
theorem dL_law_1145 : decode cL_law 1145 = .ok (.iaload, 1) := bq_o46 (bq_of bwL_law_1088 57 (by decide +kernel))
theorem dL_law_1146 : decode cL_law 1146 = .ok (.invokevirtual 137, 3) := bq_o182 (a := 0) (b := 137) (bq_3 bwL_law_1088 58 (by decide +kernel)) rfl
theorem dL_law_1149 : decode cL_law 1149 = .ok (.pop, 1) := bq_o87 (bq_of bwL_law_1088 61 (by decide +kernel))
theorem dL_law_1150 : decode cL_law 1150 = .ok (.goto 417, 3) := bq_o167 (a := 1) (b := 161) (bq_3 bwL_law_1088 62 (by decide +kernel)) (by decide +kernel)
def bwL_law_1152l : List Nat := [161, 43, 42, 29, 4, 96, 46, 182, 0, 138, 87, 44, 42, 29, 4, 96, 46, 182, 0, 141, 87, 167, 1, 138, 43, 182, 0, 142, 87, 44, 182, 0, 145, 87, 167, 1, 125, 43, 42, 29, 4, 96, 46, 182, 0, 146, 87, 44, 42, 29, 4, 96, 46, 182, 0, 149, 87, 167, 1, 102, 43, 42, 29, 4, 96, 46]
theorem bwL_law_1152 : ((cL_law.data.toList.drop 1152).take 66).map UInt8.toNat = bwL_law_1152l := by decide +kernel
theorem dL_law_1153 : decode cL_law 1153 = .ok (.aload_n 1, 1) := bq_o43 (bq_of bwL_law_1152 1 (by decide +kernel))
theorem dL_law_1154 : decode cL_law 1154 = .ok (.aload_n 0, 1) := bq_o42 (bq_of bwL_law_1152 2 (by decide +kernel))
theorem dL_law_1155 : decode cL_law 1155 = .ok (.iload_n 3, 1) := bq_o29 (bq_of bwL_law_1152 3 (by decide +kernel))
theorem dL_law_1156 : decode cL_law 1156 = .ok (.iconst 1, 1) := bq_o4 (bq_of bwL_law_1152 4 (by decide +kernel))
theorem dL_law_1157 : decode cL_law 1157 = .ok (.iadd, 1) := bq_o96 (bq_of bwL_law_1152 5 (by decide +kernel))
theorem dL_law_1158 : decode cL_law 1158 = .ok (.iaload, 1) := bq_o46 (bq_of bwL_law_1152 6 (by decide +kernel))
theorem dL_law_1159 : decode cL_law 1159 = .ok (.invokevirtual 138, 3) := bq_o182 (a := 0) (b := 138) (bq_3 bwL_law_1152 7 (by decide +kernel)) rfl
theorem dL_law_1162 : decode cL_law 1162 = .ok (.pop, 1) := bq_o87 (bq_of bwL_law_1152 10 (by decide +kernel))
theorem dL_law_1163 : decode cL_law 1163 = .ok (.aload_n 2, 1) := bq_o44 (bq_of bwL_law_1152 11 (by decide +kernel))
theorem dL_law_1164 : decode cL_law 1164 = .ok (.aload_n 0, 1) := bq_o42 (bq_of bwL_law_1152 12 (by decide +kernel))
theorem dL_law_1165 : decode cL_law 1165 = .ok (.iload_n 3, 1) := bq_o29 (bq_of bwL_law_1152 13 (by decide +kernel))
theorem dL_law_1166 : decode cL_law 1166 = .ok (.iconst 1, 1) := bq_o4 (bq_of bwL_law_1152 14 (by decide +kernel))
theorem dL_law_1167 : decode cL_law 1167 = .ok (.iadd, 1) := bq_o96 (bq_of bwL_law_1152 15 (by decide +kernel))
theorem dL_law_1168 : decode cL_law 1168 = .ok (.iaload, 1) := bq_o46 (bq_of bwL_law_1152 16 (by decide +kernel))
theorem dL_law_1169 : decode cL_law 1169 = .ok (.invokevirtual 141, 3) := bq_o182 (a := 0) (b := 141) (bq_3 bwL_law_1152 17 (by decide +kernel)) rfl
theorem dL_law_1172 : decode cL_law 1172 = .ok (.pop, 1) := bq_o87 (bq_of bwL_law_1152 20 (by decide +kernel))
theorem dL_law_1173 : decode cL_law 1173 = .ok (.goto 394, 3) := bq_o167 (a := 1) (b := 138) (bq_3 bwL_law_1152 21 (by decide +kernel)) (by decide +kernel)
theorem dL_law_1176 : decode cL_law 1176 = .ok (.aload_n 1, 1) := bq_o43 (bq_of bwL_law_1152 24 (by decide +kernel))
theorem dL_law_1177 : decode cL_law 1177 = .ok (.invokevirtual 142, 3) := bq_o182 (a := 0) (b := 142) (bq_3 bwL_law_1152 25 (by decide +kernel)) rfl
theorem dL_law_1180 : decode cL_law 1180 = .ok (.pop, 1) := bq_o87 (bq_of bwL_law_1152 28 (by decide +kernel))
theorem dL_law_1181 : decode cL_law 1181 = .ok (.aload_n 2, 1) := bq_o44 (bq_of bwL_law_1152 29 (by decide +kernel))
theorem dL_law_1182 : decode cL_law 1182 = .ok (.invokevirtual 145, 3) := bq_o182 (a := 0) (b := 145) (bq_3 bwL_law_1152 30 (by decide +kernel)) rfl
theorem dL_law_1185 : decode cL_law 1185 = .ok (.pop, 1) := bq_o87 (bq_of bwL_law_1152 33 (by decide +kernel))
theorem dL_law_1186 : decode cL_law 1186 = .ok (.goto 381, 3) := bq_o167 (a := 1) (b := 125) (bq_3 bwL_law_1152 34 (by decide +kernel)) (by decide +kernel)
theorem dL_law_1189 : decode cL_law 1189 = .ok (.aload_n 1, 1) := bq_o43 (bq_of bwL_law_1152 37 (by decide +kernel))
theorem dL_law_1190 : decode cL_law 1190 = .ok (.aload_n 0, 1) := bq_o42 (bq_of bwL_law_1152 38 (by decide +kernel))
theorem dL_law_1191 : decode cL_law 1191 = .ok (.iload_n 3, 1) := bq_o29 (bq_of bwL_law_1152 39 (by decide +kernel))
theorem dL_law_1192 : decode cL_law 1192 = .ok (.iconst 1, 1) := bq_o4 (bq_of bwL_law_1152 40 (by decide +kernel))
theorem dL_law_1193 : decode cL_law 1193 = .ok (.iadd, 1) := bq_o96 (bq_of bwL_law_1152 41 (by decide +kernel))
theorem dL_law_1194 : decode cL_law 1194 = .ok (.iaload, 1) := bq_o46 (bq_of bwL_law_1152 42 (by decide +kernel))
theorem dL_law_1195 : decode cL_law 1195 = .ok (.invokevirtual 146, 3) := bq_o182 (a := 0) (b := 146) (bq_3 bwL_law_1152 43 (by decide +kernel)) rfl
theorem dL_law_1198 : decode cL_law 1198 = .ok (.pop, 1) := bq_o87 (bq_of bwL_law_1152 46 (by decide +kernel))
theorem dL_law_1199 : decode cL_law 1199 = .ok (.aload_n 2, 1) := bq_o44 (bq_of bwL_law_1152 47 (by decide +kernel))
theorem dL_law_1200 : decode cL_law 1200 = .ok (.aload_n 0, 1) := bq_o42 (bq_of bwL_law_1152 48 (by decide +kernel))
theorem dL_law_1201 : decode cL_law 1201 = .ok (.iload_n 3, 1) := bq_o29 (bq_of bwL_law_1152 49 (by decide +kernel))
theorem dL_law_1202 : decode cL_law 1202 = .ok (.iconst 1, 1) := bq_o4 (bq_of bwL_law_1152 50 (by decide +kernel))
theorem dL_law_1203 : decode cL_law 1203 = .ok (.iadd, 1) := bq_o96 (bq_of bwL_law_1152 51 (by decide +kernel))
theorem dL_law_1204 : decode cL_law 1204 = .ok (.iaload, 1) := bq_o46 (bq_of bwL_law_1152 52 (by decide +kernel))
theorem dL_law_1205 : decode cL_law 1205 = .ok (.invokevirtual 149, 3) := bq_o182 (a := 0) (b := 149) (bq_3 bwL_law_1152 53 (by decide +kernel)) rfl
theorem dL_law_1208 : decode cL_law 1208 = .ok (.pop, 1) := bq_o87 (bq_of bwL_law_1152 56 (by decide +kernel))
theorem dL_law_1209 : decode cL_law 1209 = .ok (.goto 358, 3) := bq_o167 (a := 1) (b := 102) (bq_3 bwL_law_1152 57 (by decide +kernel)) (by decide +kernel)
theorem dL_law_1212 : decode cL_law 1212 = .ok (.aload_n 1, 1) := bq_o43 (bq_of bwL_law_1152 60 (by decide +kernel))
theorem dL_law_1213 : decode cL_law 1213 = .ok (.aload_n 0, 1) := bq_o42 (bq_of bwL_law_1152 61 (by decide +kernel))
theorem dL_law_1214 : decode cL_law 1214 = .ok (.iload_n 3, 1) := bq_o29 (bq_of bwL_law_1152 62 (by decide +kernel))
theorem dL_law_1215 : decode cL_law 1215 = .ok (.iconst 1, 1) := bq_o4 (bq_of bwL_law_1152 63 (by decide +kernel))
def bwL_law_1216l : List Nat := [96, 46, 42, 29, 5, 96, 46, 182, 0, 150, 87, 44, 42, 29, 4, 96, 46, 42, 29, 5, 96, 46, 182, 0, 153, 87, 167, 1, 69, 43, 182, 0, 154, 87, 44, 182, 0, 157, 87, 167, 1, 56, 43, 42, 29, 4, 96, 46, 182, 0, 158, 87, 44, 42, 29, 4, 96, 46, 182, 0, 161, 87, 167, 1, 33, 43]
theorem bwL_law_1216 : ((cL_law.data.toList.drop 1216).take 66).map UInt8.toNat = bwL_law_1216l := by decide +kernel
theorem dL_law_1216 : decode cL_law 1216 = .ok (.iadd, 1) := bq_o96 (bq_of bwL_law_1216 0 (by decide +kernel))
theorem dL_law_1217 : decode cL_law 1217 = .ok (.iaload, 1) := bq_o46 (bq_of bwL_law_1216 1 (by decide +kernel))
theorem dL_law_1218 : decode cL_law 1218 = .ok (.aload_n 0, 1) := bq_o42 (bq_of bwL_law_1216 2 (by decide +kernel))
theorem dL_law_1219 : decode cL_law 1219 = .ok (.iload_n 3, 1) := bq_o29 (bq_of bwL_law_1216 3 (by decide +kernel))
theorem dL_law_1220 : decode cL_law 1220 = .ok (.iconst 2, 1) := bq_o5 (bq_of bwL_law_1216 4 (by decide +kernel))
theorem dL_law_1221 : decode cL_law 1221 = .ok (.iadd, 1) := bq_o96 (bq_of bwL_law_1216 5 (by decide +kernel))
theorem dL_law_1222 : decode cL_law 1222 = .ok (.iaload, 1) := bq_o46 (bq_of bwL_law_1216 6 (by decide +kernel))
theorem dL_law_1223 : decode cL_law 1223 = .ok (.invokevirtual 150, 3) := bq_o182 (a := 0) (b := 150) (bq_3 bwL_law_1216 7 (by decide +kernel)) rfl
theorem dL_law_1226 : decode cL_law 1226 = .ok (.pop, 1) := bq_o87 (bq_of bwL_law_1216 10 (by decide +kernel))
theorem dL_law_1227 : decode cL_law 1227 = .ok (.aload_n 2, 1) := bq_o44 (bq_of bwL_law_1216 11 (by decide +kernel))
theorem dL_law_1228 : decode cL_law 1228 = .ok (.aload_n 0, 1) := bq_o42 (bq_of bwL_law_1216 12 (by decide +kernel))
theorem dL_law_1229 : decode cL_law 1229 = .ok (.iload_n 3, 1) := bq_o29 (bq_of bwL_law_1216 13 (by decide +kernel))
theorem dL_law_1230 : decode cL_law 1230 = .ok (.iconst 1, 1) := bq_o4 (bq_of bwL_law_1216 14 (by decide +kernel))
theorem dL_law_1231 : decode cL_law 1231 = .ok (.iadd, 1) := bq_o96 (bq_of bwL_law_1216 15 (by decide +kernel))
theorem dL_law_1232 : decode cL_law 1232 = .ok (.iaload, 1) := bq_o46 (bq_of bwL_law_1216 16 (by decide +kernel))
theorem dL_law_1233 : decode cL_law 1233 = .ok (.aload_n 0, 1) := bq_o42 (bq_of bwL_law_1216 17 (by decide +kernel))
theorem dL_law_1234 : decode cL_law 1234 = .ok (.iload_n 3, 1) := bq_o29 (bq_of bwL_law_1216 18 (by decide +kernel))
theorem dL_law_1235 : decode cL_law 1235 = .ok (.iconst 2, 1) := bq_o5 (bq_of bwL_law_1216 19 (by decide +kernel))
theorem dL_law_1236 : decode cL_law 1236 = .ok (.iadd, 1) := bq_o96 (bq_of bwL_law_1216 20 (by decide +kernel))
theorem dL_law_1237 : decode cL_law 1237 = .ok (.iaload, 1) := bq_o46 (bq_of bwL_law_1216 21 (by decide +kernel))
theorem dL_law_1238 : decode cL_law 1238 = .ok (.invokevirtual 153, 3) := bq_o182 (a := 0) (b := 153) (bq_3 bwL_law_1216 22 (by decide +kernel)) rfl
theorem dL_law_1241 : decode cL_law 1241 = .ok (.pop, 1) := bq_o87 (bq_of bwL_law_1216 25 (by decide +kernel))
theorem dL_law_1242 : decode cL_law 1242 = .ok (.goto 325, 3) := bq_o167 (a := 1) (b := 69) (bq_3 bwL_law_1216 26 (by decide +kernel)) (by decide +kernel)
theorem dL_law_1245 : decode cL_law 1245 = .ok (.aload_n 1, 1) := bq_o43 (bq_of bwL_law_1216 29 (by decide +kernel))
theorem dL_law_1246 : decode cL_law 1246 = .ok (.invokevirtual 154, 3) := bq_o182 (a := 0) (b := 154) (bq_3 bwL_law_1216 30 (by decide +kernel)) rfl
theorem dL_law_1249 : decode cL_law 1249 = .ok (.pop, 1) := bq_o87 (bq_of bwL_law_1216 33 (by decide +kernel))
theorem dL_law_1250 : decode cL_law 1250 = .ok (.aload_n 2, 1) := bq_o44 (bq_of bwL_law_1216 34 (by decide +kernel))
theorem dL_law_1251 : decode cL_law 1251 = .ok (.invokevirtual 157, 3) := bq_o182 (a := 0) (b := 157) (bq_3 bwL_law_1216 35 (by decide +kernel)) rfl
theorem dL_law_1254 : decode cL_law 1254 = .ok (.pop, 1) := bq_o87 (bq_of bwL_law_1216 38 (by decide +kernel))
theorem dL_law_1255 : decode cL_law 1255 = .ok (.goto 312, 3) := bq_o167 (a := 1) (b := 56) (bq_3 bwL_law_1216 39 (by decide +kernel)) (by decide +kernel)
theorem dL_law_1258 : decode cL_law 1258 = .ok (.aload_n 1, 1) := bq_o43 (bq_of bwL_law_1216 42 (by decide +kernel))
theorem dL_law_1259 : decode cL_law 1259 = .ok (.aload_n 0, 1) := bq_o42 (bq_of bwL_law_1216 43 (by decide +kernel))
theorem dL_law_1260 : decode cL_law 1260 = .ok (.iload_n 3, 1) := bq_o29 (bq_of bwL_law_1216 44 (by decide +kernel))
theorem dL_law_1261 : decode cL_law 1261 = .ok (.iconst 1, 1) := bq_o4 (bq_of bwL_law_1216 45 (by decide +kernel))
theorem dL_law_1262 : decode cL_law 1262 = .ok (.iadd, 1) := bq_o96 (bq_of bwL_law_1216 46 (by decide +kernel))
theorem dL_law_1263 : decode cL_law 1263 = .ok (.iaload, 1) := bq_o46 (bq_of bwL_law_1216 47 (by decide +kernel))
theorem dL_law_1264 : decode cL_law 1264 = .ok (.invokevirtual 158, 3) := bq_o182 (a := 0) (b := 158) (bq_3 bwL_law_1216 48 (by decide +kernel)) rfl
theorem dL_law_1267 : decode cL_law 1267 = .ok (.pop, 1) := bq_o87 (bq_of bwL_law_1216 51 (by decide +kernel))
theorem dL_law_1268 : decode cL_law 1268 = .ok (.aload_n 2, 1) := bq_o44 (bq_of bwL_law_1216 52 (by decide +kernel))
theorem dL_law_1269 : decode cL_law 1269 = .ok (.aload_n 0, 1) := bq_o42 (bq_of bwL_law_1216 53 (by decide +kernel))
theorem dL_law_1270 : decode cL_law 1270 = .ok (.iload_n 3, 1) := bq_o29 (bq_of bwL_law_1216 54 (by decide +kernel))
theorem dL_law_1271 : decode cL_law 1271 = .ok (.iconst 1, 1) := bq_o4 (bq_of bwL_law_1216 55 (by decide +kernel))
theorem dL_law_1272 : decode cL_law 1272 = .ok (.iadd, 1) := bq_o96 (bq_of bwL_law_1216 56 (by decide +kernel))
theorem dL_law_1273 : decode cL_law 1273 = .ok (.iaload, 1) := bq_o46 (bq_of bwL_law_1216 57 (by decide +kernel))
theorem dL_law_1274 : decode cL_law 1274 = .ok (.invokevirtual 161, 3) := bq_o182 (a := 0) (b := 161) (bq_3 bwL_law_1216 58 (by decide +kernel)) rfl
theorem dL_law_1277 : decode cL_law 1277 = .ok (.pop, 1) := bq_o87 (bq_of bwL_law_1216 61 (by decide +kernel))
theorem dL_law_1278 : decode cL_law 1278 = .ok (.goto 289, 3) := bq_o167 (a := 1) (b := 33) (bq_3 bwL_law_1216 62 (by decide +kernel)) (by decide +kernel)
def bwL_law_1280l : List Nat := [33, 43, 42, 29, 4, 96, 46, 182, 0, 162, 87, 44, 42, 29, 4, 96, 46, 182, 0, 165, 87, 167, 1, 10, 43, 42, 29, 4, 96, 46, 42, 29, 5, 96, 46, 182, 0, 166, 87, 44, 42, 29, 4, 96, 46, 42, 29, 5, 96, 46, 182, 0, 169, 87, 167, 0, 233, 43, 42, 29, 4, 96, 46, 42, 29, 5]
theorem bwL_law_1280 : ((cL_law.data.toList.drop 1280).take 66).map UInt8.toNat = bwL_law_1280l := by decide +kernel
theorem dL_law_1281 : decode cL_law 1281 = .ok (.aload_n 1, 1) := bq_o43 (bq_of bwL_law_1280 1 (by decide +kernel))
theorem dL_law_1282 : decode cL_law 1282 = .ok (.aload_n 0, 1) := bq_o42 (bq_of bwL_law_1280 2 (by decide +kernel))
theorem dL_law_1283 : decode cL_law 1283 = .ok (.iload_n 3, 1) := bq_o29 (bq_of bwL_law_1280 3 (by decide +kernel))
theorem dL_law_1284 : decode cL_law 1284 = .ok (.iconst 1, 1) := bq_o4 (bq_of bwL_law_1280 4 (by decide +kernel))
theorem dL_law_1285 : decode cL_law 1285 = .ok (.iadd, 1) := bq_o96 (bq_of bwL_law_1280 5 (by decide +kernel))
theorem dL_law_1286 : decode cL_law 1286 = .ok (.iaload, 1) := bq_o46 (bq_of bwL_law_1280 6 (by decide +kernel))
theorem dL_law_1287 : decode cL_law 1287 = .ok (.invokevirtual 162, 3) := bq_o182 (a := 0) (b := 162) (bq_3 bwL_law_1280 7 (by decide +kernel)) rfl
theorem dL_law_1290 : decode cL_law 1290 = .ok (.pop, 1) := bq_o87 (bq_of bwL_law_1280 10 (by decide +kernel))
theorem dL_law_1291 : decode cL_law 1291 = .ok (.aload_n 2, 1) := bq_o44 (bq_of bwL_law_1280 11 (by decide +kernel))
theorem dL_law_1292 : decode cL_law 1292 = .ok (.aload_n 0, 1) := bq_o42 (bq_of bwL_law_1280 12 (by decide +kernel))
theorem dL_law_1293 : decode cL_law 1293 = .ok (.iload_n 3, 1) := bq_o29 (bq_of bwL_law_1280 13 (by decide +kernel))
theorem dL_law_1294 : decode cL_law 1294 = .ok (.iconst 1, 1) := bq_o4 (bq_of bwL_law_1280 14 (by decide +kernel))
theorem dL_law_1295 : decode cL_law 1295 = .ok (.iadd, 1) := bq_o96 (bq_of bwL_law_1280 15 (by decide +kernel))
theorem dL_law_1296 : decode cL_law 1296 = .ok (.iaload, 1) := bq_o46 (bq_of bwL_law_1280 16 (by decide +kernel))
theorem dL_law_1297 : decode cL_law 1297 = .ok (.invokevirtual 165, 3) := bq_o182 (a := 0) (b := 165) (bq_3 bwL_law_1280 17 (by decide +kernel)) rfl
theorem dL_law_1300 : decode cL_law 1300 = .ok (.pop, 1) := bq_o87 (bq_of bwL_law_1280 20 (by decide +kernel))
theorem dL_law_1301 : decode cL_law 1301 = .ok (.goto 266, 3) := bq_o167 (a := 1) (b := 10) (bq_3 bwL_law_1280 21 (by decide +kernel)) (by decide +kernel)
theorem dL_law_1304 : decode cL_law 1304 = .ok (.aload_n 1, 1) := bq_o43 (bq_of bwL_law_1280 24 (by decide +kernel))
theorem dL_law_1305 : decode cL_law 1305 = .ok (.aload_n 0, 1) := bq_o42 (bq_of bwL_law_1280 25 (by decide +kernel))
theorem dL_law_1306 : decode cL_law 1306 = .ok (.iload_n 3, 1) := bq_o29 (bq_of bwL_law_1280 26 (by decide +kernel))
theorem dL_law_1307 : decode cL_law 1307 = .ok (.iconst 1, 1) := bq_o4 (bq_of bwL_law_1280 27 (by decide +kernel))
theorem dL_law_1308 : decode cL_law 1308 = .ok (.iadd, 1) := bq_o96 (bq_of bwL_law_1280 28 (by decide +kernel))
theorem dL_law_1309 : decode cL_law 1309 = .ok (.iaload, 1) := bq_o46 (bq_of bwL_law_1280 29 (by decide +kernel))
theorem dL_law_1310 : decode cL_law 1310 = .ok (.aload_n 0, 1) := bq_o42 (bq_of bwL_law_1280 30 (by decide +kernel))
theorem dL_law_1311 : decode cL_law 1311 = .ok (.iload_n 3, 1) := bq_o29 (bq_of bwL_law_1280 31 (by decide +kernel))
theorem dL_law_1312 : decode cL_law 1312 = .ok (.iconst 2, 1) := bq_o5 (bq_of bwL_law_1280 32 (by decide +kernel))
theorem dL_law_1313 : decode cL_law 1313 = .ok (.iadd, 1) := bq_o96 (bq_of bwL_law_1280 33 (by decide +kernel))
theorem dL_law_1314 : decode cL_law 1314 = .ok (.iaload, 1) := bq_o46 (bq_of bwL_law_1280 34 (by decide +kernel))
theorem dL_law_1315 : decode cL_law 1315 = .ok (.invokevirtual 166, 3) := bq_o182 (a := 0) (b := 166) (bq_3 bwL_law_1280 35 (by decide +kernel)) rfl
theorem dL_law_1318 : decode cL_law 1318 = .ok (.pop, 1) := bq_o87 (bq_of bwL_law_1280 38 (by decide +kernel))
theorem dL_law_1319 : decode cL_law 1319 = .ok (.aload_n 2, 1) := bq_o44 (bq_of bwL_law_1280 39 (by decide +kernel))
theorem dL_law_1320 : decode cL_law 1320 = .ok (.aload_n 0, 1) := bq_o42 (bq_of bwL_law_1280 40 (by decide +kernel))
theorem dL_law_1321 : decode cL_law 1321 = .ok (.iload_n 3, 1) := bq_o29 (bq_of bwL_law_1280 41 (by decide +kernel))
theorem dL_law_1322 : decode cL_law 1322 = .ok (.iconst 1, 1) := bq_o4 (bq_of bwL_law_1280 42 (by decide +kernel))
theorem dL_law_1323 : decode cL_law 1323 = .ok (.iadd, 1) := bq_o96 (bq_of bwL_law_1280 43 (by decide +kernel))
theorem dL_law_1324 : decode cL_law 1324 = .ok (.iaload, 1) := bq_o46 (bq_of bwL_law_1280 44 (by decide +kernel))
theorem dL_law_1325 : decode cL_law 1325 = .ok (.aload_n 0, 1) := bq_o42 (bq_of bwL_law_1280 45 (by decide +kernel))
theorem dL_law_1326 : decode cL_law 1326 = .ok (.iload_n 3, 1) := bq_o29 (bq_of bwL_law_1280 46 (by decide +kernel))
theorem dL_law_1327 : decode cL_law 1327 = .ok (.iconst 2, 1) := bq_o5 (bq_of bwL_law_1280 47 (by decide +kernel))
theorem dL_law_1328 : decode cL_law 1328 = .ok (.iadd, 1) := bq_o96 (bq_of bwL_law_1280 48 (by decide +kernel))
theorem dL_law_1329 : decode cL_law 1329 = .ok (.iaload, 1) := bq_o46 (bq_of bwL_law_1280 49 (by decide +kernel))
theorem dL_law_1330 : decode cL_law 1330 = .ok (.invokevirtual 169, 3) := bq_o182 (a := 0) (b := 169) (bq_3 bwL_law_1280 50 (by decide +kernel)) rfl
theorem dL_law_1333 : decode cL_law 1333 = .ok (.pop, 1) := bq_o87 (bq_of bwL_law_1280 53 (by decide +kernel))
theorem dL_law_1334 : decode cL_law 1334 = .ok (.goto 233, 3) := bq_o167 (a := 0) (b := 233) (bq_3 bwL_law_1280 54 (by decide +kernel)) (by decide +kernel)
theorem dL_law_1337 : decode cL_law 1337 = .ok (.aload_n 1, 1) := bq_o43 (bq_of bwL_law_1280 57 (by decide +kernel))
theorem dL_law_1338 : decode cL_law 1338 = .ok (.aload_n 0, 1) := bq_o42 (bq_of bwL_law_1280 58 (by decide +kernel))
theorem dL_law_1339 : decode cL_law 1339 = .ok (.iload_n 3, 1) := bq_o29 (bq_of bwL_law_1280 59 (by decide +kernel))
theorem dL_law_1340 : decode cL_law 1340 = .ok (.iconst 1, 1) := bq_o4 (bq_of bwL_law_1280 60 (by decide +kernel))
theorem dL_law_1341 : decode cL_law 1341 = .ok (.iadd, 1) := bq_o96 (bq_of bwL_law_1280 61 (by decide +kernel))
theorem dL_law_1342 : decode cL_law 1342 = .ok (.iaload, 1) := bq_o46 (bq_of bwL_law_1280 62 (by decide +kernel))
theorem dL_law_1343 : decode cL_law 1343 = .ok (.aload_n 0, 1) := bq_o42 (bq_of bwL_law_1280 63 (by decide +kernel))
def bwL_law_1344l : List Nat := [29, 5, 96, 46, 42, 29, 6, 96, 46, 182, 0, 170, 87, 44, 42, 29, 4, 96, 46, 42, 29, 5, 96, 46, 42, 29, 6, 96, 46, 182, 0, 173, 87, 167, 0, 190, 43, 42, 29, 4, 96, 46, 42, 29, 5, 96, 46, 182, 0, 174, 87, 44, 42, 29, 4, 96, 46, 42, 29, 5, 96, 46, 182, 0, 177, 87]
theorem bwL_law_1344 : ((cL_law.data.toList.drop 1344).take 66).map UInt8.toNat = bwL_law_1344l := by decide +kernel
theorem dL_law_1344 : decode cL_law 1344 = .ok (.iload_n 3, 1) := bq_o29 (bq_of bwL_law_1344 0 (by decide +kernel))
theorem dL_law_1345 : decode cL_law 1345 = .ok (.iconst 2, 1) := bq_o5 (bq_of bwL_law_1344 1 (by decide +kernel))
theorem dL_law_1346 : decode cL_law 1346 = .ok (.iadd, 1) := bq_o96 (bq_of bwL_law_1344 2 (by decide +kernel))
theorem dL_law_1347 : decode cL_law 1347 = .ok (.iaload, 1) := bq_o46 (bq_of bwL_law_1344 3 (by decide +kernel))
theorem dL_law_1348 : decode cL_law 1348 = .ok (.aload_n 0, 1) := bq_o42 (bq_of bwL_law_1344 4 (by decide +kernel))
theorem dL_law_1349 : decode cL_law 1349 = .ok (.iload_n 3, 1) := bq_o29 (bq_of bwL_law_1344 5 (by decide +kernel))
theorem dL_law_1350 : decode cL_law 1350 = .ok (.iconst 3, 1) := bq_o6 (bq_of bwL_law_1344 6 (by decide +kernel))
theorem dL_law_1351 : decode cL_law 1351 = .ok (.iadd, 1) := bq_o96 (bq_of bwL_law_1344 7 (by decide +kernel))
theorem dL_law_1352 : decode cL_law 1352 = .ok (.iaload, 1) := bq_o46 (bq_of bwL_law_1344 8 (by decide +kernel))
theorem dL_law_1353 : decode cL_law 1353 = .ok (.invokevirtual 170, 3) := bq_o182 (a := 0) (b := 170) (bq_3 bwL_law_1344 9 (by decide +kernel)) rfl
theorem dL_law_1356 : decode cL_law 1356 = .ok (.pop, 1) := bq_o87 (bq_of bwL_law_1344 12 (by decide +kernel))
theorem dL_law_1357 : decode cL_law 1357 = .ok (.aload_n 2, 1) := bq_o44 (bq_of bwL_law_1344 13 (by decide +kernel))
theorem dL_law_1358 : decode cL_law 1358 = .ok (.aload_n 0, 1) := bq_o42 (bq_of bwL_law_1344 14 (by decide +kernel))
theorem dL_law_1359 : decode cL_law 1359 = .ok (.iload_n 3, 1) := bq_o29 (bq_of bwL_law_1344 15 (by decide +kernel))
theorem dL_law_1360 : decode cL_law 1360 = .ok (.iconst 1, 1) := bq_o4 (bq_of bwL_law_1344 16 (by decide +kernel))
theorem dL_law_1361 : decode cL_law 1361 = .ok (.iadd, 1) := bq_o96 (bq_of bwL_law_1344 17 (by decide +kernel))
theorem dL_law_1362 : decode cL_law 1362 = .ok (.iaload, 1) := bq_o46 (bq_of bwL_law_1344 18 (by decide +kernel))
theorem dL_law_1363 : decode cL_law 1363 = .ok (.aload_n 0, 1) := bq_o42 (bq_of bwL_law_1344 19 (by decide +kernel))
theorem dL_law_1364 : decode cL_law 1364 = .ok (.iload_n 3, 1) := bq_o29 (bq_of bwL_law_1344 20 (by decide +kernel))
theorem dL_law_1365 : decode cL_law 1365 = .ok (.iconst 2, 1) := bq_o5 (bq_of bwL_law_1344 21 (by decide +kernel))
theorem dL_law_1366 : decode cL_law 1366 = .ok (.iadd, 1) := bq_o96 (bq_of bwL_law_1344 22 (by decide +kernel))
theorem dL_law_1367 : decode cL_law 1367 = .ok (.iaload, 1) := bq_o46 (bq_of bwL_law_1344 23 (by decide +kernel))
theorem dL_law_1368 : decode cL_law 1368 = .ok (.aload_n 0, 1) := bq_o42 (bq_of bwL_law_1344 24 (by decide +kernel))
theorem dL_law_1369 : decode cL_law 1369 = .ok (.iload_n 3, 1) := bq_o29 (bq_of bwL_law_1344 25 (by decide +kernel))
theorem dL_law_1370 : decode cL_law 1370 = .ok (.iconst 3, 1) := bq_o6 (bq_of bwL_law_1344 26 (by decide +kernel))
theorem dL_law_1371 : decode cL_law 1371 = .ok (.iadd, 1) := bq_o96 (bq_of bwL_law_1344 27 (by decide +kernel))
theorem dL_law_1372 : decode cL_law 1372 = .ok (.iaload, 1) := bq_o46 (bq_of bwL_law_1344 28 (by decide +kernel))
theorem dL_law_1373 : decode cL_law 1373 = .ok (.invokevirtual 173, 3) := bq_o182 (a := 0) (b := 173) (bq_3 bwL_law_1344 29 (by decide +kernel)) rfl
theorem dL_law_1376 : decode cL_law 1376 = .ok (.pop, 1) := bq_o87 (bq_of bwL_law_1344 32 (by decide +kernel))
theorem dL_law_1377 : decode cL_law 1377 = .ok (.goto 190, 3) := bq_o167 (a := 0) (b := 190) (bq_3 bwL_law_1344 33 (by decide +kernel)) (by decide +kernel)
theorem dL_law_1380 : decode cL_law 1380 = .ok (.aload_n 1, 1) := bq_o43 (bq_of bwL_law_1344 36 (by decide +kernel))
theorem dL_law_1381 : decode cL_law 1381 = .ok (.aload_n 0, 1) := bq_o42 (bq_of bwL_law_1344 37 (by decide +kernel))
theorem dL_law_1382 : decode cL_law 1382 = .ok (.iload_n 3, 1) := bq_o29 (bq_of bwL_law_1344 38 (by decide +kernel))
theorem dL_law_1383 : decode cL_law 1383 = .ok (.iconst 1, 1) := bq_o4 (bq_of bwL_law_1344 39 (by decide +kernel))
theorem dL_law_1384 : decode cL_law 1384 = .ok (.iadd, 1) := bq_o96 (bq_of bwL_law_1344 40 (by decide +kernel))
theorem dL_law_1385 : decode cL_law 1385 = .ok (.iaload, 1) := bq_o46 (bq_of bwL_law_1344 41 (by decide +kernel))
theorem dL_law_1386 : decode cL_law 1386 = .ok (.aload_n 0, 1) := bq_o42 (bq_of bwL_law_1344 42 (by decide +kernel))
theorem dL_law_1387 : decode cL_law 1387 = .ok (.iload_n 3, 1) := bq_o29 (bq_of bwL_law_1344 43 (by decide +kernel))
theorem dL_law_1388 : decode cL_law 1388 = .ok (.iconst 2, 1) := bq_o5 (bq_of bwL_law_1344 44 (by decide +kernel))
theorem dL_law_1389 : decode cL_law 1389 = .ok (.iadd, 1) := bq_o96 (bq_of bwL_law_1344 45 (by decide +kernel))
theorem dL_law_1390 : decode cL_law 1390 = .ok (.iaload, 1) := bq_o46 (bq_of bwL_law_1344 46 (by decide +kernel))
theorem dL_law_1391 : decode cL_law 1391 = .ok (.invokevirtual 174, 3) := bq_o182 (a := 0) (b := 174) (bq_3 bwL_law_1344 47 (by decide +kernel)) rfl
theorem dL_law_1394 : decode cL_law 1394 = .ok (.pop, 1) := bq_o87 (bq_of bwL_law_1344 50 (by decide +kernel))
theorem dL_law_1395 : decode cL_law 1395 = .ok (.aload_n 2, 1) := bq_o44 (bq_of bwL_law_1344 51 (by decide +kernel))
theorem dL_law_1396 : decode cL_law 1396 = .ok (.aload_n 0, 1) := bq_o42 (bq_of bwL_law_1344 52 (by decide +kernel))
theorem dL_law_1397 : decode cL_law 1397 = .ok (.iload_n 3, 1) := bq_o29 (bq_of bwL_law_1344 53 (by decide +kernel))
theorem dL_law_1398 : decode cL_law 1398 = .ok (.iconst 1, 1) := bq_o4 (bq_of bwL_law_1344 54 (by decide +kernel))
theorem dL_law_1399 : decode cL_law 1399 = .ok (.iadd, 1) := bq_o96 (bq_of bwL_law_1344 55 (by decide +kernel))
theorem dL_law_1400 : decode cL_law 1400 = .ok (.iaload, 1) := bq_o46 (bq_of bwL_law_1344 56 (by decide +kernel))
theorem dL_law_1401 : decode cL_law 1401 = .ok (.aload_n 0, 1) := bq_o42 (bq_of bwL_law_1344 57 (by decide +kernel))
theorem dL_law_1402 : decode cL_law 1402 = .ok (.iload_n 3, 1) := bq_o29 (bq_of bwL_law_1344 58 (by decide +kernel))
theorem dL_law_1403 : decode cL_law 1403 = .ok (.iconst 2, 1) := bq_o5 (bq_of bwL_law_1344 59 (by decide +kernel))
theorem dL_law_1404 : decode cL_law 1404 = .ok (.iadd, 1) := bq_o96 (bq_of bwL_law_1344 60 (by decide +kernel))
theorem dL_law_1405 : decode cL_law 1405 = .ok (.iaload, 1) := bq_o46 (bq_of bwL_law_1344 61 (by decide +kernel))
theorem dL_law_1406 : decode cL_law 1406 = .ok (.invokevirtual 177, 3) := bq_o182 (a := 0) (b := 177) (bq_3 bwL_law_1344 62 (by decide +kernel)) rfl
def bwL_law_1408l : List Nat := [177, 87, 167, 0, 157, 43, 42, 29, 4, 96, 46, 182, 0, 178, 87, 44, 42, 29, 4, 96, 46, 182, 0, 181, 87, 167, 0, 134, 43, 42, 29, 4, 96, 46, 182, 0, 182, 87, 44, 42, 29, 4, 96, 46, 182, 0, 185, 87, 167, 0, 111, 43, 182, 0, 186, 87, 44, 182, 0, 189, 87, 167, 0, 98, 43, 42]
theorem bwL_law_1408 : ((cL_law.data.toList.drop 1408).take 66).map UInt8.toNat = bwL_law_1408l := by decide +kernel
theorem dL_law_1409 : decode cL_law 1409 = .ok (.pop, 1) := bq_o87 (bq_of bwL_law_1408 1 (by decide +kernel))
theorem dL_law_1410 : decode cL_law 1410 = .ok (.goto 157, 3) := bq_o167 (a := 0) (b := 157) (bq_3 bwL_law_1408 2 (by decide +kernel)) (by decide +kernel)
theorem dL_law_1413 : decode cL_law 1413 = .ok (.aload_n 1, 1) := bq_o43 (bq_of bwL_law_1408 5 (by decide +kernel))
theorem dL_law_1414 : decode cL_law 1414 = .ok (.aload_n 0, 1) := bq_o42 (bq_of bwL_law_1408 6 (by decide +kernel))
theorem dL_law_1415 : decode cL_law 1415 = .ok (.iload_n 3, 1) := bq_o29 (bq_of bwL_law_1408 7 (by decide +kernel))
theorem dL_law_1416 : decode cL_law 1416 = .ok (.iconst 1, 1) := bq_o4 (bq_of bwL_law_1408 8 (by decide +kernel))
theorem dL_law_1417 : decode cL_law 1417 = .ok (.iadd, 1) := bq_o96 (bq_of bwL_law_1408 9 (by decide +kernel))
theorem dL_law_1418 : decode cL_law 1418 = .ok (.iaload, 1) := bq_o46 (bq_of bwL_law_1408 10 (by decide +kernel))
theorem dL_law_1419 : decode cL_law 1419 = .ok (.invokevirtual 178, 3) := bq_o182 (a := 0) (b := 178) (bq_3 bwL_law_1408 11 (by decide +kernel)) rfl
theorem dL_law_1422 : decode cL_law 1422 = .ok (.pop, 1) := bq_o87 (bq_of bwL_law_1408 14 (by decide +kernel))
theorem dL_law_1423 : decode cL_law 1423 = .ok (.aload_n 2, 1) := bq_o44 (bq_of bwL_law_1408 15 (by decide +kernel))
theorem dL_law_1424 : decode cL_law 1424 = .ok (.aload_n 0, 1) := bq_o42 (bq_of bwL_law_1408 16 (by decide +kernel))
theorem dL_law_1425 : decode cL_law 1425 = .ok (.iload_n 3, 1) := bq_o29 (bq_of bwL_law_1408 17 (by decide +kernel))
theorem dL_law_1426 : decode cL_law 1426 = .ok (.iconst 1, 1) := bq_o4 (bq_of bwL_law_1408 18 (by decide +kernel))
theorem dL_law_1427 : decode cL_law 1427 = .ok (.iadd, 1) := bq_o96 (bq_of bwL_law_1408 19 (by decide +kernel))
theorem dL_law_1428 : decode cL_law 1428 = .ok (.iaload, 1) := bq_o46 (bq_of bwL_law_1408 20 (by decide +kernel))
theorem dL_law_1429 : decode cL_law 1429 = .ok (.invokevirtual 181, 3) := bq_o182 (a := 0) (b := 181) (bq_3 bwL_law_1408 21 (by decide +kernel)) rfl
theorem dL_law_1432 : decode cL_law 1432 = .ok (.pop, 1) := bq_o87 (bq_of bwL_law_1408 24 (by decide +kernel))
theorem dL_law_1433 : decode cL_law 1433 = .ok (.goto 134, 3) := bq_o167 (a := 0) (b := 134) (bq_3 bwL_law_1408 25 (by decide +kernel)) (by decide +kernel)
theorem dL_law_1436 : decode cL_law 1436 = .ok (.aload_n 1, 1) := bq_o43 (bq_of bwL_law_1408 28 (by decide +kernel))
theorem dL_law_1437 : decode cL_law 1437 = .ok (.aload_n 0, 1) := bq_o42 (bq_of bwL_law_1408 29 (by decide +kernel))
theorem dL_law_1438 : decode cL_law 1438 = .ok (.iload_n 3, 1) := bq_o29 (bq_of bwL_law_1408 30 (by decide +kernel))
theorem dL_law_1439 : decode cL_law 1439 = .ok (.iconst 1, 1) := bq_o4 (bq_of bwL_law_1408 31 (by decide +kernel))
theorem dL_law_1440 : decode cL_law 1440 = .ok (.iadd, 1) := bq_o96 (bq_of bwL_law_1408 32 (by decide +kernel))
theorem dL_law_1441 : decode cL_law 1441 = .ok (.iaload, 1) := bq_o46 (bq_of bwL_law_1408 33 (by decide +kernel))
theorem dL_law_1442 : decode cL_law 1442 = .ok (.invokevirtual 182, 3) := bq_o182 (a := 0) (b := 182) (bq_3 bwL_law_1408 34 (by decide +kernel)) rfl
theorem dL_law_1445 : decode cL_law 1445 = .ok (.pop, 1) := bq_o87 (bq_of bwL_law_1408 37 (by decide +kernel))
theorem dL_law_1446 : decode cL_law 1446 = .ok (.aload_n 2, 1) := bq_o44 (bq_of bwL_law_1408 38 (by decide +kernel))
theorem dL_law_1447 : decode cL_law 1447 = .ok (.aload_n 0, 1) := bq_o42 (bq_of bwL_law_1408 39 (by decide +kernel))
theorem dL_law_1448 : decode cL_law 1448 = .ok (.iload_n 3, 1) := bq_o29 (bq_of bwL_law_1408 40 (by decide +kernel))
theorem dL_law_1449 : decode cL_law 1449 = .ok (.iconst 1, 1) := bq_o4 (bq_of bwL_law_1408 41 (by decide +kernel))
theorem dL_law_1450 : decode cL_law 1450 = .ok (.iadd, 1) := bq_o96 (bq_of bwL_law_1408 42 (by decide +kernel))
theorem dL_law_1451 : decode cL_law 1451 = .ok (.iaload, 1) := bq_o46 (bq_of bwL_law_1408 43 (by decide +kernel))
theorem dL_law_1452 : decode cL_law 1452 = .ok (.invokevirtual 185, 3) := bq_o182 (a := 0) (b := 185) (bq_3 bwL_law_1408 44 (by decide +kernel)) rfl
theorem dL_law_1455 : decode cL_law 1455 = .ok (.pop, 1) := bq_o87 (bq_of bwL_law_1408 47 (by decide +kernel))
theorem dL_law_1456 : decode cL_law 1456 = .ok (.goto 111, 3) := bq_o167 (a := 0) (b := 111) (bq_3 bwL_law_1408 48 (by decide +kernel)) (by decide +kernel)
theorem dL_law_1459 : decode cL_law 1459 = .ok (.aload_n 1, 1) := bq_o43 (bq_of bwL_law_1408 51 (by decide +kernel))
theorem dL_law_1460 : decode cL_law 1460 = .ok (.invokevirtual 186, 3) := bq_o182 (a := 0) (b := 186) (bq_3 bwL_law_1408 52 (by decide +kernel)) rfl
theorem dL_law_1463 : decode cL_law 1463 = .ok (.pop, 1) := bq_o87 (bq_of bwL_law_1408 55 (by decide +kernel))
theorem dL_law_1464 : decode cL_law 1464 = .ok (.aload_n 2, 1) := bq_o44 (bq_of bwL_law_1408 56 (by decide +kernel))
theorem dL_law_1465 : decode cL_law 1465 = .ok (.invokevirtual 189, 3) := bq_o182 (a := 0) (b := 189) (bq_3 bwL_law_1408 57 (by decide +kernel)) rfl
theorem dL_law_1468 : decode cL_law 1468 = .ok (.pop, 1) := bq_o87 (bq_of bwL_law_1408 60 (by decide +kernel))
theorem dL_law_1469 : decode cL_law 1469 = .ok (.goto 98, 3) := bq_o167 (a := 0) (b := 98) (bq_3 bwL_law_1408 61 (by decide +kernel)) (by decide +kernel)
def bwL_law_1472l : List Nat := [43, 42, 29, 4, 96, 46, 182, 0, 190, 44, 42, 29, 4, 96, 46, 182, 0, 193, 159, 0, 77, 3, 172, 43, 42, 29, 4, 96, 46, 182, 0, 194, 87, 44, 42, 29, 4, 96, 46, 182, 0, 197, 87, 167, 0, 52, 43, 182, 0, 198, 87, 44, 182, 0, 201, 87, 167, 0, 39, 43, 182, 0, 202, 87, 44, 182]
theorem bwL_law_1472 : ((cL_law.data.toList.drop 1472).take 66).map UInt8.toNat = bwL_law_1472l := by decide +kernel
theorem dL_law_1472 : decode cL_law 1472 = .ok (.aload_n 1, 1) := bq_o43 (bq_of bwL_law_1472 0 (by decide +kernel))
theorem dL_law_1473 : decode cL_law 1473 = .ok (.aload_n 0, 1) := bq_o42 (bq_of bwL_law_1472 1 (by decide +kernel))
theorem dL_law_1474 : decode cL_law 1474 = .ok (.iload_n 3, 1) := bq_o29 (bq_of bwL_law_1472 2 (by decide +kernel))
theorem dL_law_1475 : decode cL_law 1475 = .ok (.iconst 1, 1) := bq_o4 (bq_of bwL_law_1472 3 (by decide +kernel))
theorem dL_law_1476 : decode cL_law 1476 = .ok (.iadd, 1) := bq_o96 (bq_of bwL_law_1472 4 (by decide +kernel))
theorem dL_law_1477 : decode cL_law 1477 = .ok (.iaload, 1) := bq_o46 (bq_of bwL_law_1472 5 (by decide +kernel))
theorem dL_law_1478 : decode cL_law 1478 = .ok (.invokevirtual 190, 3) := bq_o182 (a := 0) (b := 190) (bq_3 bwL_law_1472 6 (by decide +kernel)) rfl
theorem dL_law_1481 : decode cL_law 1481 = .ok (.aload_n 2, 1) := bq_o44 (bq_of bwL_law_1472 9 (by decide +kernel))
theorem dL_law_1482 : decode cL_law 1482 = .ok (.aload_n 0, 1) := bq_o42 (bq_of bwL_law_1472 10 (by decide +kernel))
theorem dL_law_1483 : decode cL_law 1483 = .ok (.iload_n 3, 1) := bq_o29 (bq_of bwL_law_1472 11 (by decide +kernel))
theorem dL_law_1484 : decode cL_law 1484 = .ok (.iconst 1, 1) := bq_o4 (bq_of bwL_law_1472 12 (by decide +kernel))
theorem dL_law_1485 : decode cL_law 1485 = .ok (.iadd, 1) := bq_o96 (bq_of bwL_law_1472 13 (by decide +kernel))
theorem dL_law_1486 : decode cL_law 1486 = .ok (.iaload, 1) := bq_o46 (bq_of bwL_law_1472 14 (by decide +kernel))
theorem dL_law_1487 : decode cL_law 1487 = .ok (.invokevirtual 193, 3) := bq_o182 (a := 0) (b := 193) (bq_3 bwL_law_1472 15 (by decide +kernel)) rfl
theorem dL_law_1490 : decode cL_law 1490 = .ok (.if_icmp .eq 77, 3) := bq_o159 (a := 0) (b := 77) (bq_3 bwL_law_1472 18 (by decide +kernel)) (by decide +kernel)
theorem dL_law_1493 : decode cL_law 1493 = .ok (.iconst 0, 1) := bq_o3 (bq_of bwL_law_1472 21 (by decide +kernel))
theorem dL_law_1495 : decode cL_law 1495 = .ok (.aload_n 1, 1) := bq_o43 (bq_of bwL_law_1472 23 (by decide +kernel))
theorem dL_law_1496 : decode cL_law 1496 = .ok (.aload_n 0, 1) := bq_o42 (bq_of bwL_law_1472 24 (by decide +kernel))
theorem dL_law_1497 : decode cL_law 1497 = .ok (.iload_n 3, 1) := bq_o29 (bq_of bwL_law_1472 25 (by decide +kernel))
theorem dL_law_1498 : decode cL_law 1498 = .ok (.iconst 1, 1) := bq_o4 (bq_of bwL_law_1472 26 (by decide +kernel))
theorem dL_law_1499 : decode cL_law 1499 = .ok (.iadd, 1) := bq_o96 (bq_of bwL_law_1472 27 (by decide +kernel))
theorem dL_law_1500 : decode cL_law 1500 = .ok (.iaload, 1) := bq_o46 (bq_of bwL_law_1472 28 (by decide +kernel))
theorem dL_law_1501 : decode cL_law 1501 = .ok (.invokevirtual 194, 3) := bq_o182 (a := 0) (b := 194) (bq_3 bwL_law_1472 29 (by decide +kernel)) rfl
theorem dL_law_1504 : decode cL_law 1504 = .ok (.pop, 1) := bq_o87 (bq_of bwL_law_1472 32 (by decide +kernel))
theorem dL_law_1505 : decode cL_law 1505 = .ok (.aload_n 2, 1) := bq_o44 (bq_of bwL_law_1472 33 (by decide +kernel))
theorem dL_law_1506 : decode cL_law 1506 = .ok (.aload_n 0, 1) := bq_o42 (bq_of bwL_law_1472 34 (by decide +kernel))
theorem dL_law_1507 : decode cL_law 1507 = .ok (.iload_n 3, 1) := bq_o29 (bq_of bwL_law_1472 35 (by decide +kernel))
theorem dL_law_1508 : decode cL_law 1508 = .ok (.iconst 1, 1) := bq_o4 (bq_of bwL_law_1472 36 (by decide +kernel))
theorem dL_law_1509 : decode cL_law 1509 = .ok (.iadd, 1) := bq_o96 (bq_of bwL_law_1472 37 (by decide +kernel))
theorem dL_law_1510 : decode cL_law 1510 = .ok (.iaload, 1) := bq_o46 (bq_of bwL_law_1472 38 (by decide +kernel))
theorem dL_law_1511 : decode cL_law 1511 = .ok (.invokevirtual 197, 3) := bq_o182 (a := 0) (b := 197) (bq_3 bwL_law_1472 39 (by decide +kernel)) rfl
theorem dL_law_1514 : decode cL_law 1514 = .ok (.pop, 1) := bq_o87 (bq_of bwL_law_1472 42 (by decide +kernel))
theorem dL_law_1515 : decode cL_law 1515 = .ok (.goto 52, 3) := bq_o167 (a := 0) (b := 52) (bq_3 bwL_law_1472 43 (by decide +kernel)) (by decide +kernel)
theorem dL_law_1518 : decode cL_law 1518 = .ok (.aload_n 1, 1) := bq_o43 (bq_of bwL_law_1472 46 (by decide +kernel))
theorem dL_law_1519 : decode cL_law 1519 = .ok (.invokevirtual 198, 3) := bq_o182 (a := 0) (b := 198) (bq_3 bwL_law_1472 47 (by decide +kernel)) rfl
theorem dL_law_1522 : decode cL_law 1522 = .ok (.pop, 1) := bq_o87 (bq_of bwL_law_1472 50 (by decide +kernel))
theorem dL_law_1523 : decode cL_law 1523 = .ok (.aload_n 2, 1) := bq_o44 (bq_of bwL_law_1472 51 (by decide +kernel))
theorem dL_law_1524 : decode cL_law 1524 = .ok (.invokevirtual 201, 3) := bq_o182 (a := 0) (b := 201) (bq_3 bwL_law_1472 52 (by decide +kernel)) rfl
theorem dL_law_1527 : decode cL_law 1527 = .ok (.pop, 1) := bq_o87 (bq_of bwL_law_1472 55 (by decide +kernel))
theorem dL_law_1528 : decode cL_law 1528 = .ok (.goto 39, 3) := bq_o167 (a := 0) (b := 39) (bq_3 bwL_law_1472 56 (by decide +kernel)) (by decide +kernel)
theorem dL_law_1531 : decode cL_law 1531 = .ok (.aload_n 1, 1) := bq_o43 (bq_of bwL_law_1472 59 (by decide +kernel))
theorem dL_law_1532 : decode cL_law 1532 = .ok (.invokevirtual 202, 3) := bq_o182 (a := 0) (b := 202) (bq_3 bwL_law_1472 60 (by decide +kernel)) rfl
theorem dL_law_1535 : decode cL_law 1535 = .ok (.pop, 1) := bq_o87 (bq_of bwL_law_1472 63 (by decide +kernel))
def bwL_law_1536l : List Nat := [44, 182, 0, 205, 87, 167, 0, 26, 43, 42, 29, 4, 96, 46, 182, 0, 206, 87, 44, 42, 29, 4, 96, 46, 182, 0, 209, 87, 167, 0, 3, 132, 3, 6, 167, 249, 240, 4, 172]
theorem bwL_law_1536 : ((cL_law.data.toList.drop 1536).take 39).map UInt8.toNat = bwL_law_1536l := by decide +kernel
theorem dL_law_1536 : decode cL_law 1536 = .ok (.aload_n 2, 1) := bq_o44 (bq_of bwL_law_1536 0 (by decide +kernel))
theorem dL_law_1537 : decode cL_law 1537 = .ok (.invokevirtual 205, 3) := bq_o182 (a := 0) (b := 205) (bq_3 bwL_law_1536 1 (by decide +kernel)) rfl
theorem dL_law_1540 : decode cL_law 1540 = .ok (.pop, 1) := bq_o87 (bq_of bwL_law_1536 4 (by decide +kernel))
theorem dL_law_1541 : decode cL_law 1541 = .ok (.goto 26, 3) := bq_o167 (a := 0) (b := 26) (bq_3 bwL_law_1536 5 (by decide +kernel)) (by decide +kernel)
theorem dL_law_1544 : decode cL_law 1544 = .ok (.aload_n 1, 1) := bq_o43 (bq_of bwL_law_1536 8 (by decide +kernel))
theorem dL_law_1545 : decode cL_law 1545 = .ok (.aload_n 0, 1) := bq_o42 (bq_of bwL_law_1536 9 (by decide +kernel))
theorem dL_law_1546 : decode cL_law 1546 = .ok (.iload_n 3, 1) := bq_o29 (bq_of bwL_law_1536 10 (by decide +kernel))
theorem dL_law_1547 : decode cL_law 1547 = .ok (.iconst 1, 1) := bq_o4 (bq_of bwL_law_1536 11 (by decide +kernel))
theorem dL_law_1548 : decode cL_law 1548 = .ok (.iadd, 1) := bq_o96 (bq_of bwL_law_1536 12 (by decide +kernel))
theorem dL_law_1549 : decode cL_law 1549 = .ok (.iaload, 1) := bq_o46 (bq_of bwL_law_1536 13 (by decide +kernel))
theorem dL_law_1550 : decode cL_law 1550 = .ok (.invokevirtual 206, 3) := bq_o182 (a := 0) (b := 206) (bq_3 bwL_law_1536 14 (by decide +kernel)) rfl
theorem dL_law_1553 : decode cL_law 1553 = .ok (.pop, 1) := bq_o87 (bq_of bwL_law_1536 17 (by decide +kernel))
theorem dL_law_1554 : decode cL_law 1554 = .ok (.aload_n 2, 1) := bq_o44 (bq_of bwL_law_1536 18 (by decide +kernel))
theorem dL_law_1555 : decode cL_law 1555 = .ok (.aload_n 0, 1) := bq_o42 (bq_of bwL_law_1536 19 (by decide +kernel))
theorem dL_law_1556 : decode cL_law 1556 = .ok (.iload_n 3, 1) := bq_o29 (bq_of bwL_law_1536 20 (by decide +kernel))
theorem dL_law_1557 : decode cL_law 1557 = .ok (.iconst 1, 1) := bq_o4 (bq_of bwL_law_1536 21 (by decide +kernel))
theorem dL_law_1558 : decode cL_law 1558 = .ok (.iadd, 1) := bq_o96 (bq_of bwL_law_1536 22 (by decide +kernel))
theorem dL_law_1559 : decode cL_law 1559 = .ok (.iaload, 1) := bq_o46 (bq_of bwL_law_1536 23 (by decide +kernel))
theorem dL_law_1560 : decode cL_law 1560 = .ok (.invokevirtual 209, 3) := bq_o182 (a := 0) (b := 209) (bq_3 bwL_law_1536 24 (by decide +kernel)) rfl
theorem dL_law_1563 : decode cL_law 1563 = .ok (.pop, 1) := bq_o87 (bq_of bwL_law_1536 27 (by decide +kernel))
theorem dL_law_1564 : decode cL_law 1564 = .ok (.goto 3, 3) := bq_o167 (a := 0) (b := 3) (bq_3 bwL_law_1536 28 (by decide +kernel)) (by decide +kernel)
theorem dL_law_1567 : decode cL_law 1567 = .ok (.iinc 3 6, 3) := bq_o132 (a := 3) (b := 6) (bq_3 bwL_law_1536 31 (by decide +kernel)) rfl (by decide +kernel)
theorem dL_law_1570 : decode cL_law 1570 = .ok (.goto (-1552), 3) := bq_o167 (a := 249) (b := 240) (bq_3 bwL_law_1536 34 (by decide +kernel)) (by decide +kernel)
theorem dL_law_1573 : decode cL_law 1573 = .ok (.iconst 1, 1) := bq_o4 (bq_of bwL_law_1536 37 (by decide +kernel))
theorem dL_law_1574 : decode cL_law 1574 = .ok (.ireturn, 1) := bq_o172 (bq_of bwL_law_1536 38 (by decide +kernel))
/-! what the cells of each object are -/
theorem vp_lt {i : Int32} {k : Nat} (h : vp_in i k) : i.toNatClampNeg < k := Nat.not_le.mp fun q => h (Or.inr q)
def zTown (Z : jdL) (t : Nat) : Prop := Z.1 t = some (8 + 10, 0) ∧ (Z.2.1 t 0 = some (t + 1) ∧ Z.1 (t + 1) = some (0, 7)) ∧ (Z.2.1 t 1 = some (t + 2) ∧ Z.1 (t + 2) = some (0, 7)) ∧ (Z.2.1 t 2 = some (t + 3) ∧ Z.1 (t + 3) = some (0, 49))
theorem zTown_p0 {Z : jdL} {t : Nat} (h : zTown Z t) : Z.2.1 t 0 = some (t + 1) := h.2.1.1
theorem zTown_a0 {Z : jdL} {t : Nat} (h : zTown Z t) : Z.1 (t + 1) = some (0, 7) := h.2.1.2
theorem zTown_p1 {Z : jdL} {t : Nat} (h : zTown Z t) : Z.2.1 t 1 = some (t + 2) := h.2.2.1.1
theorem zTown_a1 {Z : jdL} {t : Nat} (h : zTown Z t) : Z.1 (t + 2) = some (0, 7) := h.2.2.1.2
theorem zTown_p2 {Z : jdL} {t : Nat} (h : zTown Z t) : Z.2.1 t 2 = some (t + 3) := h.2.2.2.1
theorem zTown_a2 {Z : jdL} {t : Nat} (h : zTown Z t) : Z.1 (t + 3) = some (0, 49) := h.2.2.2.2
def zTies (Z : jdL) (t : Nat) : Prop := Z.1 t = some (7 + 10, 0) ∧ (Z.2.1 t 0 = some (t + 1) ∧ Z.1 (t + 1) = some (0, 8)) ∧ (Z.2.1 t 1 = some (t + 2) ∧ Z.1 (t + 2) = some (0, 8)) ∧ (Z.2.1 t 2 = some (t + 3) ∧ Z.1 (t + 3) = some (0, 70)) ∧ (Z.2.1 t 3 = some (t + 4) ∧ Z.1 (t + 4) = some (0, 70)) ∧ (Z.2.1 t 4 = some (t + 5) ∧ Z.1 (t + 5) = some (0, 256)) ∧ (Z.2.1 t 5 = some (t + 6) ∧ Z.1 (t + 6) = some (0, 28))
theorem zTies_p0 {Z : jdL} {t : Nat} (h : zTies Z t) : Z.2.1 t 0 = some (t + 1) := h.2.1.1
theorem zTies_a0 {Z : jdL} {t : Nat} (h : zTies Z t) : Z.1 (t + 1) = some (0, 8) := h.2.1.2
theorem zTies_p1 {Z : jdL} {t : Nat} (h : zTies Z t) : Z.2.1 t 1 = some (t + 2) := h.2.2.1.1
theorem zTies_a1 {Z : jdL} {t : Nat} (h : zTies Z t) : Z.1 (t + 2) = some (0, 8) := h.2.2.1.2
theorem zTies_p2 {Z : jdL} {t : Nat} (h : zTies Z t) : Z.2.1 t 2 = some (t + 3) := h.2.2.2.1.1
theorem zTies_a2 {Z : jdL} {t : Nat} (h : zTies Z t) : Z.1 (t + 3) = some (0, 70) := h.2.2.2.1.2
theorem zTies_p3 {Z : jdL} {t : Nat} (h : zTies Z t) : Z.2.1 t 3 = some (t + 4) := h.2.2.2.2.1.1
theorem zTies_a3 {Z : jdL} {t : Nat} (h : zTies Z t) : Z.1 (t + 4) = some (0, 70) := h.2.2.2.2.1.2
theorem zTies_p4 {Z : jdL} {t : Nat} (h : zTies Z t) : Z.2.1 t 4 = some (t + 5) := h.2.2.2.2.2.1.1
theorem zTies_a4 {Z : jdL} {t : Nat} (h : zTies Z t) : Z.1 (t + 5) = some (0, 256) := h.2.2.2.2.2.1.2
theorem zTies_p5 {Z : jdL} {t : Nat} (h : zTies Z t) : Z.2.1 t 5 = some (t + 6) := h.2.2.2.2.2.2.1
theorem zTies_a5 {Z : jdL} {t : Nat} (h : zTies Z t) : Z.1 (t + 6) = some (0, 28) := h.2.2.2.2.2.2.2
def zDay (Z : jdL) (t : Nat) : Prop := Z.1 t = some (2 + 10, 0) ∧ (Z.2.1 t 0 = some (t + 1) ∧ Z.1 (t + 1) = some (0, 7)) ∧ (Z.2.1 t 1 = some (t + 2) ∧ Z.1 (t + 2) = some (0, 7)) ∧ (Z.2.1 t 2 = some (t + 3) ∧ Z.1 (t + 3) = some (0, 128)) ∧ (Z.2.1 t 3 = some (t + 4) ∧ Z.1 (t + 4) = some (0, 70))
theorem zDay_p0 {Z : jdL} {t : Nat} (h : zDay Z t) : Z.2.1 t 0 = some (t + 1) := h.2.1.1
theorem zDay_a0 {Z : jdL} {t : Nat} (h : zDay Z t) : Z.1 (t + 1) = some (0, 7) := h.2.1.2
theorem zDay_p1 {Z : jdL} {t : Nat} (h : zDay Z t) : Z.2.1 t 1 = some (t + 2) := h.2.2.1.1
theorem zDay_a1 {Z : jdL} {t : Nat} (h : zDay Z t) : Z.1 (t + 2) = some (0, 7) := h.2.2.1.2
theorem zDay_p2 {Z : jdL} {t : Nat} (h : zDay Z t) : Z.2.1 t 2 = some (t + 3) := h.2.2.2.1.1
theorem zDay_a2 {Z : jdL} {t : Nat} (h : zDay Z t) : Z.1 (t + 3) = some (0, 128) := h.2.2.2.1.2
theorem zDay_p3 {Z : jdL} {t : Nat} (h : zDay Z t) : Z.2.1 t 3 = some (t + 4) := h.2.2.2.2.1
theorem zDay_a3 {Z : jdL} {t : Nat} (h : zDay Z t) : Z.1 (t + 4) = some (0, 70) := h.2.2.2.2.2
def zScribe (Z : jdL) (t : Nat) : Prop := Z.1 t = some (4 + 10, 0) ∧ (Z.2.1 t 0 = some (t + 1) ∧ Z.1 (t + 1) = some (0, 250))
theorem zScribe_p0 {Z : jdL} {t : Nat} (h : zScribe Z t) : Z.2.1 t 0 = some (t + 1) := h.2.1
theorem zScribe_a0 {Z : jdL} {t : Nat} (h : zScribe Z t) : Z.1 (t + 1) = some (0, 250) := h.2.2
def zShelf (Z : jdL) (t : Nat) : Prop := Z.1 t = some (5 + 10, 0) ∧ (Z.2.1 t 0 = some (t + 1) ∧ Z.1 (t + 1) = some (1, 40))
theorem zShelf_p0 {Z : jdL} {t : Nat} (h : zShelf Z t) : Z.2.1 t 0 = some (t + 1) := h.2.1
theorem zShelf_a0 {Z : jdL} {t : Nat} (h : zShelf Z t) : Z.1 (t + 1) = some (1, 40) := h.2.2
def zModel (Z : jdL) (t : Nat) : Prop := Z.1 t = some (11 + 10, 0) ∧ (Z.2.1 t 0 = some (t + 1) ∧ Z.1 (t + 1) = some (0, 8)) ∧ (Z.2.1 t 1 = some (t + 2) ∧ Z.1 (t + 2) = some (0, 8)) ∧ (Z.2.1 t 2 = some (t + 3) ∧ Z.1 (t + 3) = some (0, 8)) ∧ (Z.2.1 t 3 = some (t + 4) ∧ Z.1 (t + 4) = some (3, 8)) ∧ (Z.2.1 t 4 = some (t + 13) ∧ Z.1 (t + 13) = some (1, 40)) ∧ (Z.2.1 t 5 = some (t + 14) ∧ Z.1 (t + 14) = some (0, 8)) ∧ (Z.2.1 t 6 = some (t + 15) ∧ Z.1 (t + 15) = some (0, 8)) ∧ (Z.2.1 t 7 = some (t + 16) ∧ Z.1 (t + 16) = some (0, 250)) ∧ (Z.2.1 t 9 = some (t + 17) ∧ Z.1 (t + 17) = some (0, 8)) ∧ (Z.2.1 t 11 = some (t + 18) ∧ Z.1 (t + 18) = some (0, 8)) ∧ (Z.2.1 t 12 = some (t + 19) ∧ Z.1 (t + 19) = some (0, 8)) ∧ (Z.2.1 t 13 = some (t + 20) ∧ Z.1 (t + 20) = some (2, 8)) ∧ (Z.2.1 t 27 = some (t + 29) ∧ Z.1 (t + 29) = some (0, 2)) ∧ (Z.2.1 t 29 = some (t + 30) ∧ Z.1 (t + 30) = some (0, 70)) ∧ (Z.2.1 t 31 = some (t + 31) ∧ Z.1 (t + 31) = some (0, 7)) ∧ (Z.2.1 t 32 = some (t + 32) ∧ Z.1 (t + 32) = some (0, 7)) ∧ (Z.2.1 t 35 = some (t + 33) ∧ Z.1 (t + 33) = some (0, 7)) ∧ (Z.2.1 t 36 = some (t + 34) ∧ Z.1 (t + 34) = some (0, 1024)) ∧ (Z.2.1 t 39 = some (t + 35) ∧ Z.1 (t + 35) = some (0, 10)) ∧ (Z.2.1 t 40 = some (t + 36) ∧ Z.1 (t + 36) = some (0, 10)) ∧ (Z.2.1 t 41 = some (t + 37) ∧ Z.1 (t + 37) = some (0, 10)) ∧ (∀ i, i < 8 → Z.2.1 (t + 4) i = some (t + 5 + i) ∧ Z.1 (t + 5 + i) = some (1, 40)) ∧ (∀ i, i < 8 → Z.2.1 (t + 20) i = some (t + 21 + i) ∧ Z.1 (t + 21 + i) = some (0, 8))
theorem zModel_p0 {Z : jdL} {t : Nat} (h : zModel Z t) : Z.2.1 t 0 = some (t + 1) := h.2.1.1
theorem zModel_a0 {Z : jdL} {t : Nat} (h : zModel Z t) : Z.1 (t + 1) = some (0, 8) := h.2.1.2
theorem zModel_p1 {Z : jdL} {t : Nat} (h : zModel Z t) : Z.2.1 t 1 = some (t + 2) := h.2.2.1.1
theorem zModel_a1 {Z : jdL} {t : Nat} (h : zModel Z t) : Z.1 (t + 2) = some (0, 8) := h.2.2.1.2
theorem zModel_p2 {Z : jdL} {t : Nat} (h : zModel Z t) : Z.2.1 t 2 = some (t + 3) := h.2.2.2.1.1
theorem zModel_a2 {Z : jdL} {t : Nat} (h : zModel Z t) : Z.1 (t + 3) = some (0, 8) := h.2.2.2.1.2
theorem zModel_p3 {Z : jdL} {t : Nat} (h : zModel Z t) : Z.2.1 t 3 = some (t + 4) := h.2.2.2.2.1.1
theorem zModel_a3 {Z : jdL} {t : Nat} (h : zModel Z t) : Z.1 (t + 4) = some (3, 8) := h.2.2.2.2.1.2
theorem zModel_p4 {Z : jdL} {t : Nat} (h : zModel Z t) : Z.2.1 t 4 = some (t + 13) := h.2.2.2.2.2.1.1
theorem zModel_a4 {Z : jdL} {t : Nat} (h : zModel Z t) : Z.1 (t + 13) = some (1, 40) := h.2.2.2.2.2.1.2
theorem zModel_p5 {Z : jdL} {t : Nat} (h : zModel Z t) : Z.2.1 t 5 = some (t + 14) := h.2.2.2.2.2.2.1.1
theorem zModel_a5 {Z : jdL} {t : Nat} (h : zModel Z t) : Z.1 (t + 14) = some (0, 8) := h.2.2.2.2.2.2.1.2
theorem zModel_p6 {Z : jdL} {t : Nat} (h : zModel Z t) : Z.2.1 t 6 = some (t + 15) := h.2.2.2.2.2.2.2.1.1
theorem zModel_a6 {Z : jdL} {t : Nat} (h : zModel Z t) : Z.1 (t + 15) = some (0, 8) := h.2.2.2.2.2.2.2.1.2
theorem zModel_p7 {Z : jdL} {t : Nat} (h : zModel Z t) : Z.2.1 t 7 = some (t + 16) := h.2.2.2.2.2.2.2.2.1.1
theorem zModel_a7 {Z : jdL} {t : Nat} (h : zModel Z t) : Z.1 (t + 16) = some (0, 250) := h.2.2.2.2.2.2.2.2.1.2
theorem zModel_p9 {Z : jdL} {t : Nat} (h : zModel Z t) : Z.2.1 t 9 = some (t + 17) := h.2.2.2.2.2.2.2.2.2.1.1
theorem zModel_a9 {Z : jdL} {t : Nat} (h : zModel Z t) : Z.1 (t + 17) = some (0, 8) := h.2.2.2.2.2.2.2.2.2.1.2
theorem zModel_p11 {Z : jdL} {t : Nat} (h : zModel Z t) : Z.2.1 t 11 = some (t + 18) := h.2.2.2.2.2.2.2.2.2.2.1.1
theorem zModel_a11 {Z : jdL} {t : Nat} (h : zModel Z t) : Z.1 (t + 18) = some (0, 8) := h.2.2.2.2.2.2.2.2.2.2.1.2
theorem zModel_p12 {Z : jdL} {t : Nat} (h : zModel Z t) : Z.2.1 t 12 = some (t + 19) := h.2.2.2.2.2.2.2.2.2.2.2.1.1
theorem zModel_a12 {Z : jdL} {t : Nat} (h : zModel Z t) : Z.1 (t + 19) = some (0, 8) := h.2.2.2.2.2.2.2.2.2.2.2.1.2
theorem zModel_p13 {Z : jdL} {t : Nat} (h : zModel Z t) : Z.2.1 t 13 = some (t + 20) := h.2.2.2.2.2.2.2.2.2.2.2.2.1.1
theorem zModel_a13 {Z : jdL} {t : Nat} (h : zModel Z t) : Z.1 (t + 20) = some (2, 8) := h.2.2.2.2.2.2.2.2.2.2.2.2.1.2
theorem zModel_p27 {Z : jdL} {t : Nat} (h : zModel Z t) : Z.2.1 t 27 = some (t + 29) := h.2.2.2.2.2.2.2.2.2.2.2.2.2.1.1
theorem zModel_a27 {Z : jdL} {t : Nat} (h : zModel Z t) : Z.1 (t + 29) = some (0, 2) := h.2.2.2.2.2.2.2.2.2.2.2.2.2.1.2
theorem zModel_p29 {Z : jdL} {t : Nat} (h : zModel Z t) : Z.2.1 t 29 = some (t + 30) := h.2.2.2.2.2.2.2.2.2.2.2.2.2.2.1.1
theorem zModel_a29 {Z : jdL} {t : Nat} (h : zModel Z t) : Z.1 (t + 30) = some (0, 70) := h.2.2.2.2.2.2.2.2.2.2.2.2.2.2.1.2
theorem zModel_p31 {Z : jdL} {t : Nat} (h : zModel Z t) : Z.2.1 t 31 = some (t + 31) := h.2.2.2.2.2.2.2.2.2.2.2.2.2.2.2.1.1
theorem zModel_a31 {Z : jdL} {t : Nat} (h : zModel Z t) : Z.1 (t + 31) = some (0, 7) := h.2.2.2.2.2.2.2.2.2.2.2.2.2.2.2.1.2
theorem zModel_p32 {Z : jdL} {t : Nat} (h : zModel Z t) : Z.2.1 t 32 = some (t + 32) := h.2.2.2.2.2.2.2.2.2.2.2.2.2.2.2.2.1.1
theorem zModel_a32 {Z : jdL} {t : Nat} (h : zModel Z t) : Z.1 (t + 32) = some (0, 7) := h.2.2.2.2.2.2.2.2.2.2.2.2.2.2.2.2.1.2
theorem zModel_p35 {Z : jdL} {t : Nat} (h : zModel Z t) : Z.2.1 t 35 = some (t + 33) := h.2.2.2.2.2.2.2.2.2.2.2.2.2.2.2.2.2.1.1
theorem zModel_a35 {Z : jdL} {t : Nat} (h : zModel Z t) : Z.1 (t + 33) = some (0, 7) := h.2.2.2.2.2.2.2.2.2.2.2.2.2.2.2.2.2.1.2
theorem zModel_p36 {Z : jdL} {t : Nat} (h : zModel Z t) : Z.2.1 t 36 = some (t + 34) := h.2.2.2.2.2.2.2.2.2.2.2.2.2.2.2.2.2.2.1.1
theorem zModel_a36 {Z : jdL} {t : Nat} (h : zModel Z t) : Z.1 (t + 34) = some (0, 1024) := h.2.2.2.2.2.2.2.2.2.2.2.2.2.2.2.2.2.2.1.2
theorem zModel_p39 {Z : jdL} {t : Nat} (h : zModel Z t) : Z.2.1 t 39 = some (t + 35) := h.2.2.2.2.2.2.2.2.2.2.2.2.2.2.2.2.2.2.2.1.1
theorem zModel_a39 {Z : jdL} {t : Nat} (h : zModel Z t) : Z.1 (t + 35) = some (0, 10) := h.2.2.2.2.2.2.2.2.2.2.2.2.2.2.2.2.2.2.2.1.2
theorem zModel_p40 {Z : jdL} {t : Nat} (h : zModel Z t) : Z.2.1 t 40 = some (t + 36) := h.2.2.2.2.2.2.2.2.2.2.2.2.2.2.2.2.2.2.2.2.1.1
theorem zModel_a40 {Z : jdL} {t : Nat} (h : zModel Z t) : Z.1 (t + 36) = some (0, 10) := h.2.2.2.2.2.2.2.2.2.2.2.2.2.2.2.2.2.2.2.2.1.2
theorem zModel_p41 {Z : jdL} {t : Nat} (h : zModel Z t) : Z.2.1 t 41 = some (t + 37) := h.2.2.2.2.2.2.2.2.2.2.2.2.2.2.2.2.2.2.2.2.2.1.1
theorem zModel_a41 {Z : jdL} {t : Nat} (h : zModel Z t) : Z.1 (t + 37) = some (0, 10) := h.2.2.2.2.2.2.2.2.2.2.2.2.2.2.2.2.2.2.2.2.2.1.2
theorem zModel_rows {Z : jdL} {t i : Nat} (h : zModel Z t) (hi : i < 8) : Z.2.1 (t + 4) i = some (t + 5 + i) := (h.2.2.2.2.2.2.2.2.2.2.2.2.2.2.2.2.2.2.2.2.2.2.1 i hi).1
theorem zModel_rowsA {Z : jdL} {t i : Nat} (h : zModel Z t) (hi : i < 8) : Z.1 (t + 5 + i) = some (1, 40) := (h.2.2.2.2.2.2.2.2.2.2.2.2.2.2.2.2.2.2.2.2.2.2.1 i hi).2
theorem zModel_known {Z : jdL} {t i : Nat} (h : zModel Z t) (hi : i < 8) : Z.2.1 (t + 20) i = some (t + 21 + i) := (h.2.2.2.2.2.2.2.2.2.2.2.2.2.2.2.2.2.2.2.2.2.2.2 i hi).1
theorem zModel_knownA {Z : jdL} {t i : Nat} (h : zModel Z t) (hi : i < 8) : Z.1 (t + 21 + i) = some (0, 8) := (h.2.2.2.2.2.2.2.2.2.2.2.2.2.2.2.2.2.2.2.2.2.2.2 i hi).2
def zX (Z : jdL) : Prop := Z.1 0 = some (10 + 10, 0) ∧ (Z.2.1 0 0 = some 1 ∧ zTown Z 1) ∧ (Z.2.1 0 1 = some 5 ∧ zTown Z 5) ∧ (Z.2.1 0 2 = some 9 ∧ zTown Z 9) ∧ (Z.2.1 0 3 = some 13 ∧ zTies Z 13) ∧ (Z.2.1 0 4 = some 20 ∧ zDay Z 20) ∧ (Z.2.1 0 5 = some 25 ∧ zScribe Z 25) ∧ (Z.2.1 0 6 = some 27 ∧ Z.1 27 = some (4, 8)) ∧ (Z.2.1 0 7 = some 28 ∧ Z.1 28 = some (0, 7)) ∧ (∀ i, i < 8 → Z.2.1 27 i = some (29 + 2 * i) ∧ zShelf Z (29 + 2 * i))
theorem zX_p0 {Z : jdL} (h : zX Z) : Z.2.1 0 0 = some 1 := h.2.1.1
theorem zX_o0 {Z : jdL} (h : zX Z) : zTown Z 1 := h.2.1.2
theorem zX_p1 {Z : jdL} (h : zX Z) : Z.2.1 0 1 = some 5 := h.2.2.1.1
theorem zX_o1 {Z : jdL} (h : zX Z) : zTown Z 5 := h.2.2.1.2
theorem zX_p2 {Z : jdL} (h : zX Z) : Z.2.1 0 2 = some 9 := h.2.2.2.1.1
theorem zX_o2 {Z : jdL} (h : zX Z) : zTown Z 9 := h.2.2.2.1.2
theorem zX_p3 {Z : jdL} (h : zX Z) : Z.2.1 0 3 = some 13 := h.2.2.2.2.1.1
theorem zX_o3 {Z : jdL} (h : zX Z) : zTies Z 13 := h.2.2.2.2.1.2
theorem zX_p4 {Z : jdL} (h : zX Z) : Z.2.1 0 4 = some 20 := h.2.2.2.2.2.1.1
theorem zX_o4 {Z : jdL} (h : zX Z) : zDay Z 20 := h.2.2.2.2.2.1.2
theorem zX_p5 {Z : jdL} (h : zX Z) : Z.2.1 0 5 = some 25 := h.2.2.2.2.2.2.1.1
theorem zX_o5 {Z : jdL} (h : zX Z) : zScribe Z 25 := h.2.2.2.2.2.2.1.2
theorem zX_p6 {Z : jdL} (h : zX Z) : Z.2.1 0 6 = some 27 := h.2.2.2.2.2.2.2.1.1
theorem zX_a6 {Z : jdL} (h : zX Z) : Z.1 27 = some (4, 8) := h.2.2.2.2.2.2.2.1.2
theorem zX_p7 {Z : jdL} (h : zX Z) : Z.2.1 0 7 = some 28 := h.2.2.2.2.2.2.2.2.1.1
theorem zX_a7 {Z : jdL} (h : zX Z) : Z.1 28 = some (0, 7) := h.2.2.2.2.2.2.2.2.1.2
theorem zX_sh {Z : jdL} {i : Nat} (h : zX Z) (hi : i < 8) : Z.2.1 27 i = some (29 + 2 * i) := (h.2.2.2.2.2.2.2.2.2 i hi).1
theorem zX_shelf {Z : jdL} {i : Nat} (h : zX Z) (hi : i < 8) : zShelf Z (29 + 2 * i) := (h.2.2.2.2.2.2.2.2.2 i hi).2
theorem uI_ss (I : jdI) (id k : Nat) (v : Int32) : uI I id k v id k = v := by
  rw [uI_s]
  exact if_pos rfl
theorem uI_sk {I : jdI} {id k j : Nat} {v e : Int32} (h : j ≠ k) (he : I id j = e) : uI I id k v id j = e := by
  rw [uI_s]
  exact (if_neg h).trans he
theorem uI_ne {I : jdI} {id a k j : Nat} {v e : Int32} (h : a ≠ id) (he : I a j = e) : uI I id k v a j = e := by
  rw [uI_n I k v h]
  exact he
theorem jd_getIe {G : jdG} {M : jdM} {F : jdF} {n rc rs pc : Nat} {lv : List (Nat × Value)} {st : List Value} {Z : jdL} {I : jdI} {J : jdJ} {id ci k index : Nat} {e : Int32} (he : I id k = e) (hf : jdFg ci k M.1.cls index) (hT : Z.1 id = some (ci + 10, 0)) (hk : (jdk ci)[k]? = some false) (hdg : decode M.2.1 pc = .ok (.getfield index, 3)) (kk : Jd G M F n rc rs (pc + 3) lv (.int e :: st) Z I J) : Jd G M F n rc rs pc lv (.ref (gb G + id) :: st) Z I J := by
  subst he
  exact jd_getI hf hT hk hdg kk
theorem jd_ialdE {G : jdG} {M : jdM} {F : jdF} {n rc rs pc : Nat} {lv : List (Nat × Value)} {st : List Value} {Z : jdL} {I : jdI} {J : jdJ} {id len : Nat} {i e : Int32} (he : I id i.toNatClampNeg = e) (hT : Z.1 id = some (0, len)) (hin : vp_in i len) (hdg : decode M.2.1 pc = .ok (.iaload, 1)) (kk : Jd G M F n rc rs (pc + 1) lv (.int e :: st) Z I J) : Jd G M F n rc rs pc lv (.int i :: .ref (gb G + id) :: st) Z I J := by
  subst he
  exact jd_iald hT hin hdg kk
def sLen : List Nat := [6, 4, 5, 7, 5, 6, 3]
def sByt : List (List Int32) := [[112, 101, 114, 115, 111, 110], [107, 110, 111, 119], [115, 105, 110, 99, 101], [115, 116, 114, 97, 110, 103, 101], [115, 101, 97, 116, 115], [109, 101, 109, 111, 114, 121], [109, 101, 116]]
/-- what the law's start says beside the words: nest mates, casts, arrays of arrays, strings (at sA, their bytes at sV), two statics of the JDK -/
def gOK (G : jdG) (sA sV : Nat → Nat) : Prop := ∀ U : State, G.2.2.2.2 U → va_Decl U ⟨RX2, "kind", "()I"⟩ ∧ va_AO RX6 U ∧ (va_Nw (.methodLinkNest RX11 9 yX9_init RX11) U ∧ va_Nw (.methodLinkNest RX11 24 yX8_init RX11) U ∧ va_Nw (.methodLinkNest RX11 31 yX3_init RX11) U ∧ va_Nw (.methodLinkNest RX11 38 yX5_init RX11) U ∧ va_Nw (.methodLinkNest RX11 53 yX6_init RX11) U) ∧ (va_Nw (.castable RX10 RX4) U ∧ va_Nw (.castable RX0 RX1) U ∧ va_Nw (.castable RX7 RX1) U) ∧ (va_Nc RX0 RX4 U ∧ va_Nc RX1 RX4 U ∧ va_Nc RX7 RX4 U ∧ va_Nc RX4 RX1 U ∧ va_Nc RX10 RX1 U) ∧ ((Cond.arrayOver (.array .int)).before #[] U = true ∧ (Cond.arrayOver (.array .long)).before #[] U = true) ∧ (vk_R RX5 56 "person" (sA 0) U ∧ vk_R RX5 65 "know" (sA 1) U ∧ vk_R RX5 101 "since" (sA 2) U ∧ vk_R RX5 71 "strange" (sA 3) U ∧ vk_R RX5 73 "seats" (sA 4) U ∧ vk_R RX5 78 "memory" (sA 5) U ∧ vk_R RX5 83 "met" (sA 6) U ∧ vk_R RX12 216 "person" (sA 7) U ∧ vk_R RX12 218 "know" (sA 8) U ∧ vk_R RX12 207 "since" (sA 9) U ∧ vk_R RX12 223 "strange" (sA 10) U ∧ vk_R RX12 225 "seats" (sA 11) U ∧ vk_R RX12 226 "memory" (sA 12) U ∧ vk_R RX12 227 "met" (sA 13) U) ∧ (vk_S 7 sLen sByt (fun i => sA i) (fun i => sV i) (fun q => gb G ≤ q) U G.2.2.1 ∧ vk_S 7 sLen sByt (fun i => sA (7 + i)) (fun i => sV (7 + i)) (fun q => gb G ≤ q) U G.2.2.1) ∧ va_Z RJ0 "COMPACT_STRINGS" "Z" (.int 1) (fun q => gb G ≤ q) U G.2.2.1 ∧ va_Zq RJ3 "SIOOBE_FORMATTER" "Ljava/util/function/BiFunction;" (fun q => gb G ≤ q) U G.2.2.1
theorem gOK_decl {G : jdG} {sA sV : Nat → Nat} (h : gOK G sA sV) (U : State) (hU : G.2.2.2.2 U) : va_Decl U ⟨RX2, "kind", "()I"⟩ := (h U hU).1
theorem gOK_ao {G : jdG} {sA sV : Nat → Nat} (h : gOK G sA sV) (U : State) (hU : G.2.2.2.2 U) : va_AO RX6 U := (h U hU).2.1
theorem gOK_nest {G : jdG} {sA sV : Nat → Nat} (h : gOK G sA sV) (U : State) (hU : G.2.2.2.2 U) : (va_Nw (.methodLinkNest RX11 9 yX9_init RX11) U ∧ va_Nw (.methodLinkNest RX11 24 yX8_init RX11) U ∧ va_Nw (.methodLinkNest RX11 31 yX3_init RX11) U ∧ va_Nw (.methodLinkNest RX11 38 yX5_init RX11) U ∧ va_Nw (.methodLinkNest RX11 53 yX6_init RX11) U) := (h U hU).2.2.1
theorem gOK_cast {G : jdG} {sA sV : Nat → Nat} (h : gOK G sA sV) (U : State) (hU : G.2.2.2.2 U) : (va_Nw (.castable RX10 RX4) U ∧ va_Nw (.castable RX0 RX1) U ∧ va_Nw (.castable RX7 RX1) U) := (h U hU).2.2.2.1
theorem gOK_ncast {G : jdG} {sA sV : Nat → Nat} (h : gOK G sA sV) (U : State) (hU : G.2.2.2.2 U) : (va_Nc RX0 RX4 U ∧ va_Nc RX1 RX4 U ∧ va_Nc RX7 RX4 U ∧ va_Nc RX4 RX1 U ∧ va_Nc RX10 RX1 U) := (h U hU).2.2.2.2.1
theorem gOK_over {G : jdG} {sA sV : Nat → Nat} (h : gOK G sA sV) (U : State) (hU : G.2.2.2.2 U) : ((Cond.arrayOver (.array .int)).before #[] U = true ∧ (Cond.arrayOver (.array .long)).before #[] U = true) := (h U hU).2.2.2.2.2.1
theorem gOK_str {G : jdG} {sA sV : Nat → Nat} (h : gOK G sA sV) (U : State) (hU : G.2.2.2.2 U) : (vk_R RX5 56 "person" (sA 0) U ∧ vk_R RX5 65 "know" (sA 1) U ∧ vk_R RX5 101 "since" (sA 2) U ∧ vk_R RX5 71 "strange" (sA 3) U ∧ vk_R RX5 73 "seats" (sA 4) U ∧ vk_R RX5 78 "memory" (sA 5) U ∧ vk_R RX5 83 "met" (sA 6) U ∧ vk_R RX12 216 "person" (sA 7) U ∧ vk_R RX12 218 "know" (sA 8) U ∧ vk_R RX12 207 "since" (sA 9) U ∧ vk_R RX12 223 "strange" (sA 10) U ∧ vk_R RX12 225 "seats" (sA 11) U ∧ vk_R RX12 226 "memory" (sA 12) U ∧ vk_R RX12 227 "met" (sA 13) U) := (h U hU).2.2.2.2.2.2.1
theorem gOK_sk {G : jdG} {sA sV : Nat → Nat} (h : gOK G sA sV) (U : State) (hU : G.2.2.2.2 U) : (vk_S 7 sLen sByt (fun i => sA i) (fun i => sV i) (fun q => gb G ≤ q) U G.2.2.1 ∧ vk_S 7 sLen sByt (fun i => sA (7 + i)) (fun i => sV (7 + i)) (fun q => gb G ≤ q) U G.2.2.1) := (h U hU).2.2.2.2.2.2.2.1
theorem gOK_cs {G : jdG} {sA sV : Nat → Nat} (h : gOK G sA sV) (U : State) (hU : G.2.2.2.2 U) : va_Z RJ0 "COMPACT_STRINGS" "Z" (.int 1) (fun q => gb G ≤ q) U G.2.2.1 := (h U hU).2.2.2.2.2.2.2.2.1
theorem gOK_sf {G : jdG} {sA sV : Nat → Nat} (h : gOK G sA sV) (U : State) (hU : G.2.2.2.2 U) : va_Zq RJ3 "SIOOBE_FORMATTER" "Ljava/util/function/BiFunction;" (fun q => gb G ≤ q) U G.2.2.1 := (h U hU).2.2.2.2.2.2.2.2.2
def zMan (Z : jdL) (id : Nat) : Prop := ∃ ci, (ci = 0 ∨ ci = 1 ∨ ci = 3 ∨ ci = 6 ∨ ci = 9) ∧ Z.1 id = some (ci + 10, 0)
def zCho (Z : jdL) (id : Nat) : Prop := ∃ ci, (ci = 0 ∨ ci = 1 ∨ ci = 6) ∧ Z.1 id = some (ci + 10, 0)
def a_pick : List (Nat × jdM) := [(0, mX1_pick), (1, mX1_pick), (3, mX4_pick), (6, mX1_pick), (9, mX10_pick)]
theorem jd_vpick {G : jdG} {M : jdM} {F : jdF} {n rc rs pc : Nat} {lv : List (Nat × Value)} {st : List Value} {Z : jdL} {I : jdI} {J : jdJ} {index id : Nat} {av st0 : List Value} {K : Int32 → jdI → jdJ → Prop} (hm : zMan Z id) (hw : Cond.methodLink M.1.cls index ⟨RX2, "pick", "(LThreeStrangers$Ties;II)I"⟩ ∈ jdW) (hna : av.length = 3) (hst0 : st0 = av.reverse ++ .ref (gb G + id) :: st) (hst : (st.map fun v => v.category).sum ≤ 8) (hdg : decode M.2.1 pc = .ok (.invokevirtual index, 3)) (kk : ∀ q ∈ a_pick, Z.1 id = some (q.1 + 10, 0) → Cl G q.2 n 0 0 (.ref (gb G + id) :: av) Z I J (qi Z K)) (hk : ∀ (v : Int32) (I2 : jdI) (J2 : jdJ), K v I2 J2 → Jd G M F (n + 1) rc rs (pc + 3) lv (.int v :: st) Z I2 J2) : Jd G M F (n + 1) rc rs pc lv st0 Z I J := by
  obtain ⟨ci, hci, hT⟩ := hm
  rcases hci with rfl | rfl | rfl | rfl | rfl
  · exact jd_callUi (M2 := mX1_pick) (x := ⟨RX2, "pick", "(LThreeStrangers$Ties;II)I"⟩) (owner := RX2) (C := RX0) (ci := 0) (T := TX0) (N := 1) kX1_pick ⟨(jdW_in (List.mem_of_getElem? (i := 514) (by decide +kernel)) (by decide +kernel)), (jdW_in (List.mem_of_getElem? (i := 513) (by decide +kernel)) (by decide +kernel)), (jdW_in (List.mem_of_getElem? (i := 512) (by decide +kernel)) (by decide +kernel))⟩ ⟨by decide +kernel, by decide +kernel, rfl⟩ (Or.inl ⟨sX2_pick, _, _, _, (kX2_pick).1⟩) rfl hT hw hna hst0 hst hdg (kk (0, mX1_pick) (by simp [a_pick]) hT) hk
  · exact jd_callUi (M2 := mX1_pick) (x := ⟨RX2, "pick", "(LThreeStrangers$Ties;II)I"⟩) (owner := RX2) (C := RX1) (ci := 1) (T := TX1) (N := 1) kX1_pick ⟨(jdW_in (List.mem_of_getElem? (i := 514) (by decide +kernel)) (by decide +kernel)), (jdW_in (List.mem_of_getElem? (i := 549) (by decide +kernel)) (by decide +kernel)), (jdW_in (List.mem_of_getElem? (i := 512) (by decide +kernel)) (by decide +kernel))⟩ ⟨by decide +kernel, by decide +kernel, rfl⟩ (Or.inl ⟨sX2_pick, _, _, _, (kX2_pick).1⟩) rfl hT hw hna hst0 hst hdg (kk (1, mX1_pick) (by simp [a_pick]) hT) hk
  · exact jd_callUi (M2 := mX4_pick) (x := ⟨RX2, "pick", "(LThreeStrangers$Ties;II)I"⟩) (owner := RX2) (C := RX4) (ci := 3) (T := TX4) (N := 1) kX4_pick ⟨(jdW_in (List.mem_of_getElem? (i := 551) (by decide +kernel)) (by decide +kernel)), (jdW_in (List.mem_of_getElem? (i := 550) (by decide +kernel)) (by decide +kernel)), (jdW_in (List.mem_of_getElem? (i := 512) (by decide +kernel)) (by decide +kernel))⟩ ⟨by decide +kernel, by decide +kernel, rfl⟩ (Or.inl ⟨sX2_pick, _, _, _, (kX2_pick).1⟩) rfl hT hw hna hst0 hst hdg (kk (3, mX4_pick) (by simp [a_pick]) hT) hk
  · exact jd_callUi (M2 := mX1_pick) (x := ⟨RX2, "pick", "(LThreeStrangers$Ties;II)I"⟩) (owner := RX2) (C := RX7) (ci := 6) (T := TX7) (N := 1) kX1_pick ⟨(jdW_in (List.mem_of_getElem? (i := 514) (by decide +kernel)) (by decide +kernel)), (jdW_in (List.mem_of_getElem? (i := 557) (by decide +kernel)) (by decide +kernel)), (jdW_in (List.mem_of_getElem? (i := 512) (by decide +kernel)) (by decide +kernel))⟩ ⟨by decide +kernel, by decide +kernel, rfl⟩ (Or.inl ⟨sX2_pick, _, _, _, (kX2_pick).1⟩) rfl hT hw hna hst0 hst hdg (kk (6, mX1_pick) (by simp [a_pick]) hT) hk
  · exact jd_callUi (M2 := mX10_pick) (x := ⟨RX2, "pick", "(LThreeStrangers$Ties;II)I"⟩) (owner := RX2) (C := RX10) (ci := 9) (T := TX10) (N := 1) kX10_pick ⟨(jdW_in (List.mem_of_getElem? (i := 559) (by decide +kernel)) (by decide +kernel)), (jdW_in (List.mem_of_getElem? (i := 558) (by decide +kernel)) (by decide +kernel)), (jdW_in (List.mem_of_getElem? (i := 512) (by decide +kernel)) (by decide +kernel))⟩ ⟨by decide +kernel, by decide +kernel, rfl⟩ (Or.inl ⟨sX2_pick, _, _, _, (kX2_pick).1⟩) rfl hT hw hna hst0 hst hdg (kk (9, mX10_pick) (by simp [a_pick]) hT) hk
def a_kind : List (Nat × jdM) := [(0, mX0_kind), (1, mX1_kind), (3, mX4_kind), (6, mX7_kind), (9, mX10_kind)]
theorem jd_vkind {G : jdG} {M : jdM} {F : jdF} {n rc rs pc : Nat} {lv : List (Nat × Value)} {st : List Value} {Z : jdL} {I : jdI} {J : jdJ} {index id : Nat} {av st0 : List Value} {K : Int32 → jdI → jdJ → Prop} {sA sV : Nat → Nat} (hG : gOK G sA sV) (hm : zMan Z id) (hw : Cond.methodLink M.1.cls index ⟨RX2, "kind", "()I"⟩ ∈ jdW) (hna : av.length = 0) (hst0 : st0 = av.reverse ++ .ref (gb G + id) :: st) (hst : (st.map fun v => v.category).sum ≤ 8) (hdg : decode M.2.1 pc = .ok (.invokevirtual index, 3)) (kk : ∀ q ∈ a_kind, Z.1 id = some (q.1 + 10, 0) → Cl G q.2 n 0 0 (.ref (gb G + id) :: av) Z I J (qi Z K)) (hk : ∀ (v : Int32) (I2 : jdI) (J2 : jdJ), K v I2 J2 → Jd G M F (n + 1) rc rs (pc + 3) lv (.int v :: st) Z I2 J2) : Jd G M F (n + 1) rc rs pc lv st0 Z I J := by
  obtain ⟨ci, hci, hT⟩ := hm
  rcases hci with rfl | rfl | rfl | rfl | rfl
  · exact jd_callUi (M2 := mX0_kind) (x := ⟨RX2, "kind", "()I"⟩) (owner := RX2) (C := RX0) (ci := 0) (T := TX0) (N := 1) kX0_kind ⟨(jdW_in (List.mem_of_getElem? (i := 379) (by decide +kernel)) (by decide +kernel)), (jdW_in (List.mem_of_getElem? (i := 378) (by decide +kernel)) (by decide +kernel)), (jdW_in (List.mem_of_getElem? (i := 377) (by decide +kernel)) (by decide +kernel))⟩ ⟨by decide +kernel, by decide +kernel, rfl⟩ (Or.inr (fun U hU => gOK_decl hG U hU)) rfl hT hw hna hst0 hst hdg (kk (0, mX0_kind) (by simp [a_kind]) hT) hk
  · exact jd_callUi (M2 := mX1_kind) (x := ⟨RX2, "kind", "()I"⟩) (owner := RX2) (C := RX1) (ci := 1) (T := TX1) (N := 1) kX1_kind ⟨(jdW_in (List.mem_of_getElem? (i := 382) (by decide +kernel)) (by decide +kernel)), (jdW_in (List.mem_of_getElem? (i := 381) (by decide +kernel)) (by decide +kernel)), (jdW_in (List.mem_of_getElem? (i := 377) (by decide +kernel)) (by decide +kernel))⟩ ⟨by decide +kernel, by decide +kernel, rfl⟩ (Or.inr (fun U hU => gOK_decl hG U hU)) rfl hT hw hna hst0 hst hdg (kk (1, mX1_kind) (by simp [a_kind]) hT) hk
  · exact jd_callUi (M2 := mX4_kind) (x := ⟨RX2, "kind", "()I"⟩) (owner := RX2) (C := RX4) (ci := 3) (T := TX4) (N := 1) kX4_kind ⟨(jdW_in (List.mem_of_getElem? (i := 385) (by decide +kernel)) (by decide +kernel)), (jdW_in (List.mem_of_getElem? (i := 384) (by decide +kernel)) (by decide +kernel)), (jdW_in (List.mem_of_getElem? (i := 377) (by decide +kernel)) (by decide +kernel))⟩ ⟨by decide +kernel, by decide +kernel, rfl⟩ (Or.inr (fun U hU => gOK_decl hG U hU)) rfl hT hw hna hst0 hst hdg (kk (3, mX4_kind) (by simp [a_kind]) hT) hk
  · exact jd_callUi (M2 := mX7_kind) (x := ⟨RX2, "kind", "()I"⟩) (owner := RX2) (C := RX7) (ci := 6) (T := TX7) (N := 1) kX7_kind ⟨(jdW_in (List.mem_of_getElem? (i := 388) (by decide +kernel)) (by decide +kernel)), (jdW_in (List.mem_of_getElem? (i := 387) (by decide +kernel)) (by decide +kernel)), (jdW_in (List.mem_of_getElem? (i := 377) (by decide +kernel)) (by decide +kernel))⟩ ⟨by decide +kernel, by decide +kernel, rfl⟩ (Or.inr (fun U hU => gOK_decl hG U hU)) rfl hT hw hna hst0 hst hdg (kk (6, mX7_kind) (by simp [a_kind]) hT) hk
  · exact jd_callUi (M2 := mX10_kind) (x := ⟨RX2, "kind", "()I"⟩) (owner := RX2) (C := RX10) (ci := 9) (T := TX10) (N := 1) kX10_kind ⟨(jdW_in (List.mem_of_getElem? (i := 391) (by decide +kernel)) (by decide +kernel)), (jdW_in (List.mem_of_getElem? (i := 390) (by decide +kernel)) (by decide +kernel)), (jdW_in (List.mem_of_getElem? (i := 377) (by decide +kernel)) (by decide +kernel))⟩ ⟨by decide +kernel, by decide +kernel, rfl⟩ (Or.inr (fun U hU => gOK_decl hG U hU)) rfl hT hw hna hst0 hst hdg (kk (9, mX10_kind) (by simp [a_kind]) hT) hk
def a_number : List (Nat × jdM) := [(0, mX2_number), (1, mX2_number), (3, mX2_number), (6, mX2_number), (9, mX2_number)]
theorem jd_vnumber {G : jdG} {M : jdM} {F : jdF} {n rc rs pc : Nat} {lv : List (Nat × Value)} {st : List Value} {Z : jdL} {I : jdI} {J : jdJ} {index id : Nat} {av st0 : List Value} {K : Int32 → jdI → jdJ → Prop} (hm : zMan Z id) (hw : Cond.methodLink M.1.cls index ⟨RX2, "number", "()I"⟩ ∈ jdW) (hna : av.length = 0) (hst0 : st0 = av.reverse ++ .ref (gb G + id) :: st) (hst : (st.map fun v => v.category).sum ≤ 8) (hdg : decode M.2.1 pc = .ok (.invokevirtual index, 3)) (kk : ∀ q ∈ a_number, Z.1 id = some (q.1 + 10, 0) → Cl G q.2 n 0 0 (.ref (gb G + id) :: av) Z I J (qi Z K)) (hk : ∀ (v : Int32) (I2 : jdI) (J2 : jdJ), K v I2 J2 → Jd G M F (n + 1) rc rs (pc + 3) lv (.int v :: st) Z I2 J2) : Jd G M F (n + 1) rc rs pc lv st0 Z I J := by
  obtain ⟨ci, hci, hT⟩ := hm
  rcases hci with rfl | rfl | rfl | rfl | rfl
  · exact jd_callUi (M2 := mX2_number) (x := ⟨RX2, "number", "()I"⟩) (owner := RX2) (C := RX0) (ci := 0) (T := TX0) (N := 1) kX2_number ⟨(jdW_in (List.mem_of_getElem? (i := 474) (by decide +kernel)) (by decide +kernel)), (jdW_in (List.mem_of_getElem? (i := 476) (by decide +kernel)) (by decide +kernel)), (jdW_in (List.mem_of_getElem? (i := 475) (by decide +kernel)) (by decide +kernel))⟩ ⟨by decide +kernel, by decide +kernel, rfl⟩ (Or.inl ⟨sX2_number, _, _, _, (kX2_number).1⟩) rfl hT hw hna hst0 hst hdg (kk (0, mX2_number) (by simp [a_number]) hT) hk
  · exact jd_callUi (M2 := mX2_number) (x := ⟨RX2, "number", "()I"⟩) (owner := RX2) (C := RX1) (ci := 1) (T := TX1) (N := 1) kX2_number ⟨(jdW_in (List.mem_of_getElem? (i := 474) (by decide +kernel)) (by decide +kernel)), (jdW_in (List.mem_of_getElem? (i := 477) (by decide +kernel)) (by decide +kernel)), (jdW_in (List.mem_of_getElem? (i := 475) (by decide +kernel)) (by decide +kernel))⟩ ⟨by decide +kernel, by decide +kernel, rfl⟩ (Or.inl ⟨sX2_number, _, _, _, (kX2_number).1⟩) rfl hT hw hna hst0 hst hdg (kk (1, mX2_number) (by simp [a_number]) hT) hk
  · exact jd_callUi (M2 := mX2_number) (x := ⟨RX2, "number", "()I"⟩) (owner := RX2) (C := RX4) (ci := 3) (T := TX4) (N := 1) kX2_number ⟨(jdW_in (List.mem_of_getElem? (i := 474) (by decide +kernel)) (by decide +kernel)), (jdW_in (List.mem_of_getElem? (i := 478) (by decide +kernel)) (by decide +kernel)), (jdW_in (List.mem_of_getElem? (i := 475) (by decide +kernel)) (by decide +kernel))⟩ ⟨by decide +kernel, by decide +kernel, rfl⟩ (Or.inl ⟨sX2_number, _, _, _, (kX2_number).1⟩) rfl hT hw hna hst0 hst hdg (kk (3, mX2_number) (by simp [a_number]) hT) hk
  · exact jd_callUi (M2 := mX2_number) (x := ⟨RX2, "number", "()I"⟩) (owner := RX2) (C := RX7) (ci := 6) (T := TX7) (N := 1) kX2_number ⟨(jdW_in (List.mem_of_getElem? (i := 474) (by decide +kernel)) (by decide +kernel)), (jdW_in (List.mem_of_getElem? (i := 479) (by decide +kernel)) (by decide +kernel)), (jdW_in (List.mem_of_getElem? (i := 475) (by decide +kernel)) (by decide +kernel))⟩ ⟨by decide +kernel, by decide +kernel, rfl⟩ (Or.inl ⟨sX2_number, _, _, _, (kX2_number).1⟩) rfl hT hw hna hst0 hst hdg (kk (6, mX2_number) (by simp [a_number]) hT) hk
  · exact jd_callUi (M2 := mX2_number) (x := ⟨RX2, "number", "()I"⟩) (owner := RX2) (C := RX10) (ci := 9) (T := TX10) (N := 1) kX2_number ⟨(jdW_in (List.mem_of_getElem? (i := 474) (by decide +kernel)) (by decide +kernel)), (jdW_in (List.mem_of_getElem? (i := 480) (by decide +kernel)) (by decide +kernel)), (jdW_in (List.mem_of_getElem? (i := 475) (by decide +kernel)) (by decide +kernel))⟩ ⟨by decide +kernel, by decide +kernel, rfl⟩ (Or.inl ⟨sX2_number, _, _, _, (kX2_number).1⟩) rfl hT hw hna hst0 hst hdg (kk (9, mX2_number) (by simp [a_number]) hT) hk
def a_isOf : List (Nat × jdM) := [(0, mX2_isOf), (1, mX2_isOf), (3, mX2_isOf), (6, mX2_isOf), (9, mX2_isOf)]
theorem jd_visOf {G : jdG} {M : jdM} {F : jdF} {n rc rs pc : Nat} {lv : List (Nat × Value)} {st : List Value} {Z : jdL} {I : jdI} {J : jdJ} {index id : Nat} {av st0 : List Value} {K : Int32 → jdI → jdJ → Prop} (hm : zMan Z id) (hw : Cond.methodLink M.1.cls index ⟨RX2, "isOf", "(I)Z"⟩ ∈ jdW) (hna : av.length = 1) (hst0 : st0 = av.reverse ++ .ref (gb G + id) :: st) (hst : (st.map fun v => v.category).sum ≤ 8) (hdg : decode M.2.1 pc = .ok (.invokevirtual index, 3)) (kk : ∀ q ∈ a_isOf, Z.1 id = some (q.1 + 10, 0) → Cl G q.2 n 0 0 (.ref (gb G + id) :: av) Z I J (qi Z K)) (hk : ∀ (v : Int32) (I2 : jdI) (J2 : jdJ), K v I2 J2 → Jd G M F (n + 1) rc rs (pc + 3) lv (.int v :: st) Z I2 J2) : Jd G M F (n + 1) rc rs pc lv st0 Z I J := by
  obtain ⟨ci, hci, hT⟩ := hm
  rcases hci with rfl | rfl | rfl | rfl | rfl
  · exact jd_callUi (M2 := mX2_isOf) (x := ⟨RX2, "isOf", "(I)Z"⟩) (owner := RX2) (C := RX0) (ci := 0) (T := TX0) (N := 1) kX2_isOf ⟨(jdW_in (List.mem_of_getElem? (i := 462) (by decide +kernel)) (by decide +kernel)), (jdW_in (List.mem_of_getElem? (i := 464) (by decide +kernel)) (by decide +kernel)), (jdW_in (List.mem_of_getElem? (i := 463) (by decide +kernel)) (by decide +kernel))⟩ ⟨by decide +kernel, by decide +kernel, rfl⟩ (Or.inl ⟨sX2_isOf, _, _, _, (kX2_isOf).1⟩) rfl hT hw hna hst0 hst hdg (kk (0, mX2_isOf) (by simp [a_isOf]) hT) hk
  · exact jd_callUi (M2 := mX2_isOf) (x := ⟨RX2, "isOf", "(I)Z"⟩) (owner := RX2) (C := RX1) (ci := 1) (T := TX1) (N := 1) kX2_isOf ⟨(jdW_in (List.mem_of_getElem? (i := 462) (by decide +kernel)) (by decide +kernel)), (jdW_in (List.mem_of_getElem? (i := 465) (by decide +kernel)) (by decide +kernel)), (jdW_in (List.mem_of_getElem? (i := 463) (by decide +kernel)) (by decide +kernel))⟩ ⟨by decide +kernel, by decide +kernel, rfl⟩ (Or.inl ⟨sX2_isOf, _, _, _, (kX2_isOf).1⟩) rfl hT hw hna hst0 hst hdg (kk (1, mX2_isOf) (by simp [a_isOf]) hT) hk
  · exact jd_callUi (M2 := mX2_isOf) (x := ⟨RX2, "isOf", "(I)Z"⟩) (owner := RX2) (C := RX4) (ci := 3) (T := TX4) (N := 1) kX2_isOf ⟨(jdW_in (List.mem_of_getElem? (i := 462) (by decide +kernel)) (by decide +kernel)), (jdW_in (List.mem_of_getElem? (i := 466) (by decide +kernel)) (by decide +kernel)), (jdW_in (List.mem_of_getElem? (i := 463) (by decide +kernel)) (by decide +kernel))⟩ ⟨by decide +kernel, by decide +kernel, rfl⟩ (Or.inl ⟨sX2_isOf, _, _, _, (kX2_isOf).1⟩) rfl hT hw hna hst0 hst hdg (kk (3, mX2_isOf) (by simp [a_isOf]) hT) hk
  · exact jd_callUi (M2 := mX2_isOf) (x := ⟨RX2, "isOf", "(I)Z"⟩) (owner := RX2) (C := RX7) (ci := 6) (T := TX7) (N := 1) kX2_isOf ⟨(jdW_in (List.mem_of_getElem? (i := 462) (by decide +kernel)) (by decide +kernel)), (jdW_in (List.mem_of_getElem? (i := 467) (by decide +kernel)) (by decide +kernel)), (jdW_in (List.mem_of_getElem? (i := 463) (by decide +kernel)) (by decide +kernel))⟩ ⟨by decide +kernel, by decide +kernel, rfl⟩ (Or.inl ⟨sX2_isOf, _, _, _, (kX2_isOf).1⟩) rfl hT hw hna hst0 hst hdg (kk (6, mX2_isOf) (by simp [a_isOf]) hT) hk
  · exact jd_callUi (M2 := mX2_isOf) (x := ⟨RX2, "isOf", "(I)Z"⟩) (owner := RX2) (C := RX10) (ci := 9) (T := TX10) (N := 1) kX2_isOf ⟨(jdW_in (List.mem_of_getElem? (i := 462) (by decide +kernel)) (by decide +kernel)), (jdW_in (List.mem_of_getElem? (i := 468) (by decide +kernel)) (by decide +kernel)), (jdW_in (List.mem_of_getElem? (i := 463) (by decide +kernel)) (by decide +kernel))⟩ ⟨by decide +kernel, by decide +kernel, rfl⟩ (Or.inl ⟨sX2_isOf, _, _, _, (kX2_isOf).1⟩) rfl hT hw hna hst0 hst hdg (kk (9, mX2_isOf) (by simp [a_isOf]) hT) hk
def a_worth : List (Nat × jdM) := [(0, mX0_worth), (1, mX1_worth), (6, mX7_worth)]
theorem jd_vworth {G : jdG} {M : jdM} {F : jdF} {n rc rs pc : Nat} {lv : List (Nat × Value)} {st : List Value} {Z : jdL} {I : jdI} {J : jdJ} {index id : Nat} {av st0 : List Value} {K : Int32 → jdI → jdJ → Prop} (hm : zCho Z id) (hw : Cond.methodLink M.1.cls index ⟨RX1, "worth", "(LThreeStrangers$Ties;II)I"⟩ ∈ jdW) (hna : av.length = 3) (hst0 : st0 = av.reverse ++ .ref (gb G + id) :: st) (hst : (st.map fun v => v.category).sum ≤ 8) (hdg : decode M.2.1 pc = .ok (.invokevirtual index, 3)) (kk : ∀ q ∈ a_worth, Z.1 id = some (q.1 + 10, 0) → Cl G q.2 n 0 0 (.ref (gb G + id) :: av) Z I J (qi Z K)) (hk : ∀ (v : Int32) (I2 : jdI) (J2 : jdJ), K v I2 J2 → Jd G M F (n + 1) rc rs (pc + 3) lv (.int v :: st) Z I2 J2) : Jd G M F (n + 1) rc rs pc lv st0 Z I J := by
  obtain ⟨ci, hci, hT⟩ := hm
  rcases hci with rfl | rfl | rfl
  · exact jd_callUi (M2 := mX0_worth) (x := ⟨RX1, "worth", "(LThreeStrangers$Ties;II)I"⟩) (owner := RX1) (C := RX0) (ci := 0) (T := TX0) (N := 1) kX0_worth ⟨(jdW_in (List.mem_of_getElem? (i := 521) (by decide +kernel)) (by decide +kernel)), (jdW_in (List.mem_of_getElem? (i := 520) (by decide +kernel)) (by decide +kernel)), (jdW_in (List.mem_of_getElem? (i := 519) (by decide +kernel)) (by decide +kernel))⟩ ⟨by decide +kernel, by decide +kernel, rfl⟩ (Or.inl ⟨(sX1_worth).1, _, _, _, (kX1_worth).1⟩) rfl hT hw hna hst0 hst hdg (kk (0, mX0_worth) (by simp [a_worth]) hT) hk
  · exact jd_callUi (M2 := mX1_worth) (x := ⟨RX1, "worth", "(LThreeStrangers$Ties;II)I"⟩) (owner := RX1) (C := RX1) (ci := 1) (T := TX1) (N := 1) kX1_worth ⟨(jdW_in (List.mem_of_getElem? (i := 517) (by decide +kernel)) (by decide +kernel)), (jdW_in (List.mem_of_getElem? (i := 518) (by decide +kernel)) (by decide +kernel)), (jdW_in (List.mem_of_getElem? (i := 519) (by decide +kernel)) (by decide +kernel))⟩ ⟨by decide +kernel, by decide +kernel, rfl⟩ (Or.inl ⟨(sX1_worth).1, _, _, _, (kX1_worth).1⟩) rfl hT hw hna hst0 hst hdg (kk (1, mX1_worth) (by simp [a_worth]) hT) hk
  · exact jd_callUi (M2 := mX7_worth) (x := ⟨RX1, "worth", "(LThreeStrangers$Ties;II)I"⟩) (owner := RX1) (C := RX7) (ci := 6) (T := TX7) (N := 1) kX7_worth ⟨(jdW_in (List.mem_of_getElem? (i := 532) (by decide +kernel)) (by decide +kernel)), (jdW_in (List.mem_of_getElem? (i := 531) (by decide +kernel)) (by decide +kernel)), (jdW_in (List.mem_of_getElem? (i := 519) (by decide +kernel)) (by decide +kernel))⟩ ⟨by decide +kernel, by decide +kernel, rfl⟩ (Or.inl ⟨(sX1_worth).1, _, _, _, (kX1_worth).1⟩) rfl hT hw hna hst0 hst hdg (kk (6, mX7_worth) (by simp [a_worth]) hT) hk
theorem xX3_90 : jdWm RX3 90 true := by
  unfold jdWm
  rw [if_pos rfl]
  exact ⟨lX3_90, sJ9_max_7cf53, (kJ9_max_7cf53).2.1, (kJ9_max_7cf53).1⟩
theorem xX3_84 : jdWm RX3 84 false := by
  unfold jdWm
  rw [if_neg (by decide)]
  exact ⟨lX3_84, sJ9_min_7cf53, (kJ9_min_7cf53).2.1, (kJ9_min_7cf53).1⟩
theorem xX8_97 : jdWm RX8 97 true := by
  unfold jdWm
  rw [if_pos rfl]
  exact ⟨lX8_97, sJ9_max_7cf53, (kJ9_max_7cf53).2.1, (kJ9_max_7cf53).1⟩
theorem xX8_109 : jdWm RX8 109 false := by
  unfold jdWm
  rw [if_neg (by decide)]
  exact ⟨lX8_109, sJ9_min_7cf53, (kJ9_min_7cf53).2.1, (kJ9_min_7cf53).1⟩
theorem xX9_71 : jdWm RX9 71 false := by
  unfold jdWm
  rw [if_neg (by decide)]
  exact ⟨lX9_71, sJ9_min_7cf53, (kJ9_min_7cf53).2.1, (kJ9_min_7cf53).1⟩
theorem xX11_302 : jdWm RX11 302 false := by
  unfold jdWm
  rw [if_neg (by decide)]
  exact ⟨lX11_302, sJ9_min_7cf53, (kJ9_min_7cf53).2.1, (kJ9_min_7cf53).1⟩
theorem wsn_number : Cond.instanceMethod mX2_number.1 ∈ jdW ∧ Cond.selects RX10 ⟨RX10, "number", "()I"⟩ mX2_number.1 ∈ jdW ∧ Cond.sameMethod RX10 RX2 "number" "()I" ∈ jdW := ⟨(jdW_in (List.mem_of_getElem? (i := 474) (by decide +kernel)) (by decide +kernel)), (jdW_in (List.mem_of_getElem? (i := 565) (by decide +kernel)) (by decide +kernel)), (jdW_in (List.mem_of_getElem? (i := 563) (by decide +kernel)) (by decide +kernel))⟩
/-- an answer that is a reference to a cell, or null -/
def qm (G : jdG) (Z : jdL) (K : Option Nat → jdI → jdJ → Prop) : jdQ := fun r Z2 I2 J2 => ∃ o : Option Nat, r = some (va_rf (o.map (fun x => gb G + x))) ∧ Z2 = Z ∧ K o I2 J2
theorem jd_callVm {G : jdG} {M : jdM} {F : jdF} {n rc rs pc : Nat} {lv : List (Nat × Value)} {st : List Value} {Z : jdL} {I : jdI} {J : jdJ} {M2 : jdM} {na index id ci N : Nat} {T : u_T} {av st0 : List Value} {K : Option Nat → jdI → jdJ → Prop} (hm : jdMc M2 na) (hs : Cond.instanceMethod M2.1 ∈ jdW ∧ Cond.selects M2.1.cls M2.1 M2.1 ∈ jdW) (hc : vwCl[ci]? = some (M2.1.cls, T, N)) (hT : Z.1 id = some (ci + 10, 0)) (hw : Cond.methodLink M.1.cls index M2.1 ∈ jdW) (hna : av.length = na) (hst0 : st0 = av.reverse ++ .ref (gb G + id) :: st) (hst : (st.map fun v => v.category).sum ≤ 8) (hdg : decode M.2.1 pc = .ok (.invokevirtual index, 3)) (kk : Cl G M2 n 0 0 (.ref (gb G + id) :: av) Z I J (qm G Z K)) (hk0 : ∀ (I2 : jdI) (J2 : jdJ), K none I2 J2 → Jd G M F (n + 1) rc rs (pc + 3) lv (.null :: st) Z I2 J2) (hk1 : ∀ (w : Nat) (I2 : jdI) (J2 : jdJ), K (some w) I2 J2 → Jd G M F (n + 1) rc rs (pc + 3) lv (.ref (gb G + w) :: st) Z I2 J2) : Jd G M F (n + 1) rc rs pc lv st0 Z I J :=
  jd_callV hm hs hc hT hw hna hst0 hst (Nat.le_of_eq (Nat.zero_add _)) (Nat.le_of_eq (Nat.zero_add _)) hdg (Cl.mono kk (fun r Z2 I2 J2 hq => by
    obtain ⟨o, hr, hz, hq⟩ := hq
    subst hr
    subst hz
    cases o with
    | none => exact hk0 I2 J2 hq
    | some w => exact hk1 w I2 J2 hq))
theorem jd_ldcS {G : jdG} {M : jdM} {F : jdF} {n rc rs pc : Nat} {lv : List (Nat × Value)} {st : List Value} {Z : jdL} {I : jdI} {J : jdJ} {index a : Nat} {tx : String} (hX : ∀ U, G.2.2.2.2 U → vk_R M.1.cls index tx a U) (hdg : decode M.2.1 pc = .ok (.ldc index, 2)) (k : Jd G M F n rc rs (pc + 2) lv (.ref a :: st) Z I J) : Jd G M F n rc rs pc lv st Z I J :=
  fun p e R s m args below meth c H locs cells slots ls hC hR hL hl h1 h2 => va_ldcS hC.1 hC.2.1 hC.2.2.2.2.1 (hX s hC.2.2.2.2.2.2.2.2.1.2.1) hdg (k p e R s m args below meth c H locs cells slots ls hC hR hL hl h1 h2)
/-- the object of a string constant -/
theorem gOK_O {G : jdG} {sA sV : Nat → Nat} (hG : gOK G sA sV) {i : Nat} (hi : i < 14) (U : State) (hU : G.2.2.2.2 U) : va_O RJ0 (sA i) (fun q => gb G ≤ q) U G.2.2.1 ∧ va_OF RJ0 "coder" "B" (.int 0) (sA i) (fun q => gb G ≤ q) U G.2.2.1 ∧ va_OF RJ0 "value" "[B" (.ref (sV i)) (sA i) (fun q => gb G ≤ q) U G.2.2.1 ∧ va_T .byte (sV i) (sLen.getD (i % 7) 0) (fun j => .int ((sByt.getD (i % 7) []).getD j 0)) (fun q => gb G ≤ q) U G.2.2.1 := by
  obtain ⟨h1, h2⟩ := gOK_sk hG U hU
  by_cases h : i < 7
  · have e : i % 7 = i := Nat.mod_eq_of_lt h
    rw [e]
    exact h1.1 i h
  · have e : i % 7 = i - 7 := by omega
    have e2 : 7 + (i - 7) = i := by omega
    have h3 := h2.1 (i - 7) (by omega)
    rw [e]
    simp only [e2] at h3
    exact h3
theorem jd_old {G : jdG} {Z : jdL} {I : jdI} {J : jdJ} {H : Heap} (hR : jdR G Z I J H) : ∀ a : Nat, a < G.2.2.1.size → ¬ (gb G ≤ a) → H[a]? = G.2.2.1[a]? := fun a ha _ => hR.2.1 a ha
theorem jd_callStr {G : jdG} {M : jdM} {F : jdF} {n rc rs pc : Nat} {lv : List (Nat × Value)} {st : List Value} {Z : jdL} {I : jdI} {J : jdJ} {M2 : jdM} {na index i : Nat} {av st0 : List Value} {sA sV : Nat → Nat} {K : Int32 → jdI → jdJ → Prop} (hG : gOK G sA sV) (hi : i < 14) (hm : jdMc M2 na) (hs : Cond.instanceMethod M2.1 ∈ jdW ∧ Cond.selects M2.1.cls M2.1 M2.1 ∈ jdW) (hc : M2.1.cls = RJ0) (hw : Cond.methodLink M.1.cls index M2.1 ∈ jdW) (hna : av.length = na) (hst0 : st0 = av.reverse ++ .ref (sA i) :: st) (hst : (st.map fun v => v.category).sum ≤ 8) (hdg : decode M.2.1 pc = .ok (.invokevirtual index, 3))
    (kk : Cl G M2 n 0 0 (.ref (sA i) :: av) Z I J (qi Z K)) (hk : ∀ (v : Int32) (I2 : jdI) (J2 : jdJ), K v I2 J2 → Jd G M F (n + 1) rc rs (pc + 3) lv (.int v :: st) Z I2 J2) : Jd G M F (n + 1) rc rs pc lv st0 Z I J := by
  intro p e R s m args below meth c H locs cells slots ls hC hR hL hl h1 h2
  have hp := jd_pre hR hC.2.2.2.2.2.2.2.2.1 (.ref (sA i) :: av)
  obtain ⟨cell, q1, q2, q3, -⟩ := (gOK_O hG hi s hC.2.2.2.2.2.2.2.2.1.2.1).1.kept (jd_old hR)
  exact jd_after (va_runV (g := F0 m pc ls st0) (As := av) (rest := st) (C := M2.1.cls) (b := sA i) ⟨hC.1, hC.2.1, hC.2.2.2.1, hC.2.2.2.2.1, hC.2.2.2.2.2.1⟩ (Cl.mono kk (Q' := fun r Z2 I2 J2 => Jd G M F (n + 1) rc rs (pc + 3) lv (r.toList ++ st) Z2 I2 J2) (fun r Z2 I2 J2 hq => by
    obtain ⟨v, hr, hz, hq⟩ := hq
    subst hr
    subst hz
    exact hk v I2 J2 hq)) ⟨jd_cb hm hC hw, hC.2.2.2.2.2.1 _ hs.1, hC.2.2.2.2.2.1 _ hs.2⟩ ⟨hp.1, ⟨cell, q1, q2, by rw [hc]; exact q3⟩, hp.2⟩ rfl hna hl.1 hst0 (lv_room hst) hdg ⟨by omega, by omega⟩) hC hL hl (by omega) (by omega) (fun r Z2 I2 J2 h => h)
