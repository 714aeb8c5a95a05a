theorem dX9_endDay_0 : decode cX9_endDay 0 = .ok (.aload_n 0, 1) := by decide +kernel
theorem dX9_endDay_1 : decode cX9_endDay 1 = .ok (.dup, 1) := by decide +kernel
theorem dX9_endDay_2 : decode cX9_endDay 2 = .ok (.getfield 62, 3) := by decide +kernel
theorem dX9_endDay_5 : decode cX9_endDay 5 = .ok (.iload_n 1, 1) := by decide +kernel
theorem dX9_endDay_6 : decode cX9_endDay 6 = .ok (.iadd, 1) := by decide +kernel
theorem dX9_endDay_7 : decode cX9_endDay 7 = .ok (.putfield 62, 3) := by decide +kernel
theorem dX9_endDay_10 : decode cX9_endDay 10 = .ok (.aload_n 0, 1) := by decide +kernel
theorem dX9_endDay_11 : decode cX9_endDay 11 = .ok (.dup, 1) := by decide +kernel
theorem dX9_endDay_12 : decode cX9_endDay 12 = .ok (.getfield 65, 3) := by decide +kernel
theorem dX9_endDay_15 : decode cX9_endDay 15 = .ok (.iconst 1, 1) := by decide +kernel
theorem dX9_endDay_16 : decode cX9_endDay 16 = .ok (.iadd, 1) := by decide +kernel
theorem dX9_endDay_17 : decode cX9_endDay 17 = .ok (.putfield 65, 3) := by decide +kernel
theorem dX9_endDay_20 : decode cX9_endDay 20 = .ok (.return_, 1) := by decide +kernel
def bwX9_age_0l : List Nat := [3, 60, 42, 89, 180, 0, 68, 4, 96, 181, 0, 68, 3, 61, 28, 42, 180, 0, 28, 162, 0, 100, 3, 62, 29, 28, 162, 0, 87, 42, 28, 29, 182, 0, 52, 54, 4, 21, 4, 2, 159, 0, 67, 21, 4, 4, 96, 16, 99, 184, 0, 71, 54, 5, 42, 180, 0, 76, 153, 0, 16, 21, 5, 42, 180, 0]
theorem bwX9_age_0 : ((cX9_age.data.toList.drop 0).take 66).map UInt8.toNat = bwX9_age_0l := by decide +kernel
theorem dX9_age_0 : decode cX9_age 0 = .ok (.iconst 0, 1) := bq_o3 (bq_of bwX9_age_0 0 (by decide +kernel))
theorem dX9_age_1 : decode cX9_age 1 = .ok (.istore_n 1, 1) := bq_o60 (bq_of bwX9_age_0 1 (by decide +kernel))
theorem dX9_age_2 : decode cX9_age 2 = .ok (.aload_n 0, 1) := bq_o42 (bq_of bwX9_age_0 2 (by decide +kernel))
theorem dX9_age_3 : decode cX9_age 3 = .ok (.dup, 1) := bq_o89 (bq_of bwX9_age_0 3 (by decide +kernel))
theorem dX9_age_4 : decode cX9_age 4 = .ok (.getfield 68, 3) := bq_o180 (a := 0) (b := 68) (bq_3 bwX9_age_0 4 (by decide +kernel)) rfl
theorem dX9_age_7 : decode cX9_age 7 = .ok (.iconst 1, 1) := bq_o4 (bq_of bwX9_age_0 7 (by decide +kernel))
theorem dX9_age_8 : decode cX9_age 8 = .ok (.iadd, 1) := bq_o96 (bq_of bwX9_age_0 8 (by decide +kernel))
theorem dX9_age_9 : decode cX9_age 9 = .ok (.putfield 68, 3) := bq_o181 (a := 0) (b := 68) (bq_3 bwX9_age_0 9 (by decide +kernel)) rfl
theorem dX9_age_12 : decode cX9_age 12 = .ok (.iconst 0, 1) := bq_o3 (bq_of bwX9_age_0 12 (by decide +kernel))
theorem dX9_age_13 : decode cX9_age 13 = .ok (.istore_n 2, 1) := bq_o61 (bq_of bwX9_age_0 13 (by decide +kernel))
theorem dX9_age_14 : decode cX9_age 14 = .ok (.iload_n 2, 1) := bq_o28 (bq_of bwX9_age_0 14 (by decide +kernel))
theorem dX9_age_15 : decode cX9_age 15 = .ok (.aload_n 0, 1) := bq_o42 (bq_of bwX9_age_0 15 (by decide +kernel))
theorem dX9_age_16 : decode cX9_age 16 = .ok (.getfield 28, 3) := bq_o180 (a := 0) (b := 28) (bq_3 bwX9_age_0 16 (by decide +kernel)) rfl
theorem dX9_age_19 : decode cX9_age 19 = .ok (.if_icmp .ge 100, 3) := bq_o162 (a := 0) (b := 100) (bq_3 bwX9_age_0 19 (by decide +kernel)) (by decide +kernel)
theorem dX9_age_22 : decode cX9_age 22 = .ok (.iconst 0, 1) := bq_o3 (bq_of bwX9_age_0 22 (by decide +kernel))
theorem dX9_age_23 : decode cX9_age 23 = .ok (.istore_n 3, 1) := bq_o62 (bq_of bwX9_age_0 23 (by decide +kernel))
theorem dX9_age_24 : decode cX9_age 24 = .ok (.iload_n 3, 1) := bq_o29 (bq_of bwX9_age_0 24 (by decide +kernel))
theorem dX9_age_25 : decode cX9_age 25 = .ok (.iload_n 2, 1) := bq_o28 (bq_of bwX9_age_0 25 (by decide +kernel))
theorem dX9_age_26 : decode cX9_age 26 = .ok (.if_icmp .ge 87, 3) := bq_o162 (a := 0) (b := 87) (bq_3 bwX9_age_0 26 (by decide +kernel)) (by decide +kernel)
theorem dX9_age_29 : decode cX9_age 29 = .ok (.aload_n 0, 1) := bq_o42 (bq_of bwX9_age_0 29 (by decide +kernel))
theorem dX9_age_30 : decode cX9_age 30 = .ok (.iload_n 2, 1) := bq_o28 (bq_of bwX9_age_0 30 (by decide +kernel))
theorem dX9_age_31 : decode cX9_age 31 = .ok (.iload_n 3, 1) := bq_o29 (bq_of bwX9_age_0 31 (by decide +kernel))
theorem dX9_age_32 : decode cX9_age 32 = .ok (.invokevirtual 52, 3) := bq_o182 (a := 0) (b := 52) (bq_3 bwX9_age_0 32 (by decide +kernel)) rfl
theorem dX9_age_35 : decode cX9_age 35 = .ok (.istore 4, 2) := bq_o54 (a := 4) (bq_2 bwX9_age_0 35 (by decide +kernel)) rfl
theorem dX9_age_37 : decode cX9_age 37 = .ok (.iload 4, 2) := bq_o21 (a := 4) (bq_2 bwX9_age_0 37 (by decide +kernel)) rfl
theorem dX9_age_39 : decode cX9_age 39 = .ok (.iconst (-1), 1) := bq_o2 (bq_of bwX9_age_0 39 (by decide +kernel))
theorem dX9_age_40 : decode cX9_age 40 = .ok (.if_icmp .eq 67, 3) := bq_o159 (a := 0) (b := 67) (bq_3 bwX9_age_0 40 (by decide +kernel)) (by decide +kernel)
theorem dX9_age_43 : decode cX9_age 43 = .ok (.iload 4, 2) := bq_o21 (a := 4) (bq_2 bwX9_age_0 43 (by decide +kernel)) rfl
theorem dX9_age_45 : decode cX9_age 45 = .ok (.iconst 1, 1) := bq_o4 (bq_of bwX9_age_0 45 (by decide +kernel))
theorem dX9_age_46 : decode cX9_age 46 = .ok (.iadd, 1) := bq_o96 (bq_of bwX9_age_0 46 (by decide +kernel))
theorem dX9_age_47 : decode cX9_age 47 = .ok (.bipush 99, 2) := bq_o16 (a := 99) (bq_2 bwX9_age_0 47 (by decide +kernel)) (by decide +kernel)
theorem dX9_age_49 : decode cX9_age 49 = .ok (.invokestatic 71, 3) := bq_o184 (a := 0) (b := 71) (bq_3 bwX9_age_0 49 (by decide +kernel)) rfl
theorem dX9_age_52 : decode cX9_age 52 = .ok (.istore 5, 2) := bq_o54 (a := 5) (bq_2 bwX9_age_0 52 (by decide +kernel)) rfl
theorem dX9_age_54 : decode cX9_age 54 = .ok (.aload_n 0, 1) := bq_o42 (bq_of bwX9_age_0 54 (by decide +kernel))
theorem dX9_age_55 : decode cX9_age 55 = .ok (.getfield 76, 3) := bq_o180 (a := 0) (b := 76) (bq_3 bwX9_age_0 55 (by decide +kernel)) rfl
theorem dX9_age_58 : decode cX9_age 58 = .ok (.ifCond .eq 16, 3) := bq_o153 (a := 0) (b := 16) (bq_3 bwX9_age_0 58 (by decide +kernel)) (by decide +kernel)
theorem dX9_age_61 : decode cX9_age 61 = .ok (.iload 5, 2) := bq_o21 (a := 5) (bq_2 bwX9_age_0 61 (by decide +kernel)) rfl
theorem dX9_age_63 : decode cX9_age 63 = .ok (.aload_n 0, 1) := bq_o42 (bq_of bwX9_age_0 63 (by decide +kernel))
def bwX9_age_64l : List Nat := [180, 0, 76, 164, 0, 7, 4, 167, 0, 4, 3, 54, 6, 42, 28, 29, 21, 6, 153, 0, 7, 2, 167, 0, 5, 21, 5, 182, 0, 39, 27, 21, 6, 153, 0, 7, 4, 167, 0, 4, 3, 96, 60, 132, 3, 1, 167, 255, 170, 132, 2, 1, 167, 255, 154, 27, 172]
theorem bwX9_age_64 : ((cX9_age.data.toList.drop 64).take 57).map UInt8.toNat = bwX9_age_64l := by decide +kernel
theorem dX9_age_64 : decode cX9_age 64 = .ok (.getfield 76, 3) := bq_o180 (a := 0) (b := 76) (bq_3 bwX9_age_64 0 (by decide +kernel)) rfl
theorem dX9_age_67 : decode cX9_age 67 = .ok (.if_icmp .le 7, 3) := bq_o164 (a := 0) (b := 7) (bq_3 bwX9_age_64 3 (by decide +kernel)) (by decide +kernel)
theorem dX9_age_70 : decode cX9_age 70 = .ok (.iconst 1, 1) := bq_o4 (bq_of bwX9_age_64 6 (by decide +kernel))
theorem dX9_age_71 : decode cX9_age 71 = .ok (.goto 4, 3) := bq_o167 (a := 0) (b := 4) (bq_3 bwX9_age_64 7 (by decide +kernel)) (by decide +kernel)
theorem dX9_age_74 : decode cX9_age 74 = .ok (.iconst 0, 1) := bq_o3 (bq_of bwX9_age_64 10 (by decide +kernel))
theorem dX9_age_75 : decode cX9_age 75 = .ok (.istore 6, 2) := bq_o54 (a := 6) (bq_2 bwX9_age_64 11 (by decide +kernel)) rfl
theorem dX9_age_77 : decode cX9_age 77 = .ok (.aload_n 0, 1) := bq_o42 (bq_of bwX9_age_64 13 (by decide +kernel))
theorem dX9_age_78 : decode cX9_age 78 = .ok (.iload_n 2, 1) := bq_o28 (bq_of bwX9_age_64 14 (by decide +kernel))
theorem dX9_age_79 : decode cX9_age 79 = .ok (.iload_n 3, 1) := bq_o29 (bq_of bwX9_age_64 15 (by decide +kernel))
theorem dX9_age_80 : decode cX9_age 80 = .ok (.iload 6, 2) := bq_o21 (a := 6) (bq_2 bwX9_age_64 16 (by decide +kernel)) rfl
theorem dX9_age_82 : decode cX9_age 82 = .ok (.ifCond .eq 7, 3) := bq_o153 (a := 0) (b := 7) (bq_3 bwX9_age_64 18 (by decide +kernel)) (by decide +kernel)
theorem dX9_age_85 : decode cX9_age 85 = .ok (.iconst (-1), 1) := bq_o2 (bq_of bwX9_age_64 21 (by decide +kernel))
theorem dX9_age_86 : decode cX9_age 86 = .ok (.goto 5, 3) := bq_o167 (a := 0) (b := 5) (bq_3 bwX9_age_64 22 (by decide +kernel)) (by decide +kernel)
theorem dX9_age_89 : decode cX9_age 89 = .ok (.iload 5, 2) := bq_o21 (a := 5) (bq_2 bwX9_age_64 25 (by decide +kernel)) rfl
theorem dX9_age_91 : decode cX9_age 91 = .ok (.invokevirtual 39, 3) := bq_o182 (a := 0) (b := 39) (bq_3 bwX9_age_64 27 (by decide +kernel)) rfl
theorem dX9_age_94 : decode cX9_age 94 = .ok (.iload_n 1, 1) := bq_o27 (bq_of bwX9_age_64 30 (by decide +kernel))
theorem dX9_age_95 : decode cX9_age 95 = .ok (.iload 6, 2) := bq_o21 (a := 6) (bq_2 bwX9_age_64 31 (by decide +kernel)) rfl
theorem dX9_age_97 : decode cX9_age 97 = .ok (.ifCond .eq 7, 3) := bq_o153 (a := 0) (b := 7) (bq_3 bwX9_age_64 33 (by decide +kernel)) (by decide +kernel)
theorem dX9_age_100 : decode cX9_age 100 = .ok (.iconst 1, 1) := bq_o4 (bq_of bwX9_age_64 36 (by decide +kernel))
theorem dX9_age_101 : decode cX9_age 101 = .ok (.goto 4, 3) := bq_o167 (a := 0) (b := 4) (bq_3 bwX9_age_64 37 (by decide +kernel)) (by decide +kernel)
theorem dX9_age_104 : decode cX9_age 104 = .ok (.iconst 0, 1) := bq_o3 (bq_of bwX9_age_64 40 (by decide +kernel))
theorem dX9_age_105 : decode cX9_age 105 = .ok (.iadd, 1) := bq_o96 (bq_of bwX9_age_64 41 (by decide +kernel))
theorem dX9_age_106 : decode cX9_age 106 = .ok (.istore_n 1, 1) := bq_o60 (bq_of bwX9_age_64 42 (by decide +kernel))
theorem dX9_age_107 : decode cX9_age 107 = .ok (.iinc 3 1, 3) := bq_o132 (a := 3) (b := 1) (bq_3 bwX9_age_64 43 (by decide +kernel)) rfl (by decide +kernel)
theorem dX9_age_110 : decode cX9_age 110 = .ok (.goto (-86), 3) := bq_o167 (a := 255) (b := 170) (bq_3 bwX9_age_64 46 (by decide +kernel)) (by decide +kernel)
theorem dX9_age_113 : decode cX9_age 113 = .ok (.iinc 2 1, 3) := bq_o132 (a := 2) (b := 1) (bq_3 bwX9_age_64 49 (by decide +kernel)) rfl (by decide +kernel)
theorem dX9_age_116 : decode cX9_age 116 = .ok (.goto (-102), 3) := bq_o167 (a := 255) (b := 154) (bq_3 bwX9_age_64 52 (by decide +kernel)) (by decide +kernel)
theorem dX9_age_119 : decode cX9_age 119 = .ok (.iload_n 1, 1) := bq_o27 (bq_of bwX9_age_64 55 (by decide +kernel))
theorem dX9_age_120 : decode cX9_age 120 = .ok (.ireturn, 1) := bq_o172 (bq_of bwX9_age_64 56 (by decide +kernel))
def bwX9_become_0l : List Nat := [43, 180, 0, 9, 3, 42, 180, 0, 9, 3, 16, 7, 184, 0, 79, 43, 180, 0, 15, 3, 42, 180, 0, 15, 3, 16, 7, 184, 0, 79, 43, 180, 0, 18, 3, 42, 180, 0, 18, 3, 16, 49, 184, 0, 79, 42, 43, 180, 0, 28, 181, 0, 28, 42, 43, 180, 0, 21, 181, 0, 21, 42, 43, 180, 0, 76]
theorem bwX9_become_0 : ((cX9_become.data.toList.drop 0).take 66).map UInt8.toNat = bwX9_become_0l := by decide +kernel
theorem dX9_become_0 : decode cX9_become 0 = .ok (.aload_n 1, 1) := bq_o43 (bq_of bwX9_become_0 0 (by decide +kernel))
theorem dX9_become_1 : decode cX9_become 1 = .ok (.getfield 9, 3) := bq_o180 (a := 0) (b := 9) (bq_3 bwX9_become_0 1 (by decide +kernel)) rfl
theorem dX9_become_4 : decode cX9_become 4 = .ok (.iconst 0, 1) := bq_o3 (bq_of bwX9_become_0 4 (by decide +kernel))
theorem dX9_become_5 : decode cX9_become 5 = .ok (.aload_n 0, 1) := bq_o42 (bq_of bwX9_become_0 5 (by decide +kernel))
theorem dX9_become_6 : decode cX9_become 6 = .ok (.getfield 9, 3) := bq_o180 (a := 0) (b := 9) (bq_3 bwX9_become_0 6 (by decide +kernel)) rfl
theorem dX9_become_9 : decode cX9_become 9 = .ok (.iconst 0, 1) := bq_o3 (bq_of bwX9_become_0 9 (by decide +kernel))
theorem dX9_become_10 : decode cX9_become 10 = .ok (.bipush 7, 2) := bq_o16 (a := 7) (bq_2 bwX9_become_0 10 (by decide +kernel)) (by decide +kernel)
theorem dX9_become_12 : decode cX9_become 12 = .ok (.invokestatic 79, 3) := bq_o184 (a := 0) (b := 79) (bq_3 bwX9_become_0 12 (by decide +kernel)) rfl
theorem dX9_become_15 : decode cX9_become 15 = .ok (.aload_n 1, 1) := bq_o43 (bq_of bwX9_become_0 15 (by decide +kernel))
theorem dX9_become_16 : decode cX9_become 16 = .ok (.getfield 15, 3) := bq_o180 (a := 0) (b := 15) (bq_3 bwX9_become_0 16 (by decide +kernel)) rfl
theorem dX9_become_19 : decode cX9_become 19 = .ok (.iconst 0, 1) := bq_o3 (bq_of bwX9_become_0 19 (by decide +kernel))
theorem dX9_become_20 : decode cX9_become 20 = .ok (.aload_n 0, 1) := bq_o42 (bq_of bwX9_become_0 20 (by decide +kernel))
theorem dX9_become_21 : decode cX9_become 21 = .ok (.getfield 15, 3) := bq_o180 (a := 0) (b := 15) (bq_3 bwX9_become_0 21 (by decide +kernel)) rfl
theorem dX9_become_24 : decode cX9_become 24 = .ok (.iconst 0, 1) := bq_o3 (bq_of bwX9_become_0 24 (by decide +kernel))
theorem dX9_become_25 : decode cX9_become 25 = .ok (.bipush 7, 2) := bq_o16 (a := 7) (bq_2 bwX9_become_0 25 (by decide +kernel)) (by decide +kernel)
theorem dX9_become_27 : decode cX9_become 27 = .ok (.invokestatic 79, 3) := bq_o184 (a := 0) (b := 79) (bq_3 bwX9_become_0 27 (by decide +kernel)) rfl
theorem dX9_become_30 : decode cX9_become 30 = .ok (.aload_n 1, 1) := bq_o43 (bq_of bwX9_become_0 30 (by decide +kernel))
theorem dX9_become_31 : decode cX9_become 31 = .ok (.getfield 18, 3) := bq_o180 (a := 0) (b := 18) (bq_3 bwX9_become_0 31 (by decide +kernel)) rfl
theorem dX9_become_34 : decode cX9_become 34 = .ok (.iconst 0, 1) := bq_o3 (bq_of bwX9_become_0 34 (by decide +kernel))
theorem dX9_become_35 : decode cX9_become 35 = .ok (.aload_n 0, 1) := bq_o42 (bq_of bwX9_become_0 35 (by decide +kernel))
theorem dX9_become_36 : decode cX9_become 36 = .ok (.getfield 18, 3) := bq_o180 (a := 0) (b := 18) (bq_3 bwX9_become_0 36 (by decide +kernel)) rfl
theorem dX9_become_39 : decode cX9_become 39 = .ok (.iconst 0, 1) := bq_o3 (bq_of bwX9_become_0 39 (by decide +kernel))
theorem dX9_become_40 : decode cX9_become 40 = .ok (.bipush 49, 2) := bq_o16 (a := 49) (bq_2 bwX9_become_0 40 (by decide +kernel)) (by decide +kernel)
theorem dX9_become_42 : decode cX9_become 42 = .ok (.invokestatic 79, 3) := bq_o184 (a := 0) (b := 79) (bq_3 bwX9_become_0 42 (by decide +kernel)) rfl
theorem dX9_become_45 : decode cX9_become 45 = .ok (.aload_n 0, 1) := bq_o42 (bq_of bwX9_become_0 45 (by decide +kernel))
theorem dX9_become_46 : decode cX9_become 46 = .ok (.aload_n 1, 1) := bq_o43 (bq_of bwX9_become_0 46 (by decide +kernel))
theorem dX9_become_47 : decode cX9_become 47 = .ok (.getfield 28, 3) := bq_o180 (a := 0) (b := 28) (bq_3 bwX9_become_0 47 (by decide +kernel)) rfl
theorem dX9_become_50 : decode cX9_become 50 = .ok (.putfield 28, 3) := bq_o181 (a := 0) (b := 28) (bq_3 bwX9_become_0 50 (by decide +kernel)) rfl
theorem dX9_become_53 : decode cX9_become 53 = .ok (.aload_n 0, 1) := bq_o42 (bq_of bwX9_become_0 53 (by decide +kernel))
theorem dX9_become_54 : decode cX9_become 54 = .ok (.aload_n 1, 1) := bq_o43 (bq_of bwX9_become_0 54 (by decide +kernel))
theorem dX9_become_55 : decode cX9_become 55 = .ok (.getfield 21, 3) := bq_o180 (a := 0) (b := 21) (bq_3 bwX9_become_0 55 (by decide +kernel)) rfl
theorem dX9_become_58 : decode cX9_become 58 = .ok (.putfield 21, 3) := bq_o181 (a := 0) (b := 21) (bq_3 bwX9_become_0 58 (by decide +kernel)) rfl
theorem dX9_become_61 : decode cX9_become 61 = .ok (.aload_n 0, 1) := bq_o42 (bq_of bwX9_become_0 61 (by decide +kernel))
theorem dX9_become_62 : decode cX9_become 62 = .ok (.aload_n 1, 1) := bq_o43 (bq_of bwX9_become_0 62 (by decide +kernel))
theorem dX9_become_63 : decode cX9_become 63 = .ok (.getfield 76, 3) := bq_o180 (a := 0) (b := 76) (bq_3 bwX9_become_0 63 (by decide +kernel)) rfl
def bwX9_become_64l : List Nat := [0, 76, 181, 0, 76, 42, 43, 180, 0, 25, 181, 0, 25, 42, 43, 180, 0, 62, 181, 0, 62, 42, 43, 180, 0, 65, 181, 0, 65, 42, 43, 180, 0, 68, 181, 0, 68, 177]
theorem bwX9_become_64 : ((cX9_become.data.toList.drop 64).take 38).map UInt8.toNat = bwX9_become_64l := by decide +kernel
theorem dX9_become_66 : decode cX9_become 66 = .ok (.putfield 76, 3) := bq_o181 (a := 0) (b := 76) (bq_3 bwX9_become_64 2 (by decide +kernel)) rfl
theorem dX9_become_69 : decode cX9_become 69 = .ok (.aload_n 0, 1) := bq_o42 (bq_of bwX9_become_64 5 (by decide +kernel))
theorem dX9_become_70 : decode cX9_become 70 = .ok (.aload_n 1, 1) := bq_o43 (bq_of bwX9_become_64 6 (by decide +kernel))
theorem dX9_become_71 : decode cX9_become 71 = .ok (.getfield 25, 3) := bq_o180 (a := 0) (b := 25) (bq_3 bwX9_become_64 7 (by decide +kernel)) rfl
theorem dX9_become_74 : decode cX9_become 74 = .ok (.putfield 25, 3) := bq_o181 (a := 0) (b := 25) (bq_3 bwX9_become_64 10 (by decide +kernel)) rfl
theorem dX9_become_77 : decode cX9_become 77 = .ok (.aload_n 0, 1) := bq_o42 (bq_of bwX9_become_64 13 (by decide +kernel))
theorem dX9_become_78 : decode cX9_become 78 = .ok (.aload_n 1, 1) := bq_o43 (bq_of bwX9_become_64 14 (by decide +kernel))
theorem dX9_become_79 : decode cX9_become 79 = .ok (.getfield 62, 3) := bq_o180 (a := 0) (b := 62) (bq_3 bwX9_become_64 15 (by decide +kernel)) rfl
theorem dX9_become_82 : decode cX9_become 82 = .ok (.putfield 62, 3) := bq_o181 (a := 0) (b := 62) (bq_3 bwX9_become_64 18 (by decide +kernel)) rfl
theorem dX9_become_85 : decode cX9_become 85 = .ok (.aload_n 0, 1) := bq_o42 (bq_of bwX9_become_64 21 (by decide +kernel))
theorem dX9_become_86 : decode cX9_become 86 = .ok (.aload_n 1, 1) := bq_o43 (bq_of bwX9_become_64 22 (by decide +kernel))
theorem dX9_become_87 : decode cX9_become 87 = .ok (.getfield 65, 3) := bq_o180 (a := 0) (b := 65) (bq_3 bwX9_become_64 23 (by decide +kernel)) rfl
theorem dX9_become_90 : decode cX9_become 90 = .ok (.putfield 65, 3) := bq_o181 (a := 0) (b := 65) (bq_3 bwX9_become_64 26 (by decide +kernel)) rfl
theorem dX9_become_93 : decode cX9_become 93 = .ok (.aload_n 0, 1) := bq_o42 (bq_of bwX9_become_64 29 (by decide +kernel))
theorem dX9_become_94 : decode cX9_become 94 = .ok (.aload_n 1, 1) := bq_o43 (bq_of bwX9_become_64 30 (by decide +kernel))
theorem dX9_become_95 : decode cX9_become 95 = .ok (.getfield 68, 3) := bq_o180 (a := 0) (b := 68) (bq_3 bwX9_become_64 31 (by decide +kernel)) rfl
theorem dX9_become_98 : decode cX9_become 98 = .ok (.putfield 68, 3) := bq_o181 (a := 0) (b := 68) (bq_3 bwX9_become_64 34 (by decide +kernel)) rfl
theorem dX9_become_101 : decode cX9_become 101 = .ok (.return_, 1) := bq_o177 (bq_of bwX9_become_64 37 (by decide +kernel))
theorem dX10_init_0 : decode cX10_init 0 = .ok (.aload_n 0, 1) := by decide +kernel
theorem dX10_init_1 : decode cX10_init 1 = .ok (.iload_n 1, 1) := by decide +kernel
theorem dX10_init_2 : decode cX10_init 2 = .ok (.invokespecial 1, 3) := by decide +kernel
theorem dX10_init_5 : decode cX10_init 5 = .ok (.return_, 1) := by decide +kernel
theorem dX10_kind_0 : decode cX10_kind 0 = .ok (.iconst 3, 1) := by decide +kernel
theorem dX10_kind_1 : decode cX10_kind 1 = .ok (.ireturn, 1) := by decide +kernel
theorem dX10_pick_0 : decode cX10_pick 0 = .ok (.iload_n 3, 1) := by decide +kernel
theorem dX10_pick_1 : decode cX10_pick 1 = .ok (.ifCond .eq 14, 3) := by decide +kernel
theorem dX10_pick_4 : decode cX10_pick 4 = .ok (.iload_n 2, 1) := by decide +kernel
theorem dX10_pick_5 : decode cX10_pick 5 = .ok (.invokestatic 7, 3) := by decide +kernel
theorem dX10_pick_8 : decode cX10_pick 8 = .ok (.aload_n 0, 1) := by decide +kernel
theorem dX10_pick_9 : decode cX10_pick 9 = .ok (.invokevirtual 13, 3) := by decide +kernel
theorem dX10_pick_12 : decode cX10_pick 12 = .ok (.if_icmp .lt 7, 3) := by decide +kernel
theorem dX10_pick_15 : decode cX10_pick 15 = .ok (.iconst 1, 1) := by decide +kernel
theorem dX10_pick_16 : decode cX10_pick 16 = .ok (.goto 4, 3) := by decide +kernel
theorem dX10_pick_19 : decode cX10_pick 19 = .ok (.iconst 0, 1) := by decide +kernel
theorem dX10_pick_20 : decode cX10_pick 20 = .ok (.istore 4, 2) := by decide +kernel
theorem dX10_pick_22 : decode cX10_pick 22 = .ok (.iload 4, 2) := by decide +kernel
theorem dX10_pick_24 : decode cX10_pick 24 = .ok (.ifCond .eq 11, 3) := by decide +kernel
theorem dX10_pick_27 : decode cX10_pick 27 = .ok (.aload_n 1, 1) := by decide +kernel
theorem dX10_pick_28 : decode cX10_pick 28 = .ok (.iload_n 2, 1) := by decide +kernel
theorem dX10_pick_29 : decode cX10_pick 29 = .ok (.invokevirtual 19, 3) := by decide +kernel
theorem dX10_pick_32 : decode cX10_pick 32 = .ok (.goto 4, 3) := by decide +kernel
theorem dX10_pick_35 : decode cX10_pick 35 = .ok (.iconst 0, 1) := by decide +kernel
theorem dX10_pick_36 : decode cX10_pick 36 = .ok (.ireturn, 1) := by decide +kernel
def bwX11_init_0l : List Nat := [42, 183, 0, 1, 42, 187, 0, 7, 89, 183, 0, 9, 181, 0, 10, 42, 187, 0, 7, 89, 183, 0, 9, 181, 0, 16, 42, 187, 0, 7, 89, 183, 0, 9, 181, 0, 19, 42, 187, 0, 22, 89, 183, 0, 24, 181, 0, 25, 42, 187, 0, 29, 89, 183, 0, 31, 181, 0, 32, 42, 187, 0, 36, 89, 183, 0]
theorem bwX11_init_0 : ((cX11_init.data.toList.drop 0).take 66).map UInt8.toNat = bwX11_init_0l := by decide +kernel
theorem dX11_init_0 : decode cX11_init 0 = .ok (.aload_n 0, 1) := bq_o42 (bq_of bwX11_init_0 0 (by decide +kernel))
theorem dX11_init_1 : decode cX11_init 1 = .ok (.invokespecial 1, 3) := bq_o183 (a := 0) (b := 1) (bq_3 bwX11_init_0 1 (by decide +kernel)) rfl
theorem dX11_init_4 : decode cX11_init 4 = .ok (.aload_n 0, 1) := bq_o42 (bq_of bwX11_init_0 4 (by decide +kernel))
theorem dX11_init_5 : decode cX11_init 5 = .ok (.new 7, 3) := bq_o187 (a := 0) (b := 7) (bq_3 bwX11_init_0 5 (by decide +kernel)) rfl
theorem dX11_init_8 : decode cX11_init 8 = .ok (.dup, 1) := bq_o89 (bq_of bwX11_init_0 8 (by decide +kernel))
theorem dX11_init_9 : decode cX11_init 9 = .ok (.invokespecial 9, 3) := bq_o183 (a := 0) (b := 9) (bq_3 bwX11_init_0 9 (by decide +kernel)) rfl
theorem dX11_init_12 : decode cX11_init 12 = .ok (.putfield 10, 3) := bq_o181 (a := 0) (b := 10) (bq_3 bwX11_init_0 12 (by decide +kernel)) rfl
theorem dX11_init_15 : decode cX11_init 15 = .ok (.aload_n 0, 1) := bq_o42 (bq_of bwX11_init_0 15 (by decide +kernel))
theorem dX11_init_16 : decode cX11_init 16 = .ok (.new 7, 3) := bq_o187 (a := 0) (b := 7) (bq_3 bwX11_init_0 16 (by decide +kernel)) rfl
theorem dX11_init_19 : decode cX11_init 19 = .ok (.dup, 1) := bq_o89 (bq_of bwX11_init_0 19 (by decide +kernel))
theorem dX11_init_20 : decode cX11_init 20 = .ok (.invokespecial 9, 3) := bq_o183 (a := 0) (b := 9) (bq_3 bwX11_init_0 20 (by decide +kernel)) rfl
theorem dX11_init_23 : decode cX11_init 23 = .ok (.putfield 16, 3) := bq_o181 (a := 0) (b := 16) (bq_3 bwX11_init_0 23 (by decide +kernel)) rfl
theorem dX11_init_26 : decode cX11_init 26 = .ok (.aload_n 0, 1) := bq_o42 (bq_of bwX11_init_0 26 (by decide +kernel))
theorem dX11_init_27 : decode cX11_init 27 = .ok (.new 7, 3) := bq_o187 (a := 0) (b := 7) (bq_3 bwX11_init_0 27 (by decide +kernel)) rfl
theorem dX11_init_30 : decode cX11_init 30 = .ok (.dup, 1) := bq_o89 (bq_of bwX11_init_0 30 (by decide +kernel))
theorem dX11_init_31 : decode cX11_init 31 = .ok (.invokespecial 9, 3) := bq_o183 (a := 0) (b := 9) (bq_3 bwX11_init_0 31 (by decide +kernel)) rfl
theorem dX11_init_34 : decode cX11_init 34 = .ok (.putfield 19, 3) := bq_o181 (a := 0) (b := 19) (bq_3 bwX11_init_0 34 (by decide +kernel)) rfl
theorem dX11_init_37 : decode cX11_init 37 = .ok (.aload_n 0, 1) := bq_o42 (bq_of bwX11_init_0 37 (by decide +kernel))
theorem dX11_init_38 : decode cX11_init 38 = .ok (.new 22, 3) := bq_o187 (a := 0) (b := 22) (bq_3 bwX11_init_0 38 (by decide +kernel)) rfl
theorem dX11_init_41 : decode cX11_init 41 = .ok (.dup, 1) := bq_o89 (bq_of bwX11_init_0 41 (by decide +kernel))
theorem dX11_init_42 : decode cX11_init 42 = .ok (.invokespecial 24, 3) := bq_o183 (a := 0) (b := 24) (bq_3 bwX11_init_0 42 (by decide +kernel)) rfl
theorem dX11_init_45 : decode cX11_init 45 = .ok (.putfield 25, 3) := bq_o181 (a := 0) (b := 25) (bq_3 bwX11_init_0 45 (by decide +kernel)) rfl
theorem dX11_init_48 : decode cX11_init 48 = .ok (.aload_n 0, 1) := bq_o42 (bq_of bwX11_init_0 48 (by decide +kernel))
theorem dX11_init_49 : decode cX11_init 49 = .ok (.new 29, 3) := bq_o187 (a := 0) (b := 29) (bq_3 bwX11_init_0 49 (by decide +kernel)) rfl
theorem dX11_init_52 : decode cX11_init 52 = .ok (.dup, 1) := bq_o89 (bq_of bwX11_init_0 52 (by decide +kernel))
theorem dX11_init_53 : decode cX11_init 53 = .ok (.invokespecial 31, 3) := bq_o183 (a := 0) (b := 31) (bq_3 bwX11_init_0 53 (by decide +kernel)) rfl
theorem dX11_init_56 : decode cX11_init 56 = .ok (.putfield 32, 3) := bq_o181 (a := 0) (b := 32) (bq_3 bwX11_init_0 56 (by decide +kernel)) rfl
theorem dX11_init_59 : decode cX11_init 59 = .ok (.aload_n 0, 1) := bq_o42 (bq_of bwX11_init_0 59 (by decide +kernel))
theorem dX11_init_60 : decode cX11_init 60 = .ok (.new 36, 3) := bq_o187 (a := 0) (b := 36) (bq_3 bwX11_init_0 60 (by decide +kernel)) rfl
theorem dX11_init_63 : decode cX11_init 63 = .ok (.dup, 1) := bq_o89 (bq_of bwX11_init_0 63 (by decide +kernel))
def bwX11_init_64l : List Nat := [183, 0, 38, 181, 0, 39, 42, 16, 8, 189, 0, 43, 181, 0, 45, 42, 16, 7, 188, 10, 181, 0, 49, 3, 60, 27, 16, 8, 162, 0, 22, 42, 180, 0, 45, 27, 187, 0, 43, 89, 183, 0, 53, 83, 132, 1, 1, 167, 255, 234, 177]
theorem bwX11_init_64 : ((cX11_init.data.toList.drop 64).take 51).map UInt8.toNat = bwX11_init_64l := by decide +kernel
theorem dX11_init_64 : decode cX11_init 64 = .ok (.invokespecial 38, 3) := bq_o183 (a := 0) (b := 38) (bq_3 bwX11_init_64 0 (by decide +kernel)) rfl
theorem dX11_init_67 : decode cX11_init 67 = .ok (.putfield 39, 3) := bq_o181 (a := 0) (b := 39) (bq_3 bwX11_init_64 3 (by decide +kernel)) rfl
theorem dX11_init_70 : decode cX11_init 70 = .ok (.aload_n 0, 1) := bq_o42 (bq_of bwX11_init_64 6 (by decide +kernel))
theorem dX11_init_71 : decode cX11_init 71 = .ok (.bipush 8, 2) := bq_o16 (a := 8) (bq_2 bwX11_init_64 7 (by decide +kernel)) (by decide +kernel)
theorem dX11_init_73 : decode cX11_init 73 = .ok (.anewarray 43, 3) := bq_o189 (a := 0) (b := 43) (bq_3 bwX11_init_64 9 (by decide +kernel)) rfl
theorem dX11_init_76 : decode cX11_init 76 = .ok (.putfield 45, 3) := bq_o181 (a := 0) (b := 45) (bq_3 bwX11_init_64 12 (by decide +kernel)) rfl
theorem dX11_init_79 : decode cX11_init 79 = .ok (.aload_n 0, 1) := bq_o42 (bq_of bwX11_init_64 15 (by decide +kernel))
theorem dX11_init_80 : decode cX11_init 80 = .ok (.bipush 7, 2) := bq_o16 (a := 7) (bq_2 bwX11_init_64 16 (by decide +kernel)) (by decide +kernel)
theorem dX11_init_82 : decode cX11_init 82 = .ok (.newarray .int, 2) := by decide +kernel
theorem dX11_init_84 : decode cX11_init 84 = .ok (.putfield 49, 3) := bq_o181 (a := 0) (b := 49) (bq_3 bwX11_init_64 20 (by decide +kernel)) rfl
theorem dX11_init_87 : decode cX11_init 87 = .ok (.iconst 0, 1) := bq_o3 (bq_of bwX11_init_64 23 (by decide +kernel))
theorem dX11_init_88 : decode cX11_init 88 = .ok (.istore_n 1, 1) := bq_o60 (bq_of bwX11_init_64 24 (by decide +kernel))
theorem dX11_init_89 : decode cX11_init 89 = .ok (.iload_n 1, 1) := bq_o27 (bq_of bwX11_init_64 25 (by decide +kernel))
theorem dX11_init_90 : decode cX11_init 90 = .ok (.bipush 8, 2) := bq_o16 (a := 8) (bq_2 bwX11_init_64 26 (by decide +kernel)) (by decide +kernel)
theorem dX11_init_92 : decode cX11_init 92 = .ok (.if_icmp .ge 22, 3) := bq_o162 (a := 0) (b := 22) (bq_3 bwX11_init_64 28 (by decide +kernel)) (by decide +kernel)
theorem dX11_init_95 : decode cX11_init 95 = .ok (.aload_n 0, 1) := bq_o42 (bq_of bwX11_init_64 31 (by decide +kernel))
theorem dX11_init_96 : decode cX11_init 96 = .ok (.getfield 45, 3) := bq_o180 (a := 0) (b := 45) (bq_3 bwX11_init_64 32 (by decide +kernel)) rfl
theorem dX11_init_99 : decode cX11_init 99 = .ok (.iload_n 1, 1) := bq_o27 (bq_of bwX11_init_64 35 (by decide +kernel))
theorem dX11_init_100 : decode cX11_init 100 = .ok (.new 43, 3) := bq_o187 (a := 0) (b := 43) (bq_3 bwX11_init_64 36 (by decide +kernel)) rfl
theorem dX11_init_103 : decode cX11_init 103 = .ok (.dup, 1) := bq_o89 (bq_of bwX11_init_64 39 (by decide +kernel))
theorem dX11_init_104 : decode cX11_init 104 = .ok (.invokespecial 53, 3) := bq_o183 (a := 0) (b := 53) (bq_3 bwX11_init_64 40 (by decide +kernel)) rfl
theorem dX11_init_107 : decode cX11_init 107 = .ok (.aastore, 1) := bq_o83 (bq_of bwX11_init_64 43 (by decide +kernel))
theorem dX11_init_108 : decode cX11_init 108 = .ok (.iinc 1 1, 3) := bq_o132 (a := 1) (b := 1) (bq_3 bwX11_init_64 44 (by decide +kernel)) rfl (by decide +kernel)
theorem dX11_init_111 : decode cX11_init 111 = .ok (.goto (-22), 3) := bq_o167 (a := 255) (b := 234) (bq_3 bwX11_init_64 47 (by decide +kernel)) (by decide +kernel)
theorem dX11_init_114 : decode cX11_init 114 = .ok (.return_, 1) := bq_o177 (bq_of bwX11_init_64 50 (by decide +kernel))
theorem dX11_row_0 : decode cX11_row 0 = .ok (.iload_n 1, 1) := by decide +kernel
theorem dX11_row_1 : decode cX11_row 1 = .ok (.invokestatic 54, 3) := by decide +kernel
theorem dX11_row_4 : decode cX11_row 4 = .ok (.ifCond .eq 22, 3) := by decide +kernel
theorem dX11_row_7 : decode cX11_row 7 = .ok (.iload_n 2, 1) := by decide +kernel
theorem dX11_row_8 : decode cX11_row 8 = .ok (.ifCond .lt 18, 3) := by decide +kernel
theorem dX11_row_11 : decode cX11_row 11 = .ok (.iload_n 2, 1) := by decide +kernel
theorem dX11_row_12 : decode cX11_row 12 = .ok (.iconst 5, 1) := by decide +kernel
theorem dX11_row_13 : decode cX11_row 13 = .ok (.if_icmp .ge 13, 3) := by decide +kernel
theorem dX11_row_16 : decode cX11_row 16 = .ok (.iload_n 3, 1) := by decide +kernel
theorem dX11_row_17 : decode cX11_row 17 = .ok (.ifCond .lt 9, 3) := by decide +kernel
theorem dX11_row_20 : decode cX11_row 20 = .ok (.iload_n 3, 1) := by decide +kernel
theorem dX11_row_21 : decode cX11_row 21 = .ok (.bipush 40, 2) := by decide +kernel
theorem dX11_row_23 : decode cX11_row 23 = .ok (.if_icmp .le 10, 3) := by decide +kernel
theorem dX11_row_26 : decode cX11_row 26 = .ok (.aload_n 0, 1) := by decide +kernel
theorem dX11_row_27 : decode cX11_row 27 = .ok (.bipush (-2), 2) := by decide +kernel
theorem dX11_row_29 : decode cX11_row 29 = .ok (.invokevirtual 58, 3) := by decide +kernel
theorem dX11_row_32 : decode cX11_row 32 = .ok (.ireturn, 1) := by decide +kernel
theorem dX11_row_33 : decode cX11_row 33 = .ok (.aload_n 0, 1) := by decide +kernel
theorem dX11_row_34 : decode cX11_row 34 = .ok (.getfield 45, 3) := by decide +kernel
theorem dX11_row_37 : decode cX11_row 37 = .ok (.iload_n 1, 1) := by decide +kernel
theorem dX11_row_38 : decode cX11_row 38 = .ok (.aaload, 1) := by decide +kernel
theorem dX11_row_39 : decode cX11_row 39 = .ok (.iload_n 2, 1) := by decide +kernel
theorem dX11_row_40 : decode cX11_row 40 = .ok (.iload_n 3, 1) := by decide +kernel
theorem dX11_row_41 : decode cX11_row 41 = .ok (.invokevirtual 62, 3) := by decide +kernel
theorem dX11_row_44 : decode cX11_row 44 = .ok (.iconst 1, 1) := by decide +kernel
theorem dX11_row_45 : decode cX11_row 45 = .ok (.ireturn, 1) := by decide +kernel
theorem dX11_set_0 : decode cX11_set 0 = .ok (.aload_n 0, 1) := by decide +kernel
theorem dX11_set_1 : decode cX11_set 1 = .ok (.iload_n 1, 1) := by decide +kernel
theorem dX11_set_2 : decode cX11_set 2 = .ok (.invokevirtual 66, 3) := by decide +kernel
theorem dX11_set_5 : decode cX11_set 5 = .ok (.ifCond .ne 13, 3) := by decide +kernel
theorem dX11_set_8 : decode cX11_set 8 = .ok (.aload_n 0, 1) := by decide +kernel
theorem dX11_set_9 : decode cX11_set 9 = .ok (.aload_n 0, 1) := by decide +kernel
theorem dX11_set_10 : decode cX11_set 10 = .ok (.iload_n 1, 1) := by decide +kernel
theorem dX11_set_11 : decode cX11_set 11 = .ok (.invokevirtual 69, 3) := by decide +kernel
theorem dX11_set_14 : decode cX11_set 14 = .ok (.invokevirtual 58, 3) := by decide +kernel
theorem dX11_set_17 : decode cX11_set 17 = .ok (.ireturn, 1) := by decide +kernel
theorem dX11_set_18 : decode cX11_set 18 = .ok (.iload_n 2, 1) := by decide +kernel
theorem dX11_set_19 : decode cX11_set 19 = .ok (.ifCond .lt 16, 3) := by decide +kernel
theorem dX11_set_22 : decode cX11_set 22 = .ok (.iload_n 2, 1) := by decide +kernel
theorem dX11_set_23 : decode cX11_set 23 = .ok (.aload_n 0, 1) := by decide +kernel
theorem dX11_set_24 : decode cX11_set 24 = .ok (.getfield 45, 3) := by decide +kernel
theorem dX11_set_27 : decode cX11_set 27 = .ok (.iload_n 1, 1) := by decide +kernel
theorem dX11_set_28 : decode cX11_set 28 = .ok (.aaload, 1) := by decide +kernel
theorem dX11_set_29 : decode cX11_set 29 = .ok (.getfield 72, 3) := by decide +kernel
theorem dX11_set_32 : decode cX11_set 32 = .ok (.if_icmp .lt 10, 3) := by decide +kernel
theorem dX11_set_35 : decode cX11_set 35 = .ok (.aload_n 0, 1) := by decide +kernel
theorem dX11_set_36 : decode cX11_set 36 = .ok (.bipush (-2), 2) := by decide +kernel
theorem dX11_set_38 : decode cX11_set 38 = .ok (.invokevirtual 58, 3) := by decide +kernel
theorem dX11_set_41 : decode cX11_set 41 = .ok (.ireturn, 1) := by decide +kernel
theorem dX11_set_42 : decode cX11_set 42 = .ok (.aload_n 0, 1) := by decide +kernel
theorem dX11_set_43 : decode cX11_set 43 = .ok (.getfield 45, 3) := by decide +kernel
theorem dX11_set_46 : decode cX11_set 46 = .ok (.iload_n 1, 1) := by decide +kernel
theorem dX11_set_47 : decode cX11_set 47 = .ok (.aaload, 1) := by decide +kernel
theorem dX11_set_48 : decode cX11_set 48 = .ok (.iload_n 2, 1) := by decide +kernel
theorem dX11_set_49 : decode cX11_set 49 = .ok (.lload_n 3, 1) := by decide +kernel
theorem dX11_set_50 : decode cX11_set 50 = .ok (.invokevirtual 76, 3) := by decide +kernel
theorem dX11_set_53 : decode cX11_set 53 = .ok (.iconst 1, 1) := by decide +kernel
theorem dX11_set_54 : decode cX11_set 54 = .ok (.ireturn, 1) := by decide +kernel
def bwX11_copy_0l : List Nat := [27, 184, 0, 54, 153, 0, 10, 28, 184, 0, 54, 154, 0, 10, 42, 16, 254, 182, 0, 58, 172, 42, 180, 0, 45, 27, 50, 58, 6, 42, 180, 0, 45, 28, 50, 58, 7, 25, 6, 182, 0, 80, 153, 0, 15, 25, 7, 182, 0, 80, 153, 0, 7, 4, 167, 0, 4, 3, 54, 8, 25, 6, 180, 0, 84, 199]
theorem bwX11_copy_0 : ((cX11_copy.data.toList.drop 0).take 66).map UInt8.toNat = bwX11_copy_0l := by decide +kernel
theorem dX11_copy_0 : decode cX11_copy 0 = .ok (.iload_n 1, 1) := bq_o27 (bq_of bwX11_copy_0 0 (by decide +kernel))
theorem dX11_copy_1 : decode cX11_copy 1 = .ok (.invokestatic 54, 3) := bq_o184 (a := 0) (b := 54) (bq_3 bwX11_copy_0 1 (by decide +kernel)) rfl
theorem dX11_copy_4 : decode cX11_copy 4 = .ok (.ifCond .eq 10, 3) := bq_o153 (a := 0) (b := 10) (bq_3 bwX11_copy_0 4 (by decide +kernel)) (by decide +kernel)
theorem dX11_copy_7 : decode cX11_copy 7 = .ok (.iload_n 2, 1) := bq_o28 (bq_of bwX11_copy_0 7 (by decide +kernel))
theorem dX11_copy_8 : decode cX11_copy 8 = .ok (.invokestatic 54, 3) := bq_o184 (a := 0) (b := 54) (bq_3 bwX11_copy_0 8 (by decide +kernel)) rfl
theorem dX11_copy_11 : decode cX11_copy 11 = .ok (.ifCond .ne 10, 3) := bq_o154 (a := 0) (b := 10) (bq_3 bwX11_copy_0 11 (by decide +kernel)) (by decide +kernel)
theorem dX11_copy_14 : decode cX11_copy 14 = .ok (.aload_n 0, 1) := bq_o42 (bq_of bwX11_copy_0 14 (by decide +kernel))
theorem dX11_copy_15 : decode cX11_copy 15 = .ok (.bipush (-2), 2) := bq_o16 (a := 254) (bq_2 bwX11_copy_0 15 (by decide +kernel)) (by decide +kernel)
theorem dX11_copy_17 : decode cX11_copy 17 = .ok (.invokevirtual 58, 3) := bq_o182 (a := 0) (b := 58) (bq_3 bwX11_copy_0 17 (by decide +kernel)) rfl
theorem dX11_copy_20 : decode cX11_copy 20 = .ok (.ireturn, 1) := bq_o172 (bq_of bwX11_copy_0 20 (by decide +kernel))
theorem dX11_copy_21 : decode cX11_copy 21 = .ok (.aload_n 0, 1) := bq_o42 (bq_of bwX11_copy_0 21 (by decide +kernel))
theorem dX11_copy_22 : decode cX11_copy 22 = .ok (.getfield 45, 3) := bq_o180 (a := 0) (b := 45) (bq_3 bwX11_copy_0 22 (by decide +kernel)) rfl
theorem dX11_copy_25 : decode cX11_copy 25 = .ok (.iload_n 1, 1) := bq_o27 (bq_of bwX11_copy_0 25 (by decide +kernel))
theorem dX11_copy_26 : decode cX11_copy 26 = .ok (.aaload, 1) := bq_o50 (bq_of bwX11_copy_0 26 (by decide +kernel))
theorem dX11_copy_27 : decode cX11_copy 27 = .ok (.astore 6, 2) := bq_o58 (a := 6) (bq_2 bwX11_copy_0 27 (by decide +kernel)) rfl
theorem dX11_copy_29 : decode cX11_copy 29 = .ok (.aload_n 0, 1) := bq_o42 (bq_of bwX11_copy_0 29 (by decide +kernel))
theorem dX11_copy_30 : decode cX11_copy 30 = .ok (.getfield 45, 3) := bq_o180 (a := 0) (b := 45) (bq_3 bwX11_copy_0 30 (by decide +kernel)) rfl
theorem dX11_copy_33 : decode cX11_copy 33 = .ok (.iload_n 2, 1) := bq_o28 (bq_of bwX11_copy_0 33 (by decide +kernel))
theorem dX11_copy_34 : decode cX11_copy 34 = .ok (.aaload, 1) := bq_o50 (bq_of bwX11_copy_0 34 (by decide +kernel))
theorem dX11_copy_35 : decode cX11_copy 35 = .ok (.astore 7, 2) := bq_o58 (a := 7) (bq_2 bwX11_copy_0 35 (by decide +kernel)) rfl
theorem dX11_copy_37 : decode cX11_copy 37 = .ok (.aload 6, 2) := bq_o25 (a := 6) (bq_2 bwX11_copy_0 37 (by decide +kernel)) rfl
theorem dX11_copy_39 : decode cX11_copy 39 = .ok (.invokevirtual 80, 3) := bq_o182 (a := 0) (b := 80) (bq_3 bwX11_copy_0 39 (by decide +kernel)) rfl
theorem dX11_copy_42 : decode cX11_copy 42 = .ok (.ifCond .eq 15, 3) := bq_o153 (a := 0) (b := 15) (bq_3 bwX11_copy_0 42 (by decide +kernel)) (by decide +kernel)
theorem dX11_copy_45 : decode cX11_copy 45 = .ok (.aload 7, 2) := bq_o25 (a := 7) (bq_2 bwX11_copy_0 45 (by decide +kernel)) rfl
theorem dX11_copy_47 : decode cX11_copy 47 = .ok (.invokevirtual 80, 3) := bq_o182 (a := 0) (b := 80) (bq_3 bwX11_copy_0 47 (by decide +kernel)) rfl
theorem dX11_copy_50 : decode cX11_copy 50 = .ok (.ifCond .eq 7, 3) := bq_o153 (a := 0) (b := 7) (bq_3 bwX11_copy_0 50 (by decide +kernel)) (by decide +kernel)
theorem dX11_copy_53 : decode cX11_copy 53 = .ok (.iconst 1, 1) := bq_o4 (bq_of bwX11_copy_0 53 (by decide +kernel))
theorem dX11_copy_54 : decode cX11_copy 54 = .ok (.goto 4, 3) := bq_o167 (a := 0) (b := 4) (bq_3 bwX11_copy_0 54 (by decide +kernel)) (by decide +kernel)
theorem dX11_copy_57 : decode cX11_copy 57 = .ok (.iconst 0, 1) := bq_o3 (bq_of bwX11_copy_0 57 (by decide +kernel))
theorem dX11_copy_58 : decode cX11_copy 58 = .ok (.istore 8, 2) := bq_o54 (a := 8) (bq_2 bwX11_copy_0 58 (by decide +kernel)) rfl
theorem dX11_copy_60 : decode cX11_copy 60 = .ok (.aload 6, 2) := bq_o25 (a := 6) (bq_2 bwX11_copy_0 60 (by decide +kernel)) rfl
theorem dX11_copy_62 : decode cX11_copy 62 = .ok (.getfield 84, 3) := bq_o180 (a := 0) (b := 84) (bq_3 bwX11_copy_0 62 (by decide +kernel)) rfl
def bwX11_copy_64l : List Nat := [84, 199, 0, 29, 25, 7, 180, 0, 84, 199, 0, 21, 21, 8, 153, 0, 23, 25, 6, 180, 0, 88, 25, 7, 180, 0, 88, 159, 0, 10, 42, 16, 253, 182, 0, 58, 172, 21, 8, 154, 0, 10, 42, 16, 252, 182, 0, 58, 172, 29, 155, 0, 38, 21, 4, 155, 0, 33, 21, 5, 155, 0, 28, 21, 5, 25]
theorem bwX11_copy_64 : ((cX11_copy.data.toList.drop 64).take 66).map UInt8.toNat = bwX11_copy_64l := by decide +kernel
theorem dX11_copy_65 : decode cX11_copy 65 = .ok (.ifnonnull 29, 3) := bq_o199 (a := 0) (b := 29) (bq_3 bwX11_copy_64 1 (by decide +kernel)) (by decide +kernel)
theorem dX11_copy_68 : decode cX11_copy 68 = .ok (.aload 7, 2) := bq_o25 (a := 7) (bq_2 bwX11_copy_64 4 (by decide +kernel)) rfl
theorem dX11_copy_70 : decode cX11_copy 70 = .ok (.getfield 84, 3) := bq_o180 (a := 0) (b := 84) (bq_3 bwX11_copy_64 6 (by decide +kernel)) rfl
theorem dX11_copy_73 : decode cX11_copy 73 = .ok (.ifnonnull 21, 3) := bq_o199 (a := 0) (b := 21) (bq_3 bwX11_copy_64 9 (by decide +kernel)) (by decide +kernel)
theorem dX11_copy_76 : decode cX11_copy 76 = .ok (.iload 8, 2) := bq_o21 (a := 8) (bq_2 bwX11_copy_64 12 (by decide +kernel)) rfl
theorem dX11_copy_78 : decode cX11_copy 78 = .ok (.ifCond .eq 23, 3) := bq_o153 (a := 0) (b := 23) (bq_3 bwX11_copy_64 14 (by decide +kernel)) (by decide +kernel)
theorem dX11_copy_81 : decode cX11_copy 81 = .ok (.aload 6, 2) := bq_o25 (a := 6) (bq_2 bwX11_copy_64 17 (by decide +kernel)) rfl
theorem dX11_copy_83 : decode cX11_copy 83 = .ok (.getfield 88, 3) := bq_o180 (a := 0) (b := 88) (bq_3 bwX11_copy_64 19 (by decide +kernel)) rfl
theorem dX11_copy_86 : decode cX11_copy 86 = .ok (.aload 7, 2) := bq_o25 (a := 7) (bq_2 bwX11_copy_64 22 (by decide +kernel)) rfl
theorem dX11_copy_88 : decode cX11_copy 88 = .ok (.getfield 88, 3) := bq_o180 (a := 0) (b := 88) (bq_3 bwX11_copy_64 24 (by decide +kernel)) rfl
theorem dX11_copy_91 : decode cX11_copy 91 = .ok (.if_icmp .eq 10, 3) := bq_o159 (a := 0) (b := 10) (bq_3 bwX11_copy_64 27 (by decide +kernel)) (by decide +kernel)
theorem dX11_copy_94 : decode cX11_copy 94 = .ok (.aload_n 0, 1) := bq_o42 (bq_of bwX11_copy_64 30 (by decide +kernel))
theorem dX11_copy_95 : decode cX11_copy 95 = .ok (.bipush (-3), 2) := bq_o16 (a := 253) (bq_2 bwX11_copy_64 31 (by decide +kernel)) (by decide +kernel)
theorem dX11_copy_97 : decode cX11_copy 97 = .ok (.invokevirtual 58, 3) := bq_o182 (a := 0) (b := 58) (bq_3 bwX11_copy_64 33 (by decide +kernel)) rfl
theorem dX11_copy_100 : decode cX11_copy 100 = .ok (.ireturn, 1) := bq_o172 (bq_of bwX11_copy_64 36 (by decide +kernel))
theorem dX11_copy_101 : decode cX11_copy 101 = .ok (.iload 8, 2) := bq_o21 (a := 8) (bq_2 bwX11_copy_64 37 (by decide +kernel)) rfl
theorem dX11_copy_103 : decode cX11_copy 103 = .ok (.ifCond .ne 10, 3) := bq_o154 (a := 0) (b := 10) (bq_3 bwX11_copy_64 39 (by decide +kernel)) (by decide +kernel)
theorem dX11_copy_106 : decode cX11_copy 106 = .ok (.aload_n 0, 1) := bq_o42 (bq_of bwX11_copy_64 42 (by decide +kernel))
theorem dX11_copy_107 : decode cX11_copy 107 = .ok (.bipush (-4), 2) := bq_o16 (a := 252) (bq_2 bwX11_copy_64 43 (by decide +kernel)) (by decide +kernel)
theorem dX11_copy_109 : decode cX11_copy 109 = .ok (.invokevirtual 58, 3) := bq_o182 (a := 0) (b := 58) (bq_3 bwX11_copy_64 45 (by decide +kernel)) rfl
theorem dX11_copy_112 : decode cX11_copy 112 = .ok (.ireturn, 1) := bq_o172 (bq_of bwX11_copy_64 48 (by decide +kernel))
theorem dX11_copy_113 : decode cX11_copy 113 = .ok (.iload_n 3, 1) := bq_o29 (bq_of bwX11_copy_64 49 (by decide +kernel))
theorem dX11_copy_114 : decode cX11_copy 114 = .ok (.ifCond .lt 38, 3) := bq_o155 (a := 0) (b := 38) (bq_3 bwX11_copy_64 50 (by decide +kernel)) (by decide +kernel)
theorem dX11_copy_117 : decode cX11_copy 117 = .ok (.iload 4, 2) := bq_o21 (a := 4) (bq_2 bwX11_copy_64 53 (by decide +kernel)) rfl
theorem dX11_copy_119 : decode cX11_copy 119 = .ok (.ifCond .lt 33, 3) := bq_o155 (a := 0) (b := 33) (bq_3 bwX11_copy_64 55 (by decide +kernel)) (by decide +kernel)
theorem dX11_copy_122 : decode cX11_copy 122 = .ok (.iload 5, 2) := bq_o21 (a := 5) (bq_2 bwX11_copy_64 58 (by decide +kernel)) rfl
theorem dX11_copy_124 : decode cX11_copy 124 = .ok (.ifCond .lt 28, 3) := bq_o155 (a := 0) (b := 28) (bq_3 bwX11_copy_64 60 (by decide +kernel)) (by decide +kernel)
theorem dX11_copy_127 : decode cX11_copy 127 = .ok (.iload 5, 2) := bq_o21 (a := 5) (bq_2 bwX11_copy_64 63 (by decide +kernel)) rfl
def bwX11_copy_128l : List Nat := [5, 25, 6, 180, 0, 72, 29, 100, 163, 0, 16, 21, 5, 25, 7, 180, 0, 72, 21, 4, 100, 164, 0, 10, 42, 16, 254, 182, 0, 58, 172, 25, 6, 180, 0, 91, 29, 25, 7, 180, 0, 91, 21, 4, 21, 5, 184, 0, 95, 21, 5, 172]
theorem bwX11_copy_128 : ((cX11_copy.data.toList.drop 128).take 52).map UInt8.toNat = bwX11_copy_128l := by decide +kernel
theorem dX11_copy_129 : decode cX11_copy 129 = .ok (.aload 6, 2) := bq_o25 (a := 6) (bq_2 bwX11_copy_128 1 (by decide +kernel)) rfl
theorem dX11_copy_131 : decode cX11_copy 131 = .ok (.getfield 72, 3) := bq_o180 (a := 0) (b := 72) (bq_3 bwX11_copy_128 3 (by decide +kernel)) rfl
theorem dX11_copy_134 : decode cX11_copy 134 = .ok (.iload_n 3, 1) := bq_o29 (bq_of bwX11_copy_128 6 (by decide +kernel))
theorem dX11_copy_135 : decode cX11_copy 135 = .ok (.isub, 1) := bq_o100 (bq_of bwX11_copy_128 7 (by decide +kernel))
theorem dX11_copy_136 : decode cX11_copy 136 = .ok (.if_icmp .gt 16, 3) := bq_o163 (a := 0) (b := 16) (bq_3 bwX11_copy_128 8 (by decide +kernel)) (by decide +kernel)
theorem dX11_copy_139 : decode cX11_copy 139 = .ok (.iload 5, 2) := bq_o21 (a := 5) (bq_2 bwX11_copy_128 11 (by decide +kernel)) rfl
theorem dX11_copy_141 : decode cX11_copy 141 = .ok (.aload 7, 2) := bq_o25 (a := 7) (bq_2 bwX11_copy_128 13 (by decide +kernel)) rfl
theorem dX11_copy_143 : decode cX11_copy 143 = .ok (.getfield 72, 3) := bq_o180 (a := 0) (b := 72) (bq_3 bwX11_copy_128 15 (by decide +kernel)) rfl
theorem dX11_copy_146 : decode cX11_copy 146 = .ok (.iload 4, 2) := bq_o21 (a := 4) (bq_2 bwX11_copy_128 18 (by decide +kernel)) rfl
theorem dX11_copy_148 : decode cX11_copy 148 = .ok (.isub, 1) := bq_o100 (bq_of bwX11_copy_128 20 (by decide +kernel))
theorem dX11_copy_149 : decode cX11_copy 149 = .ok (.if_icmp .le 10, 3) := bq_o164 (a := 0) (b := 10) (bq_3 bwX11_copy_128 21 (by decide +kernel)) (by decide +kernel)
theorem dX11_copy_152 : decode cX11_copy 152 = .ok (.aload_n 0, 1) := bq_o42 (bq_of bwX11_copy_128 24 (by decide +kernel))
theorem dX11_copy_153 : decode cX11_copy 153 = .ok (.bipush (-2), 2) := bq_o16 (a := 254) (bq_2 bwX11_copy_128 25 (by decide +kernel)) (by decide +kernel)
theorem dX11_copy_155 : decode cX11_copy 155 = .ok (.invokevirtual 58, 3) := bq_o182 (a := 0) (b := 58) (bq_3 bwX11_copy_128 27 (by decide +kernel)) rfl
theorem dX11_copy_158 : decode cX11_copy 158 = .ok (.ireturn, 1) := bq_o172 (bq_of bwX11_copy_128 30 (by decide +kernel))
theorem dX11_copy_159 : decode cX11_copy 159 = .ok (.aload 6, 2) := bq_o25 (a := 6) (bq_2 bwX11_copy_128 31 (by decide +kernel)) rfl
theorem dX11_copy_161 : decode cX11_copy 161 = .ok (.getfield 91, 3) := bq_o180 (a := 0) (b := 91) (bq_3 bwX11_copy_128 33 (by decide +kernel)) rfl
theorem dX11_copy_164 : decode cX11_copy 164 = .ok (.iload_n 3, 1) := bq_o29 (bq_of bwX11_copy_128 36 (by decide +kernel))
theorem dX11_copy_165 : decode cX11_copy 165 = .ok (.aload 7, 2) := bq_o25 (a := 7) (bq_2 bwX11_copy_128 37 (by decide +kernel)) rfl
theorem dX11_copy_167 : decode cX11_copy 167 = .ok (.getfield 91, 3) := bq_o180 (a := 0) (b := 91) (bq_3 bwX11_copy_128 39 (by decide +kernel)) rfl
theorem dX11_copy_170 : decode cX11_copy 170 = .ok (.iload 4, 2) := bq_o21 (a := 4) (bq_2 bwX11_copy_128 42 (by decide +kernel)) rfl
theorem dX11_copy_172 : decode cX11_copy 172 = .ok (.iload 5, 2) := bq_o21 (a := 5) (bq_2 bwX11_copy_128 44 (by decide +kernel)) rfl
theorem dX11_copy_174 : decode cX11_copy 174 = .ok (.invokestatic 95, 3) := bq_o184 (a := 0) (b := 95) (bq_3 bwX11_copy_128 46 (by decide +kernel)) rfl
theorem dX11_copy_177 : decode cX11_copy 177 = .ok (.iload 5, 2) := bq_o21 (a := 5) (bq_2 bwX11_copy_128 49 (by decide +kernel)) rfl
theorem dX11_copy_179 : decode cX11_copy 179 = .ok (.ireturn, 1) := bq_o172 (bq_of bwX11_copy_128 51 (by decide +kernel))
theorem dX11_element_0 : decode cX11_element 0 = .ok (.aload_n 0, 1) := by decide +kernel
theorem dX11_element_1 : decode cX11_element 1 = .ok (.iload_n 1, 1) := by decide +kernel
theorem dX11_element_2 : decode cX11_element 2 = .ok (.invokevirtual 66, 3) := by decide +kernel
theorem dX11_element_5 : decode cX11_element 5 = .ok (.ifCond .eq 20, 3) := by decide +kernel
theorem dX11_element_8 : decode cX11_element 8 = .ok (.iload_n 2, 1) := by decide +kernel
theorem dX11_element_9 : decode cX11_element 9 = .ok (.ifCond .lt 16, 3) := by decide +kernel
theorem dX11_element_12 : decode cX11_element 12 = .ok (.iload_n 2, 1) := by decide +kernel
theorem dX11_element_13 : decode cX11_element 13 = .ok (.aload_n 0, 1) := by decide +kernel
theorem dX11_element_14 : decode cX11_element 14 = .ok (.getfield 45, 3) := by decide +kernel
theorem dX11_element_17 : decode cX11_element 17 = .ok (.iload_n 1, 1) := by decide +kernel
theorem dX11_element_18 : decode cX11_element 18 = .ok (.aaload, 1) := by decide +kernel
theorem dX11_element_19 : decode cX11_element 19 = .ok (.getfield 72, 3) := by decide +kernel
theorem dX11_element_22 : decode cX11_element 22 = .ok (.if_icmp .lt 5, 3) := by decide +kernel
theorem dX11_element_25 : decode cX11_element 25 = .ok (.lconst 0, 1) := by decide +kernel
theorem dX11_element_26 : decode cX11_element 26 = .ok (.lreturn, 1) := by decide +kernel
theorem dX11_element_27 : decode cX11_element 27 = .ok (.aload_n 0, 1) := by decide +kernel
theorem dX11_element_28 : decode cX11_element 28 = .ok (.getfield 45, 3) := by decide +kernel
theorem dX11_element_31 : decode cX11_element 31 = .ok (.iload_n 1, 1) := by decide +kernel
theorem dX11_element_32 : decode cX11_element 32 = .ok (.aaload, 1) := by decide +kernel
theorem dX11_element_33 : decode cX11_element 33 = .ok (.getfield 91, 3) := by decide +kernel
theorem dX11_element_36 : decode cX11_element 36 = .ok (.iload_n 2, 1) := by decide +kernel
theorem dX11_element_37 : decode cX11_element 37 = .ok (.laload, 1) := by decide +kernel
theorem dX11_element_38 : decode cX11_element 38 = .ok (.lreturn, 1) := by decide +kernel
theorem dX11_holds_0 : decode cX11_holds 0 = .ok (.iload_n 1, 1) := by decide +kernel
theorem dX11_holds_1 : decode cX11_holds 1 = .ok (.invokestatic 54, 3) := by decide +kernel
theorem dX11_holds_4 : decode cX11_holds 4 = .ok (.ifCond .ne 5, 3) := by decide +kernel
theorem dX11_holds_7 : decode cX11_holds 7 = .ok (.iconst (-1), 1) := by decide +kernel
theorem dX11_holds_8 : decode cX11_holds 8 = .ok (.ireturn, 1) := by decide +kernel
theorem dX11_holds_9 : decode cX11_holds 9 = .ok (.aload_n 0, 1) := by decide +kernel
theorem dX11_holds_10 : decode cX11_holds 10 = .ok (.getfield 45, 3) := by decide +kernel
theorem dX11_holds_13 : decode cX11_holds 13 = .ok (.iload_n 1, 1) := by decide +kernel
theorem dX11_holds_14 : decode cX11_holds 14 = .ok (.aaload, 1) := by decide +kernel
theorem dX11_holds_15 : decode cX11_holds 15 = .ok (.getfield 84, 3) := by decide +kernel
theorem dX11_holds_18 : decode cX11_holds 18 = .ok (.astore_n 2, 1) := by decide +kernel
theorem dX11_holds_19 : decode cX11_holds 19 = .ok (.aload_n 2, 1) := by decide +kernel
theorem dX11_holds_20 : decode cX11_holds 20 = .ok (.ifnonnull 15, 3) := by decide +kernel
theorem dX11_holds_23 : decode cX11_holds 23 = .ok (.aload_n 0, 1) := by decide +kernel
theorem dX11_holds_24 : decode cX11_holds 24 = .ok (.getfield 45, 3) := by decide +kernel
theorem dX11_holds_27 : decode cX11_holds 27 = .ok (.iload_n 1, 1) := by decide +kernel
theorem dX11_holds_28 : decode cX11_holds 28 = .ok (.aaload, 1) := by decide +kernel
theorem dX11_holds_29 : decode cX11_holds 29 = .ok (.getfield 88, 3) := by decide +kernel
theorem dX11_holds_32 : decode cX11_holds 32 = .ok (.goto 10, 3) := by decide +kernel
theorem dX11_holds_35 : decode cX11_holds 35 = .ok (.bipush 10, 2) := by decide +kernel
theorem dX11_holds_37 : decode cX11_holds 37 = .ok (.aload_n 2, 1) := by decide +kernel
theorem dX11_holds_38 : decode cX11_holds 38 = .ok (.invokevirtual 101, 3) := by decide +kernel
theorem dX11_holds_41 : decode cX11_holds 41 = .ok (.iadd, 1) := by decide +kernel
theorem dX11_holds_42 : decode cX11_holds 42 = .ok (.ireturn, 1) := by decide +kernel
theorem dX11_coachman_0 : decode cX11_coachman 0 = .ok (.iload_n 1, 1) := by decide +kernel
theorem dX11_coachman_1 : decode cX11_coachman 1 = .ok (.invokestatic 54, 3) := by decide +kernel
theorem dX11_coachman_4 : decode cX11_coachman 4 = .ok (.ifCond .eq 24, 3) := by decide +kernel
theorem dX11_coachman_7 : decode cX11_coachman 7 = .ok (.iload_n 2, 1) := by decide +kernel
theorem dX11_coachman_8 : decode cX11_coachman 8 = .ok (.iconst 1, 1) := by decide +kernel
theorem dX11_coachman_9 : decode cX11_coachman 9 = .ok (.if_icmp .lt 19, 3) := by decide +kernel
theorem dX11_coachman_12 : decode cX11_coachman 12 = .ok (.iload_n 2, 1) := by decide +kernel
theorem dX11_coachman_13 : decode cX11_coachman 13 = .ok (.bipush 6, 2) := by decide +kernel
theorem dX11_coachman_15 : decode cX11_coachman 15 = .ok (.if_icmp .ge 13, 3) := by decide +kernel
theorem dX11_coachman_18 : decode cX11_coachman 18 = .ok (.iload_n 3, 1) := by decide +kernel
theorem dX11_coachman_19 : decode cX11_coachman 19 = .ok (.ifCond .lt 9, 3) := by decide +kernel
theorem dX11_coachman_22 : decode cX11_coachman 22 = .ok (.iload_n 3, 1) := by decide +kernel
theorem dX11_coachman_23 : decode cX11_coachman 23 = .ok (.bipush 9, 2) := by decide +kernel
theorem dX11_coachman_25 : decode cX11_coachman 25 = .ok (.if_icmp .le 10, 3) := by decide +kernel
theorem dX11_coachman_28 : decode cX11_coachman 28 = .ok (.aload_n 0, 1) := by decide +kernel
theorem dX11_coachman_29 : decode cX11_coachman 29 = .ok (.bipush (-2), 2) := by decide +kernel
theorem dX11_coachman_31 : decode cX11_coachman 31 = .ok (.invokevirtual 58, 3) := by decide +kernel
theorem dX11_coachman_34 : decode cX11_coachman 34 = .ok (.ireturn, 1) := by decide +kernel
theorem dX11_coachman_35 : decode cX11_coachman 35 = .ok (.aload_n 0, 1) := by decide +kernel
theorem dX11_coachman_36 : decode cX11_coachman 36 = .ok (.getfield 45, 3) := by decide +kernel
theorem dX11_coachman_39 : decode cX11_coachman 39 = .ok (.iload_n 1, 1) := by decide +kernel
theorem dX11_coachman_40 : decode cX11_coachman 40 = .ok (.aaload, 1) := by decide +kernel
theorem dX11_coachman_41 : decode cX11_coachman 41 = .ok (.iload_n 2, 1) := by decide +kernel
theorem dX11_coachman_42 : decode cX11_coachman 42 = .ok (.iload_n 3, 1) := by decide +kernel
theorem dX11_coachman_43 : decode cX11_coachman 43 = .ok (.invokestatic 107, 3) := by decide +kernel
theorem dX11_coachman_46 : decode cX11_coachman 46 = .ok (.invokevirtual 111, 3) := by decide +kernel
theorem dX11_coachman_49 : decode cX11_coachman 49 = .ok (.iconst 1, 1) := by decide +kernel
theorem dX11_coachman_50 : decode cX11_coachman 50 = .ok (.ireturn, 1) := by decide +kernel
def bwX11_says_0l : List Nat := [27, 184, 0, 54, 153, 0, 13, 28, 155, 0, 9, 28, 16, 6, 161, 0, 10, 42, 16, 254, 182, 0, 58, 172, 42, 27, 182, 0, 115, 78, 45, 199, 0, 13, 42, 42, 27, 182, 0, 119, 182, 0, 58, 172, 45, 28, 182, 0, 122, 154, 0, 10, 42, 16, 253, 182, 0, 58, 172, 28, 154, 0, 8, 45, 182, 0]
theorem bwX11_says_0 : ((cX11_says.data.toList.drop 0).take 66).map UInt8.toNat = bwX11_says_0l := by decide +kernel
theorem dX11_says_0 : decode cX11_says 0 = .ok (.iload_n 1, 1) := bq_o27 (bq_of bwX11_says_0 0 (by decide +kernel))
theorem dX11_says_1 : decode cX11_says 1 = .ok (.invokestatic 54, 3) := bq_o184 (a := 0) (b := 54) (bq_3 bwX11_says_0 1 (by decide +kernel)) rfl
theorem dX11_says_4 : decode cX11_says 4 = .ok (.ifCond .eq 13, 3) := bq_o153 (a := 0) (b := 13) (bq_3 bwX11_says_0 4 (by decide +kernel)) (by decide +kernel)
theorem dX11_says_7 : decode cX11_says 7 = .ok (.iload_n 2, 1) := bq_o28 (bq_of bwX11_says_0 7 (by decide +kernel))
theorem dX11_says_8 : decode cX11_says 8 = .ok (.ifCond .lt 9, 3) := bq_o155 (a := 0) (b := 9) (bq_3 bwX11_says_0 8 (by decide +kernel)) (by decide +kernel)
theorem dX11_says_11 : decode cX11_says 11 = .ok (.iload_n 2, 1) := bq_o28 (bq_of bwX11_says_0 11 (by decide +kernel))
theorem dX11_says_12 : decode cX11_says 12 = .ok (.bipush 6, 2) := bq_o16 (a := 6) (bq_2 bwX11_says_0 12 (by decide +kernel)) (by decide +kernel)
theorem dX11_says_14 : decode cX11_says 14 = .ok (.if_icmp .lt 10, 3) := bq_o161 (a := 0) (b := 10) (bq_3 bwX11_says_0 14 (by decide +kernel)) (by decide +kernel)
theorem dX11_says_17 : decode cX11_says 17 = .ok (.aload_n 0, 1) := bq_o42 (bq_of bwX11_says_0 17 (by decide +kernel))
theorem dX11_says_18 : decode cX11_says 18 = .ok (.bipush (-2), 2) := bq_o16 (a := 254) (bq_2 bwX11_says_0 18 (by decide +kernel)) (by decide +kernel)
theorem dX11_says_20 : decode cX11_says 20 = .ok (.invokevirtual 58, 3) := bq_o182 (a := 0) (b := 58) (bq_3 bwX11_says_0 20 (by decide +kernel)) rfl
theorem dX11_says_23 : decode cX11_says 23 = .ok (.ireturn, 1) := bq_o172 (bq_of bwX11_says_0 23 (by decide +kernel))
theorem dX11_says_24 : decode cX11_says 24 = .ok (.aload_n 0, 1) := bq_o42 (bq_of bwX11_says_0 24 (by decide +kernel))
theorem dX11_says_25 : decode cX11_says 25 = .ok (.iload_n 1, 1) := bq_o27 (bq_of bwX11_says_0 25 (by decide +kernel))
theorem dX11_says_26 : decode cX11_says 26 = .ok (.invokevirtual 115, 3) := bq_o182 (a := 0) (b := 115) (bq_3 bwX11_says_0 26 (by decide +kernel)) rfl
theorem dX11_says_29 : decode cX11_says 29 = .ok (.astore_n 3, 1) := bq_o78 (bq_of bwX11_says_0 29 (by decide +kernel))
theorem dX11_says_30 : decode cX11_says 30 = .ok (.aload_n 3, 1) := bq_o45 (bq_of bwX11_says_0 30 (by decide +kernel))
theorem dX11_says_31 : decode cX11_says 31 = .ok (.ifnonnull 13, 3) := bq_o199 (a := 0) (b := 13) (bq_3 bwX11_says_0 31 (by decide +kernel)) (by decide +kernel)
theorem dX11_says_34 : decode cX11_says 34 = .ok (.aload_n 0, 1) := bq_o42 (bq_of bwX11_says_0 34 (by decide +kernel))
theorem dX11_says_35 : decode cX11_says 35 = .ok (.aload_n 0, 1) := bq_o42 (bq_of bwX11_says_0 35 (by decide +kernel))
theorem dX11_says_36 : decode cX11_says 36 = .ok (.iload_n 1, 1) := bq_o27 (bq_of bwX11_says_0 36 (by decide +kernel))
theorem dX11_says_37 : decode cX11_says 37 = .ok (.invokevirtual 119, 3) := bq_o182 (a := 0) (b := 119) (bq_3 bwX11_says_0 37 (by decide +kernel)) rfl
theorem dX11_says_40 : decode cX11_says 40 = .ok (.invokevirtual 58, 3) := bq_o182 (a := 0) (b := 58) (bq_3 bwX11_says_0 40 (by decide +kernel)) rfl
theorem dX11_says_43 : decode cX11_says 43 = .ok (.ireturn, 1) := bq_o172 (bq_of bwX11_says_0 43 (by decide +kernel))
theorem dX11_says_44 : decode cX11_says 44 = .ok (.aload_n 3, 1) := bq_o45 (bq_of bwX11_says_0 44 (by decide +kernel))
theorem dX11_says_45 : decode cX11_says 45 = .ok (.iload_n 2, 1) := bq_o28 (bq_of bwX11_says_0 45 (by decide +kernel))
theorem dX11_says_46 : decode cX11_says 46 = .ok (.invokevirtual 122, 3) := bq_o182 (a := 0) (b := 122) (bq_3 bwX11_says_0 46 (by decide +kernel)) rfl
theorem dX11_says_49 : decode cX11_says 49 = .ok (.ifCond .ne 10, 3) := bq_o154 (a := 0) (b := 10) (bq_3 bwX11_says_0 49 (by decide +kernel)) (by decide +kernel)
theorem dX11_says_52 : decode cX11_says 52 = .ok (.aload_n 0, 1) := bq_o42 (bq_of bwX11_says_0 52 (by decide +kernel))
theorem dX11_says_53 : decode cX11_says 53 = .ok (.bipush (-3), 2) := bq_o16 (a := 253) (bq_2 bwX11_says_0 53 (by decide +kernel)) (by decide +kernel)
theorem dX11_says_55 : decode cX11_says 55 = .ok (.invokevirtual 58, 3) := bq_o182 (a := 0) (b := 58) (bq_3 bwX11_says_0 55 (by decide +kernel)) rfl
theorem dX11_says_58 : decode cX11_says 58 = .ok (.ireturn, 1) := bq_o172 (bq_of bwX11_says_0 58 (by decide +kernel))
theorem dX11_says_59 : decode cX11_says 59 = .ok (.iload_n 2, 1) := bq_o28 (bq_of bwX11_says_0 59 (by decide +kernel))
theorem dX11_says_60 : decode cX11_says 60 = .ok (.ifCond .ne 8, 3) := bq_o154 (a := 0) (b := 8) (bq_3 bwX11_says_0 60 (by decide +kernel)) (by decide +kernel)
theorem dX11_says_63 : decode cX11_says 63 = .ok (.aload_n 3, 1) := bq_o45 (bq_of bwX11_says_0 63 (by decide +kernel))
def bwX11_says_64l : List Nat := [182, 0, 125, 172, 42, 180, 0, 25, 42, 180, 0, 10, 182, 0, 128, 45, 42, 180, 0, 25, 42, 180, 0, 10, 182, 0, 132, 3, 182, 0, 135, 172]
theorem bwX11_says_64 : ((cX11_says.data.toList.drop 64).take 32).map UInt8.toNat = bwX11_says_64l := by decide +kernel
theorem dX11_says_64 : decode cX11_says 64 = .ok (.invokevirtual 125, 3) := bq_o182 (a := 0) (b := 125) (bq_3 bwX11_says_64 0 (by decide +kernel)) rfl
theorem dX11_says_67 : decode cX11_says 67 = .ok (.ireturn, 1) := bq_o172 (bq_of bwX11_says_64 3 (by decide +kernel))
theorem dX11_says_68 : decode cX11_says 68 = .ok (.aload_n 0, 1) := bq_o42 (bq_of bwX11_says_64 4 (by decide +kernel))
theorem dX11_says_69 : decode cX11_says 69 = .ok (.getfield 25, 3) := bq_o180 (a := 0) (b := 25) (bq_3 bwX11_says_64 5 (by decide +kernel)) rfl
theorem dX11_says_72 : decode cX11_says 72 = .ok (.aload_n 0, 1) := bq_o42 (bq_of bwX11_says_64 8 (by decide +kernel))
theorem dX11_says_73 : decode cX11_says 73 = .ok (.getfield 10, 3) := bq_o180 (a := 0) (b := 10) (bq_3 bwX11_says_64 9 (by decide +kernel)) rfl
theorem dX11_says_76 : decode cX11_says 76 = .ok (.invokevirtual 128, 3) := bq_o182 (a := 0) (b := 128) (bq_3 bwX11_says_64 12 (by decide +kernel)) rfl
theorem dX11_says_79 : decode cX11_says 79 = .ok (.aload_n 3, 1) := bq_o45 (bq_of bwX11_says_64 15 (by decide +kernel))
theorem dX11_says_80 : decode cX11_says 80 = .ok (.aload_n 0, 1) := bq_o42 (bq_of bwX11_says_64 16 (by decide +kernel))
theorem dX11_says_81 : decode cX11_says 81 = .ok (.getfield 25, 3) := bq_o180 (a := 0) (b := 25) (bq_3 bwX11_says_64 17 (by decide +kernel)) rfl
theorem dX11_says_84 : decode cX11_says 84 = .ok (.aload_n 0, 1) := bq_o42 (bq_of bwX11_says_64 20 (by decide +kernel))
theorem dX11_says_85 : decode cX11_says 85 = .ok (.getfield 10, 3) := bq_o180 (a := 0) (b := 10) (bq_3 bwX11_says_64 21 (by decide +kernel)) rfl
theorem dX11_says_88 : decode cX11_says 88 = .ok (.invokevirtual 132, 3) := bq_o182 (a := 0) (b := 132) (bq_3 bwX11_says_64 24 (by decide +kernel)) rfl
theorem dX11_says_91 : decode cX11_says 91 = .ok (.iconst 0, 1) := bq_o3 (bq_of bwX11_says_64 27 (by decide +kernel))
theorem dX11_says_92 : decode cX11_says 92 = .ok (.invokevirtual 135, 3) := bq_o182 (a := 0) (b := 135) (bq_3 bwX11_says_64 28 (by decide +kernel)) rfl
theorem dX11_says_95 : decode cX11_says 95 = .ok (.ireturn, 1) := bq_o172 (bq_of bwX11_says_64 31 (by decide +kernel))
theorem dX11_person_0 : decode cX11_person 0 = .ok (.iload_n 1, 1) := by decide +kernel
theorem dX11_person_1 : decode cX11_person 1 = .ok (.invokestatic 139, 3) := by decide +kernel
theorem dX11_person_4 : decode cX11_person 4 = .ok (.ifCond .eq 10, 3) := by decide +kernel
theorem dX11_person_7 : decode cX11_person 7 = .ok (.iload_n 2, 1) := by decide +kernel
theorem dX11_person_8 : decode cX11_person 8 = .ok (.invokestatic 142, 3) := by decide +kernel
theorem dX11_person_11 : decode cX11_person 11 = .ok (.ifCond .ne 10, 3) := by decide +kernel
theorem dX11_person_14 : decode cX11_person 14 = .ok (.aload_n 0, 1) := by decide +kernel
theorem dX11_person_15 : decode cX11_person 15 = .ok (.bipush (-2), 2) := by decide +kernel
theorem dX11_person_17 : decode cX11_person 17 = .ok (.invokevirtual 58, 3) := by decide +kernel
theorem dX11_person_20 : decode cX11_person 20 = .ok (.ireturn, 1) := by decide +kernel
theorem dX11_person_21 : decode cX11_person 21 = .ok (.aload_n 0, 1) := by decide +kernel
theorem dX11_person_22 : decode cX11_person 22 = .ok (.getfield 10, 3) := by decide +kernel
theorem dX11_person_25 : decode cX11_person 25 = .ok (.getfield 145, 3) := by decide +kernel
theorem dX11_person_28 : decode cX11_person 28 = .ok (.bipush 7, 2) := by decide +kernel
theorem dX11_person_30 : decode cX11_person 30 = .ok (.if_icmp .lt 10, 3) := by decide +kernel
theorem dX11_person_33 : decode cX11_person 33 = .ok (.aload_n 0, 1) := by decide +kernel
theorem dX11_person_34 : decode cX11_person 34 = .ok (.bipush (-6), 2) := by decide +kernel
theorem dX11_person_36 : decode cX11_person 36 = .ok (.invokevirtual 58, 3) := by decide +kernel
theorem dX11_person_39 : decode cX11_person 39 = .ok (.ireturn, 1) := by decide +kernel
theorem dX11_person_40 : decode cX11_person 40 = .ok (.aload_n 0, 1) := by decide +kernel
theorem dX11_person_41 : decode cX11_person 41 = .ok (.getfield 10, 3) := by decide +kernel
theorem dX11_person_44 : decode cX11_person 44 = .ok (.iload_n 1, 1) := by decide +kernel
theorem dX11_person_45 : decode cX11_person 45 = .ok (.iload_n 2, 1) := by decide +kernel
theorem dX11_person_46 : decode cX11_person 46 = .ok (.invokevirtual 148, 3) := by decide +kernel
theorem dX11_person_49 : decode cX11_person 49 = .ok (.ireturn, 1) := by decide +kernel
def bwX11_change_0l : List Nat := [28, 154, 0, 10, 29, 184, 0, 139, 167, 0, 20, 28, 4, 160, 0, 14, 29, 184, 0, 142, 153, 0, 7, 4, 167, 0, 4, 3, 54, 4, 42, 180, 0, 10, 27, 182, 0, 152, 153, 0, 8, 21, 4, 154, 0, 10, 42, 16, 254, 182, 0, 58, 172, 28, 154, 0, 13, 42, 180, 0, 10, 180, 0, 155, 167, 0]
theorem bwX11_change_0 : ((cX11_change.data.toList.drop 0).take 66).map UInt8.toNat = bwX11_change_0l := by decide +kernel
theorem dX11_change_0 : decode cX11_change 0 = .ok (.iload_n 2, 1) := bq_o28 (bq_of bwX11_change_0 0 (by decide +kernel))
theorem dX11_change_1 : decode cX11_change 1 = .ok (.ifCond .ne 10, 3) := bq_o154 (a := 0) (b := 10) (bq_3 bwX11_change_0 1 (by decide +kernel)) (by decide +kernel)
theorem dX11_change_4 : decode cX11_change 4 = .ok (.iload_n 3, 1) := bq_o29 (bq_of bwX11_change_0 4 (by decide +kernel))
theorem dX11_change_5 : decode cX11_change 5 = .ok (.invokestatic 139, 3) := bq_o184 (a := 0) (b := 139) (bq_3 bwX11_change_0 5 (by decide +kernel)) rfl
theorem dX11_change_8 : decode cX11_change 8 = .ok (.goto 20, 3) := bq_o167 (a := 0) (b := 20) (bq_3 bwX11_change_0 8 (by decide +kernel)) (by decide +kernel)
theorem dX11_change_11 : decode cX11_change 11 = .ok (.iload_n 2, 1) := bq_o28 (bq_of bwX11_change_0 11 (by decide +kernel))
theorem dX11_change_12 : decode cX11_change 12 = .ok (.iconst 1, 1) := bq_o4 (bq_of bwX11_change_0 12 (by decide +kernel))
theorem dX11_change_13 : decode cX11_change 13 = .ok (.if_icmp .ne 14, 3) := bq_o160 (a := 0) (b := 14) (bq_3 bwX11_change_0 13 (by decide +kernel)) (by decide +kernel)
theorem dX11_change_16 : decode cX11_change 16 = .ok (.iload_n 3, 1) := bq_o29 (bq_of bwX11_change_0 16 (by decide +kernel))
theorem dX11_change_17 : decode cX11_change 17 = .ok (.invokestatic 142, 3) := bq_o184 (a := 0) (b := 142) (bq_3 bwX11_change_0 17 (by decide +kernel)) rfl
theorem dX11_change_20 : decode cX11_change 20 = .ok (.ifCond .eq 7, 3) := bq_o153 (a := 0) (b := 7) (bq_3 bwX11_change_0 20 (by decide +kernel)) (by decide +kernel)
theorem dX11_change_23 : decode cX11_change 23 = .ok (.iconst 1, 1) := bq_o4 (bq_of bwX11_change_0 23 (by decide +kernel))
theorem dX11_change_24 : decode cX11_change 24 = .ok (.goto 4, 3) := bq_o167 (a := 0) (b := 4) (bq_3 bwX11_change_0 24 (by decide +kernel)) (by decide +kernel)
theorem dX11_change_27 : decode cX11_change 27 = .ok (.iconst 0, 1) := bq_o3 (bq_of bwX11_change_0 27 (by decide +kernel))
theorem dX11_change_28 : decode cX11_change 28 = .ok (.istore 4, 2) := bq_o54 (a := 4) (bq_2 bwX11_change_0 28 (by decide +kernel)) rfl
theorem dX11_change_30 : decode cX11_change 30 = .ok (.aload_n 0, 1) := bq_o42 (bq_of bwX11_change_0 30 (by decide +kernel))
theorem dX11_change_31 : decode cX11_change 31 = .ok (.getfield 10, 3) := bq_o180 (a := 0) (b := 10) (bq_3 bwX11_change_0 31 (by decide +kernel)) rfl
theorem dX11_change_34 : decode cX11_change 34 = .ok (.iload_n 1, 1) := bq_o27 (bq_of bwX11_change_0 34 (by decide +kernel))
theorem dX11_change_35 : decode cX11_change 35 = .ok (.invokevirtual 152, 3) := bq_o182 (a := 0) (b := 152) (bq_3 bwX11_change_0 35 (by decide +kernel)) rfl
theorem dX11_change_38 : decode cX11_change 38 = .ok (.ifCond .eq 8, 3) := bq_o153 (a := 0) (b := 8) (bq_3 bwX11_change_0 38 (by decide +kernel)) (by decide +kernel)
theorem dX11_change_41 : decode cX11_change 41 = .ok (.iload 4, 2) := bq_o21 (a := 4) (bq_2 bwX11_change_0 41 (by decide +kernel)) rfl
theorem dX11_change_43 : decode cX11_change 43 = .ok (.ifCond .ne 10, 3) := bq_o154 (a := 0) (b := 10) (bq_3 bwX11_change_0 43 (by decide +kernel)) (by decide +kernel)
theorem dX11_change_46 : decode cX11_change 46 = .ok (.aload_n 0, 1) := bq_o42 (bq_of bwX11_change_0 46 (by decide +kernel))
theorem dX11_change_47 : decode cX11_change 47 = .ok (.bipush (-2), 2) := bq_o16 (a := 254) (bq_2 bwX11_change_0 47 (by decide +kernel)) (by decide +kernel)
theorem dX11_change_49 : decode cX11_change 49 = .ok (.invokevirtual 58, 3) := bq_o182 (a := 0) (b := 58) (bq_3 bwX11_change_0 49 (by decide +kernel)) rfl
theorem dX11_change_52 : decode cX11_change 52 = .ok (.ireturn, 1) := bq_o172 (bq_of bwX11_change_0 52 (by decide +kernel))
theorem dX11_change_53 : decode cX11_change 53 = .ok (.iload_n 2, 1) := bq_o28 (bq_of bwX11_change_0 53 (by decide +kernel))
theorem dX11_change_54 : decode cX11_change 54 = .ok (.ifCond .ne 13, 3) := bq_o154 (a := 0) (b := 13) (bq_3 bwX11_change_0 54 (by decide +kernel)) (by decide +kernel)
theorem dX11_change_57 : decode cX11_change 57 = .ok (.aload_n 0, 1) := bq_o42 (bq_of bwX11_change_0 57 (by decide +kernel))
theorem dX11_change_58 : decode cX11_change 58 = .ok (.getfield 10, 3) := bq_o180 (a := 0) (b := 10) (bq_3 bwX11_change_0 58 (by decide +kernel)) rfl
theorem dX11_change_61 : decode cX11_change 61 = .ok (.getfield 155, 3) := bq_o180 (a := 0) (b := 155) (bq_3 bwX11_change_0 61 (by decide +kernel)) rfl
def bwX11_change_64l : List Nat := [167, 0, 10, 42, 180, 0, 10, 180, 0, 158, 58, 5, 25, 5, 27, 46, 54, 6, 25, 5, 27, 29, 79, 21, 6, 172]
theorem bwX11_change_64 : ((cX11_change.data.toList.drop 64).take 26).map UInt8.toNat = bwX11_change_64l := by decide +kernel
theorem dX11_change_64 : decode cX11_change 64 = .ok (.goto 10, 3) := bq_o167 (a := 0) (b := 10) (bq_3 bwX11_change_64 0 (by decide +kernel)) (by decide +kernel)
theorem dX11_change_67 : decode cX11_change 67 = .ok (.aload_n 0, 1) := bq_o42 (bq_of bwX11_change_64 3 (by decide +kernel))
theorem dX11_change_68 : decode cX11_change 68 = .ok (.getfield 10, 3) := bq_o180 (a := 0) (b := 10) (bq_3 bwX11_change_64 4 (by decide +kernel)) rfl
theorem dX11_change_71 : decode cX11_change 71 = .ok (.getfield 158, 3) := bq_o180 (a := 0) (b := 158) (bq_3 bwX11_change_64 7 (by decide +kernel)) rfl
theorem dX11_change_74 : decode cX11_change 74 = .ok (.astore 5, 2) := bq_o58 (a := 5) (bq_2 bwX11_change_64 10 (by decide +kernel)) rfl
theorem dX11_change_76 : decode cX11_change 76 = .ok (.aload 5, 2) := bq_o25 (a := 5) (bq_2 bwX11_change_64 12 (by decide +kernel)) rfl
theorem dX11_change_78 : decode cX11_change 78 = .ok (.iload_n 1, 1) := bq_o27 (bq_of bwX11_change_64 14 (by decide +kernel))
theorem dX11_change_79 : decode cX11_change 79 = .ok (.iaload, 1) := bq_o46 (bq_of bwX11_change_64 15 (by decide +kernel))
theorem dX11_change_80 : decode cX11_change 80 = .ok (.istore 6, 2) := bq_o54 (a := 6) (bq_2 bwX11_change_64 16 (by decide +kernel)) rfl
theorem dX11_change_82 : decode cX11_change 82 = .ok (.aload 5, 2) := bq_o25 (a := 5) (bq_2 bwX11_change_64 18 (by decide +kernel)) rfl
theorem dX11_change_84 : decode cX11_change 84 = .ok (.iload_n 1, 1) := bq_o27 (bq_of bwX11_change_64 20 (by decide +kernel))
theorem dX11_change_85 : decode cX11_change 85 = .ok (.iload_n 3, 1) := bq_o29 (bq_of bwX11_change_64 21 (by decide +kernel))
theorem dX11_change_86 : decode cX11_change 86 = .ok (.iastore, 1) := bq_o79 (bq_of bwX11_change_64 22 (by decide +kernel))
theorem dX11_change_87 : decode cX11_change 87 = .ok (.iload 6, 2) := bq_o21 (a := 6) (bq_2 bwX11_change_64 23 (by decide +kernel)) rfl
theorem dX11_change_89 : decode cX11_change 89 = .ok (.ireturn, 1) := bq_o172 (bq_of bwX11_change_64 25 (by decide +kernel))
theorem dX11_know_0 : decode cX11_know 0 = .ok (.aload_n 0, 1) := by decide +kernel
theorem dX11_know_1 : decode cX11_know 1 = .ok (.getfield 10, 3) := by decide +kernel
theorem dX11_know_4 : decode cX11_know 4 = .ok (.iload_n 1, 1) := by decide +kernel
theorem dX11_know_5 : decode cX11_know 5 = .ok (.iload_n 2, 1) := by decide +kernel
theorem dX11_know_6 : decode cX11_know 6 = .ok (.invokevirtual 161, 3) := by decide +kernel
theorem dX11_know_9 : decode cX11_know 9 = .ok (.ifCond .eq 14, 3) := by decide +kernel
theorem dX11_know_12 : decode cX11_know 12 = .ok (.iload_n 3, 1) := by decide +kernel
theorem dX11_know_13 : decode cX11_know 13 = .ok (.iconst (-1), 1) := by decide +kernel
theorem dX11_know_14 : decode cX11_know 14 = .ok (.if_icmp .lt 9, 3) := by decide +kernel
theorem dX11_know_17 : decode cX11_know 17 = .ok (.iload_n 3, 1) := by decide +kernel
theorem dX11_know_18 : decode cX11_know 18 = .ok (.bipush 99, 2) := by decide +kernel
theorem dX11_know_20 : decode cX11_know 20 = .ok (.if_icmp .le 10, 3) := by decide +kernel
theorem dX11_know_23 : decode cX11_know 23 = .ok (.aload_n 0, 1) := by decide +kernel
theorem dX11_know_24 : decode cX11_know 24 = .ok (.bipush (-2), 2) := by decide +kernel
theorem dX11_know_26 : decode cX11_know 26 = .ok (.invokevirtual 58, 3) := by decide +kernel
theorem dX11_know_29 : decode cX11_know 29 = .ok (.ireturn, 1) := by decide +kernel
theorem dX11_know_30 : decode cX11_know 30 = .ok (.aload_n 0, 1) := by decide +kernel
theorem dX11_know_31 : decode cX11_know 31 = .ok (.getfield 10, 3) := by decide +kernel
theorem dX11_know_34 : decode cX11_know 34 = .ok (.iload_n 1, 1) := by decide +kernel
theorem dX11_know_35 : decode cX11_know 35 = .ok (.iload_n 2, 1) := by decide +kernel
theorem dX11_know_36 : decode cX11_know 36 = .ok (.invokevirtual 165, 3) := by decide +kernel
theorem dX11_know_39 : decode cX11_know 39 = .ok (.istore 4, 2) := by decide +kernel
theorem dX11_know_41 : decode cX11_know 41 = .ok (.aload_n 0, 1) := by decide +kernel
theorem dX11_know_42 : decode cX11_know 42 = .ok (.getfield 10, 3) := by decide +kernel
theorem dX11_know_45 : decode cX11_know 45 = .ok (.iload_n 1, 1) := by decide +kernel
theorem dX11_know_46 : decode cX11_know 46 = .ok (.iload_n 2, 1) := by decide +kernel
theorem dX11_know_47 : decode cX11_know 47 = .ok (.iload_n 3, 1) := by decide +kernel
theorem dX11_know_48 : decode cX11_know 48 = .ok (.invokevirtual 168, 3) := by decide +kernel
theorem dX11_know_51 : decode cX11_know 51 = .ok (.iload 4, 2) := by decide +kernel
theorem dX11_know_53 : decode cX11_know 53 = .ok (.ireturn, 1) := by decide +kernel
def bwX11_ask_0l : List Nat := [27, 154, 0, 31, 28, 5, 161, 0, 26, 28, 7, 163, 0, 21, 42, 180, 0, 10, 180, 0, 172, 62, 42, 180, 0, 10, 28, 181, 0, 172, 29, 172, 27, 4, 160, 0, 31, 28, 155, 0, 27, 28, 16, 99, 163, 0, 21, 42, 180, 0, 10, 180, 0, 175, 62, 42, 180, 0, 10, 28, 181, 0, 175, 29, 172, 42]
theorem bwX11_ask_0 : ((cX11_ask.data.toList.drop 0).take 66).map UInt8.toNat = bwX11_ask_0l := by decide +kernel
theorem dX11_ask_0 : decode cX11_ask 0 = .ok (.iload_n 1, 1) := bq_o27 (bq_of bwX11_ask_0 0 (by decide +kernel))
theorem dX11_ask_1 : decode cX11_ask 1 = .ok (.ifCond .ne 31, 3) := bq_o154 (a := 0) (b := 31) (bq_3 bwX11_ask_0 1 (by decide +kernel)) (by decide +kernel)
theorem dX11_ask_4 : decode cX11_ask 4 = .ok (.iload_n 2, 1) := bq_o28 (bq_of bwX11_ask_0 4 (by decide +kernel))
theorem dX11_ask_5 : decode cX11_ask 5 = .ok (.iconst 2, 1) := bq_o5 (bq_of bwX11_ask_0 5 (by decide +kernel))
theorem dX11_ask_6 : decode cX11_ask 6 = .ok (.if_icmp .lt 26, 3) := bq_o161 (a := 0) (b := 26) (bq_3 bwX11_ask_0 6 (by decide +kernel)) (by decide +kernel)
theorem dX11_ask_9 : decode cX11_ask 9 = .ok (.iload_n 2, 1) := bq_o28 (bq_of bwX11_ask_0 9 (by decide +kernel))
theorem dX11_ask_10 : decode cX11_ask 10 = .ok (.iconst 4, 1) := bq_o7 (bq_of bwX11_ask_0 10 (by decide +kernel))
theorem dX11_ask_11 : decode cX11_ask 11 = .ok (.if_icmp .gt 21, 3) := bq_o163 (a := 0) (b := 21) (bq_3 bwX11_ask_0 11 (by decide +kernel)) (by decide +kernel)
theorem dX11_ask_14 : decode cX11_ask 14 = .ok (.aload_n 0, 1) := bq_o42 (bq_of bwX11_ask_0 14 (by decide +kernel))
theorem dX11_ask_15 : decode cX11_ask 15 = .ok (.getfield 10, 3) := bq_o180 (a := 0) (b := 10) (bq_3 bwX11_ask_0 15 (by decide +kernel)) rfl
theorem dX11_ask_18 : decode cX11_ask 18 = .ok (.getfield 172, 3) := bq_o180 (a := 0) (b := 172) (bq_3 bwX11_ask_0 18 (by decide +kernel)) rfl
theorem dX11_ask_21 : decode cX11_ask 21 = .ok (.istore_n 3, 1) := bq_o62 (bq_of bwX11_ask_0 21 (by decide +kernel))
theorem dX11_ask_22 : decode cX11_ask 22 = .ok (.aload_n 0, 1) := bq_o42 (bq_of bwX11_ask_0 22 (by decide +kernel))
theorem dX11_ask_23 : decode cX11_ask 23 = .ok (.getfield 10, 3) := bq_o180 (a := 0) (b := 10) (bq_3 bwX11_ask_0 23 (by decide +kernel)) rfl
theorem dX11_ask_26 : decode cX11_ask 26 = .ok (.iload_n 2, 1) := bq_o28 (bq_of bwX11_ask_0 26 (by decide +kernel))
theorem dX11_ask_27 : decode cX11_ask 27 = .ok (.putfield 172, 3) := bq_o181 (a := 0) (b := 172) (bq_3 bwX11_ask_0 27 (by decide +kernel)) rfl
theorem dX11_ask_30 : decode cX11_ask 30 = .ok (.iload_n 3, 1) := bq_o29 (bq_of bwX11_ask_0 30 (by decide +kernel))
theorem dX11_ask_31 : decode cX11_ask 31 = .ok (.ireturn, 1) := bq_o172 (bq_of bwX11_ask_0 31 (by decide +kernel))
theorem dX11_ask_32 : decode cX11_ask 32 = .ok (.iload_n 1, 1) := bq_o27 (bq_of bwX11_ask_0 32 (by decide +kernel))
theorem dX11_ask_33 : decode cX11_ask 33 = .ok (.iconst 1, 1) := bq_o4 (bq_of bwX11_ask_0 33 (by decide +kernel))
theorem dX11_ask_34 : decode cX11_ask 34 = .ok (.if_icmp .ne 31, 3) := bq_o160 (a := 0) (b := 31) (bq_3 bwX11_ask_0 34 (by decide +kernel)) (by decide +kernel)
theorem dX11_ask_37 : decode cX11_ask 37 = .ok (.iload_n 2, 1) := bq_o28 (bq_of bwX11_ask_0 37 (by decide +kernel))
theorem dX11_ask_38 : decode cX11_ask 38 = .ok (.ifCond .lt 27, 3) := bq_o155 (a := 0) (b := 27) (bq_3 bwX11_ask_0 38 (by decide +kernel)) (by decide +kernel)
theorem dX11_ask_41 : decode cX11_ask 41 = .ok (.iload_n 2, 1) := bq_o28 (bq_of bwX11_ask_0 41 (by decide +kernel))
theorem dX11_ask_42 : decode cX11_ask 42 = .ok (.bipush 99, 2) := bq_o16 (a := 99) (bq_2 bwX11_ask_0 42 (by decide +kernel)) (by decide +kernel)
theorem dX11_ask_44 : decode cX11_ask 44 = .ok (.if_icmp .gt 21, 3) := bq_o163 (a := 0) (b := 21) (bq_3 bwX11_ask_0 44 (by decide +kernel)) (by decide +kernel)
theorem dX11_ask_47 : decode cX11_ask 47 = .ok (.aload_n 0, 1) := bq_o42 (bq_of bwX11_ask_0 47 (by decide +kernel))
theorem dX11_ask_48 : decode cX11_ask 48 = .ok (.getfield 10, 3) := bq_o180 (a := 0) (b := 10) (bq_3 bwX11_ask_0 48 (by decide +kernel)) rfl
theorem dX11_ask_51 : decode cX11_ask 51 = .ok (.getfield 175, 3) := bq_o180 (a := 0) (b := 175) (bq_3 bwX11_ask_0 51 (by decide +kernel)) rfl
theorem dX11_ask_54 : decode cX11_ask 54 = .ok (.istore_n 3, 1) := bq_o62 (bq_of bwX11_ask_0 54 (by decide +kernel))
theorem dX11_ask_55 : decode cX11_ask 55 = .ok (.aload_n 0, 1) := bq_o42 (bq_of bwX11_ask_0 55 (by decide +kernel))
theorem dX11_ask_56 : decode cX11_ask 56 = .ok (.getfield 10, 3) := bq_o180 (a := 0) (b := 10) (bq_3 bwX11_ask_0 56 (by decide +kernel)) rfl
theorem dX11_ask_59 : decode cX11_ask 59 = .ok (.iload_n 2, 1) := bq_o28 (bq_of bwX11_ask_0 59 (by decide +kernel))
theorem dX11_ask_60 : decode cX11_ask 60 = .ok (.putfield 175, 3) := bq_o181 (a := 0) (b := 175) (bq_3 bwX11_ask_0 60 (by decide +kernel)) rfl
theorem dX11_ask_63 : decode cX11_ask 63 = .ok (.iload_n 3, 1) := bq_o29 (bq_of bwX11_ask_0 63 (by decide +kernel))
def bwX11_ask_64l : List Nat := [172, 42, 16, 254, 182, 0, 58, 172]
theorem bwX11_ask_64 : ((cX11_ask.data.toList.drop 64).take 8).map UInt8.toNat = bwX11_ask_64l := by decide +kernel
theorem dX11_ask_64 : decode cX11_ask 64 = .ok (.ireturn, 1) := bq_o172 (bq_of bwX11_ask_64 0 (by decide +kernel))
theorem dX11_ask_65 : decode cX11_ask 65 = .ok (.aload_n 0, 1) := bq_o42 (bq_of bwX11_ask_64 1 (by decide +kernel))
theorem dX11_ask_66 : decode cX11_ask 66 = .ok (.bipush (-2), 2) := bq_o16 (a := 254) (bq_2 bwX11_ask_64 2 (by decide +kernel)) (by decide +kernel)
theorem dX11_ask_68 : decode cX11_ask 68 = .ok (.invokevirtual 58, 3) := bq_o182 (a := 0) (b := 58) (bq_3 bwX11_ask_64 4 (by decide +kernel)) rfl
theorem dX11_ask_71 : decode cX11_ask 71 = .ok (.ireturn, 1) := bq_o172 (bq_of bwX11_ask_64 7 (by decide +kernel))
theorem dX11_feed_0 : decode cX11_feed 0 = .ok (.iload_n 1, 1) := by decide +kernel
theorem dX11_feed_1 : decode cX11_feed 1 = .ok (.ifCond .lt 10, 3) := by decide +kernel
theorem dX11_feed_4 : decode cX11_feed 4 = .ok (.iload_n 1, 1) := by decide +kernel
theorem dX11_feed_5 : decode cX11_feed 5 = .ok (.sipush 255, 3) := by decide +kernel
theorem dX11_feed_8 : decode cX11_feed 8 = .ok (.if_icmp .le 10, 3) := by decide +kernel
theorem dX11_feed_11 : decode cX11_feed 11 = .ok (.aload_n 0, 1) := by decide +kernel
theorem dX11_feed_12 : decode cX11_feed 12 = .ok (.bipush (-2), 2) := by decide +kernel
theorem dX11_feed_14 : decode cX11_feed 14 = .ok (.invokevirtual 58, 3) := by decide +kernel
theorem dX11_feed_17 : decode cX11_feed 17 = .ok (.ireturn, 1) := by decide +kernel
theorem dX11_feed_18 : decode cX11_feed 18 = .ok (.aload_n 0, 1) := by decide +kernel
theorem dX11_feed_19 : decode cX11_feed 19 = .ok (.getfield 39, 3) := by decide +kernel
theorem dX11_feed_22 : decode cX11_feed 22 = .ok (.invokevirtual 178, 3) := by decide +kernel
theorem dX11_feed_25 : decode cX11_feed 25 = .ok (.ifCond .eq 10, 3) := by decide +kernel
theorem dX11_feed_28 : decode cX11_feed 28 = .ok (.aload_n 0, 1) := by decide +kernel
theorem dX11_feed_29 : decode cX11_feed 29 = .ok (.bipush (-6), 2) := by decide +kernel
theorem dX11_feed_31 : decode cX11_feed 31 = .ok (.invokevirtual 58, 3) := by decide +kernel
theorem dX11_feed_34 : decode cX11_feed 34 = .ok (.ireturn, 1) := by decide +kernel
theorem dX11_feed_35 : decode cX11_feed 35 = .ok (.aload_n 0, 1) := by decide +kernel
theorem dX11_feed_36 : decode cX11_feed 36 = .ok (.getfield 39, 3) := by decide +kernel
theorem dX11_feed_39 : decode cX11_feed 39 = .ok (.iload_n 1, 1) := by decide +kernel
theorem dX11_feed_40 : decode cX11_feed 40 = .ok (.invokevirtual 181, 3) := by decide +kernel
theorem dX11_feed_43 : decode cX11_feed 43 = .ok (.aload_n 0, 1) := by decide +kernel
theorem dX11_feed_44 : decode cX11_feed 44 = .ok (.getfield 39, 3) := by decide +kernel
theorem dX11_feed_47 : decode cX11_feed 47 = .ok (.getfield 185, 3) := by decide +kernel
theorem dX11_feed_50 : decode cX11_feed 50 = .ok (.ireturn, 1) := by decide +kernel
theorem dX11_wipe_0 : decode cX11_wipe 0 = .ok (.aload_n 0, 1) := by decide +kernel
theorem dX11_wipe_1 : decode cX11_wipe 1 = .ok (.getfield 39, 3) := by decide +kernel
theorem dX11_wipe_4 : decode cX11_wipe 4 = .ok (.getfield 185, 3) := by decide +kernel
theorem dX11_wipe_7 : decode cX11_wipe 7 = .ok (.istore_n 1, 1) := by decide +kernel
theorem dX11_wipe_8 : decode cX11_wipe 8 = .ok (.aload_n 0, 1) := by decide +kernel
theorem dX11_wipe_9 : decode cX11_wipe 9 = .ok (.getfield 39, 3) := by decide +kernel
theorem dX11_wipe_12 : decode cX11_wipe 12 = .ok (.invokevirtual 186, 3) := by decide +kernel
theorem dX11_wipe_15 : decode cX11_wipe 15 = .ok (.iload_n 1, 1) := by decide +kernel
theorem dX11_wipe_16 : decode cX11_wipe 16 = .ok (.ireturn, 1) := by decide +kernel
def bwX11_town_0l : List Nat := [42, 180, 0, 19, 42, 180, 0, 10, 182, 0, 189, 42, 180, 0, 39, 42, 180, 0, 19, 182, 0, 192, 60, 42, 180, 0, 39, 182, 0, 186, 27, 2, 160, 0, 21, 42, 16, 254, 182, 0, 58, 87, 16, 236, 42, 180, 0, 39, 180, 0, 196, 100, 172, 42, 180, 0, 10, 42, 180, 0, 19, 182, 0, 189, 27, 172]
theorem bwX11_town_0 : ((cX11_town.data.toList.drop 0).take 66).map UInt8.toNat = bwX11_town_0l := by decide +kernel
theorem dX11_town_0 : decode cX11_town 0 = .ok (.aload_n 0, 1) := bq_o42 (bq_of bwX11_town_0 0 (by decide +kernel))
theorem dX11_town_1 : decode cX11_town 1 = .ok (.getfield 19, 3) := bq_o180 (a := 0) (b := 19) (bq_3 bwX11_town_0 1 (by decide +kernel)) rfl
theorem dX11_town_4 : decode cX11_town 4 = .ok (.aload_n 0, 1) := bq_o42 (bq_of bwX11_town_0 4 (by decide +kernel))
theorem dX11_town_5 : decode cX11_town 5 = .ok (.getfield 10, 3) := bq_o180 (a := 0) (b := 10) (bq_3 bwX11_town_0 5 (by decide +kernel)) rfl
theorem dX11_town_8 : decode cX11_town 8 = .ok (.invokevirtual 189, 3) := bq_o182 (a := 0) (b := 189) (bq_3 bwX11_town_0 8 (by decide +kernel)) rfl
theorem dX11_town_11 : decode cX11_town 11 = .ok (.aload_n 0, 1) := bq_o42 (bq_of bwX11_town_0 11 (by decide +kernel))
theorem dX11_town_12 : decode cX11_town 12 = .ok (.getfield 39, 3) := bq_o180 (a := 0) (b := 39) (bq_3 bwX11_town_0 12 (by decide +kernel)) rfl
theorem dX11_town_15 : decode cX11_town 15 = .ok (.aload_n 0, 1) := bq_o42 (bq_of bwX11_town_0 15 (by decide +kernel))
theorem dX11_town_16 : decode cX11_town 16 = .ok (.getfield 19, 3) := bq_o180 (a := 0) (b := 19) (bq_3 bwX11_town_0 16 (by decide +kernel)) rfl
theorem dX11_town_19 : decode cX11_town 19 = .ok (.invokevirtual 192, 3) := bq_o182 (a := 0) (b := 192) (bq_3 bwX11_town_0 19 (by decide +kernel)) rfl
theorem dX11_town_22 : decode cX11_town 22 = .ok (.istore_n 1, 1) := bq_o60 (bq_of bwX11_town_0 22 (by decide +kernel))
theorem dX11_town_23 : decode cX11_town 23 = .ok (.aload_n 0, 1) := bq_o42 (bq_of bwX11_town_0 23 (by decide +kernel))
theorem dX11_town_24 : decode cX11_town 24 = .ok (.getfield 39, 3) := bq_o180 (a := 0) (b := 39) (bq_3 bwX11_town_0 24 (by decide +kernel)) rfl
theorem dX11_town_27 : decode cX11_town 27 = .ok (.invokevirtual 186, 3) := bq_o182 (a := 0) (b := 186) (bq_3 bwX11_town_0 27 (by decide +kernel)) rfl
theorem dX11_town_30 : decode cX11_town 30 = .ok (.iload_n 1, 1) := bq_o27 (bq_of bwX11_town_0 30 (by decide +kernel))
theorem dX11_town_31 : decode cX11_town 31 = .ok (.iconst (-1), 1) := bq_o2 (bq_of bwX11_town_0 31 (by decide +kernel))
theorem dX11_town_32 : decode cX11_town 32 = .ok (.if_icmp .ne 21, 3) := bq_o160 (a := 0) (b := 21) (bq_3 bwX11_town_0 32 (by decide +kernel)) (by decide +kernel)
theorem dX11_town_35 : decode cX11_town 35 = .ok (.aload_n 0, 1) := bq_o42 (bq_of bwX11_town_0 35 (by decide +kernel))
theorem dX11_town_36 : decode cX11_town 36 = .ok (.bipush (-2), 2) := bq_o16 (a := 254) (bq_2 bwX11_town_0 36 (by decide +kernel)) (by decide +kernel)
theorem dX11_town_38 : decode cX11_town 38 = .ok (.invokevirtual 58, 3) := bq_o182 (a := 0) (b := 58) (bq_3 bwX11_town_0 38 (by decide +kernel)) rfl
theorem dX11_town_41 : decode cX11_town 41 = .ok (.pop, 1) := bq_o87 (bq_of bwX11_town_0 41 (by decide +kernel))
theorem dX11_town_42 : decode cX11_town 42 = .ok (.bipush (-20), 2) := bq_o16 (a := 236) (bq_2 bwX11_town_0 42 (by decide +kernel)) (by decide +kernel)
theorem dX11_town_44 : decode cX11_town 44 = .ok (.aload_n 0, 1) := bq_o42 (bq_of bwX11_town_0 44 (by decide +kernel))
theorem dX11_town_45 : decode cX11_town 45 = .ok (.getfield 39, 3) := bq_o180 (a := 0) (b := 39) (bq_3 bwX11_town_0 45 (by decide +kernel)) rfl
theorem dX11_town_48 : decode cX11_town 48 = .ok (.getfield 196, 3) := bq_o180 (a := 0) (b := 196) (bq_3 bwX11_town_0 48 (by decide +kernel)) rfl
theorem dX11_town_51 : decode cX11_town 51 = .ok (.isub, 1) := bq_o100 (bq_of bwX11_town_0 51 (by decide +kernel))
theorem dX11_town_52 : decode cX11_town 52 = .ok (.ireturn, 1) := bq_o172 (bq_of bwX11_town_0 52 (by decide +kernel))
theorem dX11_town_53 : decode cX11_town 53 = .ok (.aload_n 0, 1) := bq_o42 (bq_of bwX11_town_0 53 (by decide +kernel))
theorem dX11_town_54 : decode cX11_town 54 = .ok (.getfield 10, 3) := bq_o180 (a := 0) (b := 10) (bq_3 bwX11_town_0 54 (by decide +kernel)) rfl
theorem dX11_town_57 : decode cX11_town 57 = .ok (.aload_n 0, 1) := bq_o42 (bq_of bwX11_town_0 57 (by decide +kernel))
theorem dX11_town_58 : decode cX11_town 58 = .ok (.getfield 19, 3) := bq_o180 (a := 0) (b := 19) (bq_3 bwX11_town_0 58 (by decide +kernel)) rfl
theorem dX11_town_61 : decode cX11_town 61 = .ok (.invokevirtual 189, 3) := bq_o182 (a := 0) (b := 189) (bq_3 bwX11_town_0 61 (by decide +kernel)) rfl
def bwX11_town_64l : List Nat := [27, 172]
theorem bwX11_town_64 : ((cX11_town.data.toList.drop 64).take 2).map UInt8.toNat = bwX11_town_64l := by decide +kernel
theorem dX11_town_64 : decode cX11_town 64 = .ok (.iload_n 1, 1) := bq_o27 (bq_of bwX11_town_64 0 (by decide +kernel))
theorem dX11_town_65 : decode cX11_town 65 = .ok (.ireturn, 1) := bq_o172 (bq_of bwX11_town_64 1 (by decide +kernel))
def bwX11_personOf_0l : List Nat := [42, 180, 0, 10, 27, 182, 0, 152, 154, 0, 10, 42, 16, 254, 182, 0, 58, 172, 28, 170, 0, 0, 0, 70, 0, 0, 0, 0, 0, 0, 0, 3, 0, 0, 0, 29, 0, 0, 0, 39, 0, 0, 0, 49, 0, 0, 0, 58, 42, 180, 0, 10, 180, 0, 155, 27, 46, 172, 42, 180, 0, 10, 180, 0, 158, 27]
theorem bwX11_personOf_0 : ((cX11_personOf.data.toList.drop 0).take 66).map UInt8.toNat = bwX11_personOf_0l := by decide +kernel
theorem dX11_personOf_0 : decode cX11_personOf 0 = .ok (.aload_n 0, 1) := bq_o42 (bq_of bwX11_personOf_0 0 (by decide +kernel))
theorem dX11_personOf_1 : decode cX11_personOf 1 = .ok (.getfield 10, 3) := bq_o180 (a := 0) (b := 10) (bq_3 bwX11_personOf_0 1 (by decide +kernel)) rfl
theorem dX11_personOf_4 : decode cX11_personOf 4 = .ok (.iload_n 1, 1) := bq_o27 (bq_of bwX11_personOf_0 4 (by decide +kernel))
theorem dX11_personOf_5 : decode cX11_personOf 5 = .ok (.invokevirtual 152, 3) := bq_o182 (a := 0) (b := 152) (bq_3 bwX11_personOf_0 5 (by decide +kernel)) rfl
theorem dX11_personOf_8 : decode cX11_personOf 8 = .ok (.ifCond .ne 10, 3) := bq_o154 (a := 0) (b := 10) (bq_3 bwX11_personOf_0 8 (by decide +kernel)) (by decide +kernel)
theorem dX11_personOf_11 : decode cX11_personOf 11 = .ok (.aload_n 0, 1) := bq_o42 (bq_of bwX11_personOf_0 11 (by decide +kernel))
theorem dX11_personOf_12 : decode cX11_personOf 12 = .ok (.bipush (-2), 2) := bq_o16 (a := 254) (bq_2 bwX11_personOf_0 12 (by decide +kernel)) (by decide +kernel)
theorem dX11_personOf_14 : decode cX11_personOf 14 = .ok (.invokevirtual 58, 3) := bq_o182 (a := 0) (b := 58) (bq_3 bwX11_personOf_0 14 (by decide +kernel)) rfl
theorem dX11_personOf_17 : decode cX11_personOf 17 = .ok (.ireturn, 1) := bq_o172 (bq_of bwX11_personOf_0 17 (by decide +kernel))
theorem dX11_personOf_18 : decode cX11_personOf 18 = .ok (.iload_n 2, 1) := bq_o28 (bq_of bwX11_personOf_0 18 (by decide +kernel))
theorem dX11_personOf_19 : decode cX11_personOf 19 = .ok (.tableswitch 70 0 3 #[29, 39, 49, 58], 29) := by decide +kernel
theorem dX11_personOf_48 : decode cX11_personOf 48 = .ok (.aload_n 0, 1) := bq_o42 (bq_of bwX11_personOf_0 48 (by decide +kernel))
theorem dX11_personOf_49 : decode cX11_personOf 49 = .ok (.getfield 10, 3) := bq_o180 (a := 0) (b := 10) (bq_3 bwX11_personOf_0 49 (by decide +kernel)) rfl
theorem dX11_personOf_52 : decode cX11_personOf 52 = .ok (.getfield 155, 3) := bq_o180 (a := 0) (b := 155) (bq_3 bwX11_personOf_0 52 (by decide +kernel)) rfl
theorem dX11_personOf_55 : decode cX11_personOf 55 = .ok (.iload_n 1, 1) := bq_o27 (bq_of bwX11_personOf_0 55 (by decide +kernel))
theorem dX11_personOf_56 : decode cX11_personOf 56 = .ok (.iaload, 1) := bq_o46 (bq_of bwX11_personOf_0 56 (by decide +kernel))
theorem dX11_personOf_57 : decode cX11_personOf 57 = .ok (.ireturn, 1) := bq_o172 (bq_of bwX11_personOf_0 57 (by decide +kernel))
theorem dX11_personOf_58 : decode cX11_personOf 58 = .ok (.aload_n 0, 1) := bq_o42 (bq_of bwX11_personOf_0 58 (by decide +kernel))
theorem dX11_personOf_59 : decode cX11_personOf 59 = .ok (.getfield 10, 3) := bq_o180 (a := 0) (b := 10) (bq_3 bwX11_personOf_0 59 (by decide +kernel)) rfl
theorem dX11_personOf_62 : decode cX11_personOf 62 = .ok (.getfield 158, 3) := bq_o180 (a := 0) (b := 158) (bq_3 bwX11_personOf_0 62 (by decide +kernel)) rfl
def bwX11_personOf_64l : List Nat := [158, 27, 46, 172, 42, 180, 0, 10, 27, 182, 0, 199, 172, 42, 180, 0, 10, 27, 182, 0, 199, 184, 0, 202, 172, 42, 16, 254, 182, 0, 58, 172]
theorem bwX11_personOf_64 : ((cX11_personOf.data.toList.drop 64).take 32).map UInt8.toNat = bwX11_personOf_64l := by decide +kernel
theorem dX11_personOf_65 : decode cX11_personOf 65 = .ok (.iload_n 1, 1) := bq_o27 (bq_of bwX11_personOf_64 1 (by decide +kernel))
theorem dX11_personOf_66 : decode cX11_personOf 66 = .ok (.iaload, 1) := bq_o46 (bq_of bwX11_personOf_64 2 (by decide +kernel))
theorem dX11_personOf_67 : decode cX11_personOf 67 = .ok (.ireturn, 1) := bq_o172 (bq_of bwX11_personOf_64 3 (by decide +kernel))
theorem dX11_personOf_68 : decode cX11_personOf 68 = .ok (.aload_n 0, 1) := bq_o42 (bq_of bwX11_personOf_64 4 (by decide +kernel))
theorem dX11_personOf_69 : decode cX11_personOf 69 = .ok (.getfield 10, 3) := bq_o180 (a := 0) (b := 10) (bq_3 bwX11_personOf_64 5 (by decide +kernel)) rfl
theorem dX11_personOf_72 : decode cX11_personOf 72 = .ok (.iload_n 1, 1) := bq_o27 (bq_of bwX11_personOf_64 8 (by decide +kernel))
theorem dX11_personOf_73 : decode cX11_personOf 73 = .ok (.invokevirtual 199, 3) := bq_o182 (a := 0) (b := 199) (bq_3 bwX11_personOf_64 9 (by decide +kernel)) rfl
theorem dX11_personOf_76 : decode cX11_personOf 76 = .ok (.ireturn, 1) := bq_o172 (bq_of bwX11_personOf_64 12 (by decide +kernel))
theorem dX11_personOf_77 : decode cX11_personOf 77 = .ok (.aload_n 0, 1) := bq_o42 (bq_of bwX11_personOf_64 13 (by decide +kernel))
theorem dX11_personOf_78 : decode cX11_personOf 78 = .ok (.getfield 10, 3) := bq_o180 (a := 0) (b := 10) (bq_3 bwX11_personOf_64 14 (by decide +kernel)) rfl
theorem dX11_personOf_81 : decode cX11_personOf 81 = .ok (.iload_n 1, 1) := bq_o27 (bq_of bwX11_personOf_64 17 (by decide +kernel))
theorem dX11_personOf_82 : decode cX11_personOf 82 = .ok (.invokevirtual 199, 3) := bq_o182 (a := 0) (b := 199) (bq_3 bwX11_personOf_64 18 (by decide +kernel)) rfl
theorem dX11_personOf_85 : decode cX11_personOf 85 = .ok (.invokestatic 202, 3) := bq_o184 (a := 0) (b := 202) (bq_3 bwX11_personOf_64 21 (by decide +kernel)) rfl
theorem dX11_personOf_88 : decode cX11_personOf 88 = .ok (.ireturn, 1) := bq_o172 (bq_of bwX11_personOf_64 24 (by decide +kernel))
theorem dX11_personOf_89 : decode cX11_personOf 89 = .ok (.aload_n 0, 1) := bq_o42 (bq_of bwX11_personOf_64 25 (by decide +kernel))
theorem dX11_personOf_90 : decode cX11_personOf 90 = .ok (.bipush (-2), 2) := bq_o16 (a := 254) (bq_2 bwX11_personOf_64 26 (by decide +kernel)) (by decide +kernel)
theorem dX11_personOf_92 : decode cX11_personOf 92 = .ok (.invokevirtual 58, 3) := bq_o182 (a := 0) (b := 58) (bq_3 bwX11_personOf_64 28 (by decide +kernel)) rfl
theorem dX11_personOf_95 : decode cX11_personOf 95 = .ok (.ireturn, 1) := bq_o172 (bq_of bwX11_personOf_64 31 (by decide +kernel))
theorem dX11_knownOf_0 : decode cX11_knownOf 0 = .ok (.aload_n 0, 1) := by decide +kernel
theorem dX11_knownOf_1 : decode cX11_knownOf 1 = .ok (.getfield 10, 3) := by decide +kernel
theorem dX11_knownOf_4 : decode cX11_knownOf 4 = .ok (.iload_n 1, 1) := by decide +kernel
theorem dX11_knownOf_5 : decode cX11_knownOf 5 = .ok (.iload_n 2, 1) := by decide +kernel
theorem dX11_knownOf_6 : decode cX11_knownOf 6 = .ok (.invokevirtual 161, 3) := by decide +kernel
theorem dX11_knownOf_9 : decode cX11_knownOf 9 = .ok (.ifCond .eq 15, 3) := by decide +kernel
theorem dX11_knownOf_12 : decode cX11_knownOf 12 = .ok (.aload_n 0, 1) := by decide +kernel
theorem dX11_knownOf_13 : decode cX11_knownOf 13 = .ok (.getfield 10, 3) := by decide +kernel
theorem dX11_knownOf_16 : decode cX11_knownOf 16 = .ok (.iload_n 1, 1) := by decide +kernel
theorem dX11_knownOf_17 : decode cX11_knownOf 17 = .ok (.iload_n 2, 1) := by decide +kernel
theorem dX11_knownOf_18 : decode cX11_knownOf 18 = .ok (.invokevirtual 165, 3) := by decide +kernel
theorem dX11_knownOf_21 : decode cX11_knownOf 21 = .ok (.goto 9, 3) := by decide +kernel
theorem dX11_knownOf_24 : decode cX11_knownOf 24 = .ok (.aload_n 0, 1) := by decide +kernel
theorem dX11_knownOf_25 : decode cX11_knownOf 25 = .ok (.bipush (-2), 2) := by decide +kernel
theorem dX11_knownOf_27 : decode cX11_knownOf 27 = .ok (.invokevirtual 58, 3) := by decide +kernel
theorem dX11_knownOf_30 : decode cX11_knownOf 30 = .ok (.ireturn, 1) := by decide +kernel
theorem dX11_isGroup_0 : decode cX11_isGroup 0 = .ok (.aload_n 0, 1) := by decide +kernel
theorem dX11_isGroup_1 : decode cX11_isGroup 1 = .ok (.getfield 10, 3) := by decide +kernel
theorem dX11_isGroup_4 : decode cX11_isGroup 4 = .ok (.iload_n 1, 1) := by decide +kernel
theorem dX11_isGroup_5 : decode cX11_isGroup 5 = .ok (.invokevirtual 207, 3) := by decide +kernel
theorem dX11_isGroup_8 : decode cX11_isGroup 8 = .ok (.ifCond .ne 10, 3) := by decide +kernel
theorem dX11_isGroup_11 : decode cX11_isGroup 11 = .ok (.aload_n 0, 1) := by decide +kernel
theorem dX11_isGroup_12 : decode cX11_isGroup 12 = .ok (.bipush (-2), 2) := by decide +kernel
theorem dX11_isGroup_14 : decode cX11_isGroup 14 = .ok (.invokevirtual 58, 3) := by decide +kernel
theorem dX11_isGroup_17 : decode cX11_isGroup 17 = .ok (.ireturn, 1) := by decide +kernel
theorem dX11_isGroup_18 : decode cX11_isGroup 18 = .ok (.aload_n 0, 1) := by decide +kernel
theorem dX11_isGroup_19 : decode cX11_isGroup 19 = .ok (.getfield 25, 3) := by decide +kernel
theorem dX11_isGroup_22 : decode cX11_isGroup 22 = .ok (.aload_n 0, 1) := by decide +kernel
theorem dX11_isGroup_23 : decode cX11_isGroup 23 = .ok (.getfield 10, 3) := by decide +kernel
theorem dX11_isGroup_26 : decode cX11_isGroup 26 = .ok (.invokevirtual 128, 3) := by decide +kernel
theorem dX11_isGroup_29 : decode cX11_isGroup 29 = .ok (.aload_n 0, 1) := by decide +kernel
theorem dX11_isGroup_30 : decode cX11_isGroup 30 = .ok (.getfield 25, 3) := by decide +kernel
theorem dX11_isGroup_33 : decode cX11_isGroup 33 = .ok (.iload_n 1, 1) := by decide +kernel
theorem dX11_isGroup_34 : decode cX11_isGroup 34 = .ok (.invokevirtual 210, 3) := by decide +kernel
theorem dX11_isGroup_37 : decode cX11_isGroup 37 = .ok (.ifCond .eq 7, 3) := by decide +kernel
theorem dX11_isGroup_40 : decode cX11_isGroup 40 = .ok (.iconst 1, 1) := by decide +kernel
theorem dX11_isGroup_41 : decode cX11_isGroup 41 = .ok (.goto 4, 3) := by decide +kernel
theorem dX11_isGroup_44 : decode cX11_isGroup 44 = .ok (.iconst 0, 1) := by decide +kernel
theorem dX11_isGroup_45 : decode cX11_isGroup 45 = .ok (.ireturn, 1) := by decide +kernel
theorem dX11_groups_0 : decode cX11_groups 0 = .ok (.aload_n 0, 1) := by decide +kernel
theorem dX11_groups_1 : decode cX11_groups 1 = .ok (.getfield 10, 3) := by decide +kernel
theorem dX11_groups_4 : decode cX11_groups 4 = .ok (.iload_n 1, 1) := by decide +kernel
theorem dX11_groups_5 : decode cX11_groups 5 = .ok (.invokevirtual 207, 3) := by decide +kernel
theorem dX11_groups_8 : decode cX11_groups 8 = .ok (.ifCond .ne 10, 3) := by decide +kernel
theorem dX11_groups_11 : decode cX11_groups 11 = .ok (.aload_n 0, 1) := by decide +kernel
theorem dX11_groups_12 : decode cX11_groups 12 = .ok (.bipush (-2), 2) := by decide +kernel
theorem dX11_groups_14 : decode cX11_groups 14 = .ok (.invokevirtual 58, 3) := by decide +kernel
theorem dX11_groups_17 : decode cX11_groups 17 = .ok (.ireturn, 1) := by decide +kernel
theorem dX11_groups_18 : decode cX11_groups 18 = .ok (.aload_n 0, 1) := by decide +kernel
theorem dX11_groups_19 : decode cX11_groups 19 = .ok (.getfield 25, 3) := by decide +kernel
theorem dX11_groups_22 : decode cX11_groups 22 = .ok (.aload_n 0, 1) := by decide +kernel
theorem dX11_groups_23 : decode cX11_groups 23 = .ok (.getfield 10, 3) := by decide +kernel
theorem dX11_groups_26 : decode cX11_groups 26 = .ok (.invokevirtual 128, 3) := by decide +kernel
theorem dX11_groups_29 : decode cX11_groups 29 = .ok (.aload_n 0, 1) := by decide +kernel
theorem dX11_groups_30 : decode cX11_groups 30 = .ok (.getfield 25, 3) := by decide +kernel
theorem dX11_groups_33 : decode cX11_groups 33 = .ok (.iload_n 1, 1) := by decide +kernel
theorem dX11_groups_34 : decode cX11_groups 34 = .ok (.invokevirtual 213, 3) := by decide +kernel
theorem dX11_groups_37 : decode cX11_groups 37 = .ok (.ireturn, 1) := by decide +kernel
theorem dX11_firstOf_0 : decode cX11_firstOf 0 = .ok (.aload_n 0, 1) := by decide +kernel
theorem dX11_firstOf_1 : decode cX11_firstOf 1 = .ok (.getfield 10, 3) := by decide +kernel
theorem dX11_firstOf_4 : decode cX11_firstOf 4 = .ok (.iload_n 1, 1) := by decide +kernel
theorem dX11_firstOf_5 : decode cX11_firstOf 5 = .ok (.invokevirtual 207, 3) := by decide +kernel
theorem dX11_firstOf_8 : decode cX11_firstOf 8 = .ok (.ifCond .ne 10, 3) := by decide +kernel
theorem dX11_firstOf_11 : decode cX11_firstOf 11 = .ok (.aload_n 0, 1) := by decide +kernel
theorem dX11_firstOf_12 : decode cX11_firstOf 12 = .ok (.bipush (-2), 2) := by decide +kernel
theorem dX11_firstOf_14 : decode cX11_firstOf 14 = .ok (.invokevirtual 58, 3) := by decide +kernel
theorem dX11_firstOf_17 : decode cX11_firstOf 17 = .ok (.ireturn, 1) := by decide +kernel
theorem dX11_firstOf_18 : decode cX11_firstOf 18 = .ok (.aload_n 0, 1) := by decide +kernel
theorem dX11_firstOf_19 : decode cX11_firstOf 19 = .ok (.getfield 25, 3) := by decide +kernel
theorem dX11_firstOf_22 : decode cX11_firstOf 22 = .ok (.aload_n 0, 1) := by decide +kernel
theorem dX11_firstOf_23 : decode cX11_firstOf 23 = .ok (.getfield 10, 3) := by decide +kernel
theorem dX11_firstOf_26 : decode cX11_firstOf 26 = .ok (.invokevirtual 128, 3) := by decide +kernel
theorem dX11_firstOf_29 : decode cX11_firstOf 29 = .ok (.aload_n 0, 1) := by decide +kernel
theorem dX11_firstOf_30 : decode cX11_firstOf 30 = .ok (.getfield 25, 3) := by decide +kernel
theorem dX11_firstOf_33 : decode cX11_firstOf 33 = .ok (.iload_n 1, 1) := by decide +kernel
theorem dX11_firstOf_34 : decode cX11_firstOf 34 = .ok (.invokevirtual 216, 3) := by decide +kernel
theorem dX11_firstOf_37 : decode cX11_firstOf 37 = .ok (.ireturn, 1) := by decide +kernel
theorem dX11_most_0 : decode cX11_most 0 = .ok (.aload_n 0, 1) := by decide +kernel
theorem dX11_most_1 : decode cX11_most 1 = .ok (.getfield 10, 3) := by decide +kernel
theorem dX11_most_4 : decode cX11_most 4 = .ok (.iload_n 1, 1) := by decide +kernel
theorem dX11_most_5 : decode cX11_most 5 = .ok (.invokevirtual 207, 3) := by decide +kernel
theorem dX11_most_8 : decode cX11_most 8 = .ok (.ifCond .ne 10, 3) := by decide +kernel
theorem dX11_most_11 : decode cX11_most 11 = .ok (.aload_n 0, 1) := by decide +kernel
theorem dX11_most_12 : decode cX11_most 12 = .ok (.bipush (-2), 2) := by decide +kernel
theorem dX11_most_14 : decode cX11_most 14 = .ok (.invokevirtual 58, 3) := by decide +kernel
theorem dX11_most_17 : decode cX11_most 17 = .ok (.ireturn, 1) := by decide +kernel
theorem dX11_most_18 : decode cX11_most 18 = .ok (.aload_n 0, 1) := by decide +kernel
theorem dX11_most_19 : decode cX11_most 19 = .ok (.getfield 25, 3) := by decide +kernel
theorem dX11_most_22 : decode cX11_most 22 = .ok (.aload_n 0, 1) := by decide +kernel
theorem dX11_most_23 : decode cX11_most 23 = .ok (.getfield 10, 3) := by decide +kernel
theorem dX11_most_26 : decode cX11_most 26 = .ok (.invokevirtual 128, 3) := by decide +kernel
theorem dX11_most_29 : decode cX11_most 29 = .ok (.aload_n 0, 1) := by decide +kernel
theorem dX11_most_30 : decode cX11_most 30 = .ok (.getfield 25, 3) := by decide +kernel
theorem dX11_most_33 : decode cX11_most 33 = .ok (.iload_n 1, 1) := by decide +kernel
theorem dX11_most_34 : decode cX11_most 34 = .ok (.invokevirtual 219, 3) := by decide +kernel
theorem dX11_most_37 : decode cX11_most 37 = .ok (.ireturn, 1) := by decide +kernel
def bwX11_mostOf_0l : List Nat := [42, 180, 0, 10, 27, 182, 0, 207, 153, 0, 7, 28, 156, 0, 10, 42, 16, 254, 182, 0, 58, 172, 42, 180, 0, 25, 42, 180, 0, 10, 182, 0, 128, 28, 42, 180, 0, 25, 27, 182, 0, 219, 161, 0, 10, 42, 16, 251, 182, 0, 58, 172, 42, 180, 0, 25, 27, 28, 182, 0, 222, 172]
theorem bwX11_mostOf_0 : ((cX11_mostOf.data.toList.drop 0).take 62).map UInt8.toNat = bwX11_mostOf_0l := by decide +kernel
theorem dX11_mostOf_0 : decode cX11_mostOf 0 = .ok (.aload_n 0, 1) := bq_o42 (bq_of bwX11_mostOf_0 0 (by decide +kernel))
theorem dX11_mostOf_1 : decode cX11_mostOf 1 = .ok (.getfield 10, 3) := bq_o180 (a := 0) (b := 10) (bq_3 bwX11_mostOf_0 1 (by decide +kernel)) rfl
theorem dX11_mostOf_4 : decode cX11_mostOf 4 = .ok (.iload_n 1, 1) := bq_o27 (bq_of bwX11_mostOf_0 4 (by decide +kernel))
theorem dX11_mostOf_5 : decode cX11_mostOf 5 = .ok (.invokevirtual 207, 3) := bq_o182 (a := 0) (b := 207) (bq_3 bwX11_mostOf_0 5 (by decide +kernel)) rfl
theorem dX11_mostOf_8 : decode cX11_mostOf 8 = .ok (.ifCond .eq 7, 3) := bq_o153 (a := 0) (b := 7) (bq_3 bwX11_mostOf_0 8 (by decide +kernel)) (by decide +kernel)
theorem dX11_mostOf_11 : decode cX11_mostOf 11 = .ok (.iload_n 2, 1) := bq_o28 (bq_of bwX11_mostOf_0 11 (by decide +kernel))
theorem dX11_mostOf_12 : decode cX11_mostOf 12 = .ok (.ifCond .ge 10, 3) := bq_o156 (a := 0) (b := 10) (bq_3 bwX11_mostOf_0 12 (by decide +kernel)) (by decide +kernel)
theorem dX11_mostOf_15 : decode cX11_mostOf 15 = .ok (.aload_n 0, 1) := bq_o42 (bq_of bwX11_mostOf_0 15 (by decide +kernel))
theorem dX11_mostOf_16 : decode cX11_mostOf 16 = .ok (.bipush (-2), 2) := bq_o16 (a := 254) (bq_2 bwX11_mostOf_0 16 (by decide +kernel)) (by decide +kernel)
theorem dX11_mostOf_18 : decode cX11_mostOf 18 = .ok (.invokevirtual 58, 3) := bq_o182 (a := 0) (b := 58) (bq_3 bwX11_mostOf_0 18 (by decide +kernel)) rfl
theorem dX11_mostOf_21 : decode cX11_mostOf 21 = .ok (.ireturn, 1) := bq_o172 (bq_of bwX11_mostOf_0 21 (by decide +kernel))
theorem dX11_mostOf_22 : decode cX11_mostOf 22 = .ok (.aload_n 0, 1) := bq_o42 (bq_of bwX11_mostOf_0 22 (by decide +kernel))
theorem dX11_mostOf_23 : decode cX11_mostOf 23 = .ok (.getfield 25, 3) := bq_o180 (a := 0) (b := 25) (bq_3 bwX11_mostOf_0 23 (by decide +kernel)) rfl
theorem dX11_mostOf_26 : decode cX11_mostOf 26 = .ok (.aload_n 0, 1) := bq_o42 (bq_of bwX11_mostOf_0 26 (by decide +kernel))
theorem dX11_mostOf_27 : decode cX11_mostOf 27 = .ok (.getfield 10, 3) := bq_o180 (a := 0) (b := 10) (bq_3 bwX11_mostOf_0 27 (by decide +kernel)) rfl
theorem dX11_mostOf_30 : decode cX11_mostOf 30 = .ok (.invokevirtual 128, 3) := bq_o182 (a := 0) (b := 128) (bq_3 bwX11_mostOf_0 30 (by decide +kernel)) rfl
theorem dX11_mostOf_33 : decode cX11_mostOf 33 = .ok (.iload_n 2, 1) := bq_o28 (bq_of bwX11_mostOf_0 33 (by decide +kernel))
theorem dX11_mostOf_34 : decode cX11_mostOf 34 = .ok (.aload_n 0, 1) := bq_o42 (bq_of bwX11_mostOf_0 34 (by decide +kernel))
theorem dX11_mostOf_35 : decode cX11_mostOf 35 = .ok (.getfield 25, 3) := bq_o180 (a := 0) (b := 25) (bq_3 bwX11_mostOf_0 35 (by decide +kernel)) rfl
theorem dX11_mostOf_38 : decode cX11_mostOf 38 = .ok (.iload_n 1, 1) := bq_o27 (bq_of bwX11_mostOf_0 38 (by decide +kernel))
theorem dX11_mostOf_39 : decode cX11_mostOf 39 = .ok (.invokevirtual 219, 3) := bq_o182 (a := 0) (b := 219) (bq_3 bwX11_mostOf_0 39 (by decide +kernel)) rfl
theorem dX11_mostOf_42 : decode cX11_mostOf 42 = .ok (.if_icmp .lt 10, 3) := bq_o161 (a := 0) (b := 10) (bq_3 bwX11_mostOf_0 42 (by decide +kernel)) (by decide +kernel)
theorem dX11_mostOf_45 : decode cX11_mostOf 45 = .ok (.aload_n 0, 1) := bq_o42 (bq_of bwX11_mostOf_0 45 (by decide +kernel))
theorem dX11_mostOf_46 : decode cX11_mostOf 46 = .ok (.bipush (-5), 2) := bq_o16 (a := 251) (bq_2 bwX11_mostOf_0 46 (by decide +kernel)) (by decide +kernel)
theorem dX11_mostOf_48 : decode cX11_mostOf 48 = .ok (.invokevirtual 58, 3) := bq_o182 (a := 0) (b := 58) (bq_3 bwX11_mostOf_0 48 (by decide +kernel)) rfl
theorem dX11_mostOf_51 : decode cX11_mostOf 51 = .ok (.ireturn, 1) := bq_o172 (bq_of bwX11_mostOf_0 51 (by decide +kernel))
theorem dX11_mostOf_52 : decode cX11_mostOf 52 = .ok (.aload_n 0, 1) := bq_o42 (bq_of bwX11_mostOf_0 52 (by decide +kernel))
theorem dX11_mostOf_53 : decode cX11_mostOf 53 = .ok (.getfield 25, 3) := bq_o180 (a := 0) (b := 25) (bq_3 bwX11_mostOf_0 53 (by decide +kernel)) rfl
theorem dX11_mostOf_56 : decode cX11_mostOf 56 = .ok (.iload_n 1, 1) := bq_o27 (bq_of bwX11_mostOf_0 56 (by decide +kernel))
theorem dX11_mostOf_57 : decode cX11_mostOf 57 = .ok (.iload_n 2, 1) := bq_o28 (bq_of bwX11_mostOf_0 57 (by decide +kernel))
theorem dX11_mostOf_58 : decode cX11_mostOf 58 = .ok (.invokevirtual 222, 3) := bq_o182 (a := 0) (b := 222) (bq_3 bwX11_mostOf_0 58 (by decide +kernel)) rfl
theorem dX11_mostOf_61 : decode cX11_mostOf 61 = .ok (.ireturn, 1) := bq_o172 (bq_of bwX11_mostOf_0 61 (by decide +kernel))
def bwX11_sends_0l : List Nat := [42, 180, 0, 10, 28, 182, 0, 207, 153, 0, 13, 29, 155, 0, 9, 29, 16, 7, 164, 0, 10, 42, 16, 254, 182, 0, 58, 172, 42, 27, 182, 0, 115, 58, 4, 25, 4, 199, 0, 13, 42, 42, 27, 182, 0, 119, 182, 0, 58, 172, 42, 180, 0, 25, 42, 180, 0, 10, 182, 0, 128, 25, 4, 42, 180, 0]
theorem bwX11_sends_0 : ((cX11_sends.data.toList.drop 0).take 66).map UInt8.toNat = bwX11_sends_0l := by decide +kernel
theorem dX11_sends_0 : decode cX11_sends 0 = .ok (.aload_n 0, 1) := bq_o42 (bq_of bwX11_sends_0 0 (by decide +kernel))
theorem dX11_sends_1 : decode cX11_sends 1 = .ok (.getfield 10, 3) := bq_o180 (a := 0) (b := 10) (bq_3 bwX11_sends_0 1 (by decide +kernel)) rfl
theorem dX11_sends_4 : decode cX11_sends 4 = .ok (.iload_n 2, 1) := bq_o28 (bq_of bwX11_sends_0 4 (by decide +kernel))
theorem dX11_sends_5 : decode cX11_sends 5 = .ok (.invokevirtual 207, 3) := bq_o182 (a := 0) (b := 207) (bq_3 bwX11_sends_0 5 (by decide +kernel)) rfl
theorem dX11_sends_8 : decode cX11_sends 8 = .ok (.ifCond .eq 13, 3) := bq_o153 (a := 0) (b := 13) (bq_3 bwX11_sends_0 8 (by decide +kernel)) (by decide +kernel)
theorem dX11_sends_11 : decode cX11_sends 11 = .ok (.iload_n 3, 1) := bq_o29 (bq_of bwX11_sends_0 11 (by decide +kernel))
theorem dX11_sends_12 : decode cX11_sends 12 = .ok (.ifCond .lt 9, 3) := bq_o155 (a := 0) (b := 9) (bq_3 bwX11_sends_0 12 (by decide +kernel)) (by decide +kernel)
theorem dX11_sends_15 : decode cX11_sends 15 = .ok (.iload_n 3, 1) := bq_o29 (bq_of bwX11_sends_0 15 (by decide +kernel))
theorem dX11_sends_16 : decode cX11_sends 16 = .ok (.bipush 7, 2) := bq_o16 (a := 7) (bq_2 bwX11_sends_0 16 (by decide +kernel)) (by decide +kernel)
theorem dX11_sends_18 : decode cX11_sends 18 = .ok (.if_icmp .le 10, 3) := bq_o164 (a := 0) (b := 10) (bq_3 bwX11_sends_0 18 (by decide +kernel)) (by decide +kernel)
theorem dX11_sends_21 : decode cX11_sends 21 = .ok (.aload_n 0, 1) := bq_o42 (bq_of bwX11_sends_0 21 (by decide +kernel))
theorem dX11_sends_22 : decode cX11_sends 22 = .ok (.bipush (-2), 2) := bq_o16 (a := 254) (bq_2 bwX11_sends_0 22 (by decide +kernel)) (by decide +kernel)
theorem dX11_sends_24 : decode cX11_sends 24 = .ok (.invokevirtual 58, 3) := bq_o182 (a := 0) (b := 58) (bq_3 bwX11_sends_0 24 (by decide +kernel)) rfl
theorem dX11_sends_27 : decode cX11_sends 27 = .ok (.ireturn, 1) := bq_o172 (bq_of bwX11_sends_0 27 (by decide +kernel))
theorem dX11_sends_28 : decode cX11_sends 28 = .ok (.aload_n 0, 1) := bq_o42 (bq_of bwX11_sends_0 28 (by decide +kernel))
theorem dX11_sends_29 : decode cX11_sends 29 = .ok (.iload_n 1, 1) := bq_o27 (bq_of bwX11_sends_0 29 (by decide +kernel))
theorem dX11_sends_30 : decode cX11_sends 30 = .ok (.invokevirtual 115, 3) := bq_o182 (a := 0) (b := 115) (bq_3 bwX11_sends_0 30 (by decide +kernel)) rfl
theorem dX11_sends_33 : decode cX11_sends 33 = .ok (.astore 4, 2) := bq_o58 (a := 4) (bq_2 bwX11_sends_0 33 (by decide +kernel)) rfl
theorem dX11_sends_35 : decode cX11_sends 35 = .ok (.aload 4, 2) := bq_o25 (a := 4) (bq_2 bwX11_sends_0 35 (by decide +kernel)) rfl
theorem dX11_sends_37 : decode cX11_sends 37 = .ok (.ifnonnull 13, 3) := bq_o199 (a := 0) (b := 13) (bq_3 bwX11_sends_0 37 (by decide +kernel)) (by decide +kernel)
theorem dX11_sends_40 : decode cX11_sends 40 = .ok (.aload_n 0, 1) := bq_o42 (bq_of bwX11_sends_0 40 (by decide +kernel))
theorem dX11_sends_41 : decode cX11_sends 41 = .ok (.aload_n 0, 1) := bq_o42 (bq_of bwX11_sends_0 41 (by decide +kernel))
theorem dX11_sends_42 : decode cX11_sends 42 = .ok (.iload_n 1, 1) := bq_o27 (bq_of bwX11_sends_0 42 (by decide +kernel))
theorem dX11_sends_43 : decode cX11_sends 43 = .ok (.invokevirtual 119, 3) := bq_o182 (a := 0) (b := 119) (bq_3 bwX11_sends_0 43 (by decide +kernel)) rfl
theorem dX11_sends_46 : decode cX11_sends 46 = .ok (.invokevirtual 58, 3) := bq_o182 (a := 0) (b := 58) (bq_3 bwX11_sends_0 46 (by decide +kernel)) rfl
theorem dX11_sends_49 : decode cX11_sends 49 = .ok (.ireturn, 1) := bq_o172 (bq_of bwX11_sends_0 49 (by decide +kernel))
theorem dX11_sends_50 : decode cX11_sends 50 = .ok (.aload_n 0, 1) := bq_o42 (bq_of bwX11_sends_0 50 (by decide +kernel))
theorem dX11_sends_51 : decode cX11_sends 51 = .ok (.getfield 25, 3) := bq_o180 (a := 0) (b := 25) (bq_3 bwX11_sends_0 51 (by decide +kernel)) rfl
theorem dX11_sends_54 : decode cX11_sends 54 = .ok (.aload_n 0, 1) := bq_o42 (bq_of bwX11_sends_0 54 (by decide +kernel))
theorem dX11_sends_55 : decode cX11_sends 55 = .ok (.getfield 10, 3) := bq_o180 (a := 0) (b := 10) (bq_3 bwX11_sends_0 55 (by decide +kernel)) rfl
theorem dX11_sends_58 : decode cX11_sends 58 = .ok (.invokevirtual 128, 3) := bq_o182 (a := 0) (b := 128) (bq_3 bwX11_sends_0 58 (by decide +kernel)) rfl
theorem dX11_sends_61 : decode cX11_sends 61 = .ok (.aload 4, 2) := bq_o25 (a := 4) (bq_2 bwX11_sends_0 61 (by decide +kernel)) rfl
theorem dX11_sends_63 : decode cX11_sends 63 = .ok (.aload_n 0, 1) := bq_o42 (bq_of bwX11_sends_0 63 (by decide +kernel))
def bwX11_sends_64l : List Nat := [180, 0, 25, 28, 29, 182, 0, 135, 172]
theorem bwX11_sends_64 : ((cX11_sends.data.toList.drop 64).take 9).map UInt8.toNat = bwX11_sends_64l := by decide +kernel
theorem dX11_sends_64 : decode cX11_sends 64 = .ok (.getfield 25, 3) := bq_o180 (a := 0) (b := 25) (bq_3 bwX11_sends_64 0 (by decide +kernel)) rfl
theorem dX11_sends_67 : decode cX11_sends 67 = .ok (.iload_n 2, 1) := bq_o28 (bq_of bwX11_sends_64 3 (by decide +kernel))
theorem dX11_sends_68 : decode cX11_sends 68 = .ok (.iload_n 3, 1) := bq_o29 (bq_of bwX11_sends_64 4 (by decide +kernel))
theorem dX11_sends_69 : decode cX11_sends 69 = .ok (.invokevirtual 135, 3) := bq_o182 (a := 0) (b := 135) (bq_3 bwX11_sends_64 5 (by decide +kernel)) rfl
theorem dX11_sends_72 : decode cX11_sends 72 = .ok (.ireturn, 1) := bq_o172 (bq_of bwX11_sends_64 8 (by decide +kernel))
theorem dX11_run_0 : decode cX11_run 0 = .ok (.aload_n 0, 1) := by decide +kernel
theorem dX11_run_1 : decode cX11_run 1 = .ok (.iload_n 1, 1) := by decide +kernel
theorem dX11_run_2 : decode cX11_run 2 = .ok (.invokevirtual 115, 3) := by decide +kernel
theorem dX11_run_5 : decode cX11_run 5 = .ok (.astore_n 2, 1) := by decide +kernel
theorem dX11_run_6 : decode cX11_run 6 = .ok (.aload_n 2, 1) := by decide +kernel
theorem dX11_run_7 : decode cX11_run 7 = .ok (.ifnonnull 13, 3) := by decide +kernel
theorem dX11_run_10 : decode cX11_run 10 = .ok (.aload_n 0, 1) := by decide +kernel
theorem dX11_run_11 : decode cX11_run 11 = .ok (.aload_n 0, 1) := by decide +kernel
theorem dX11_run_12 : decode cX11_run 12 = .ok (.iload_n 1, 1) := by decide +kernel
theorem dX11_run_13 : decode cX11_run 13 = .ok (.invokevirtual 119, 3) := by decide +kernel
theorem dX11_run_16 : decode cX11_run 16 = .ok (.invokevirtual 58, 3) := by decide +kernel
theorem dX11_run_19 : decode cX11_run 19 = .ok (.ireturn, 1) := by decide +kernel
theorem dX11_run_20 : decode cX11_run 20 = .ok (.aload_n 0, 1) := by decide +kernel
theorem dX11_run_21 : decode cX11_run 21 = .ok (.aload_n 2, 1) := by decide +kernel
theorem dX11_run_22 : decode cX11_run 22 = .ok (.invokevirtual 225, 3) := by decide +kernel
theorem dX11_run_25 : decode cX11_run 25 = .ok (.aload_n 0, 1) := by decide +kernel
theorem dX11_run_26 : decode cX11_run 26 = .ok (.getfield 32, 3) := by decide +kernel
theorem dX11_run_29 : decode cX11_run 29 = .ok (.getfield 228, 3) := by decide +kernel
theorem dX11_run_32 : decode cX11_run 32 = .ok (.ireturn, 1) := by decide +kernel
def bwX11_coach_0l : List Nat := [28, 156, 0, 10, 42, 16, 254, 182, 0, 58, 172, 42, 27, 182, 0, 115, 78, 45, 199, 0, 13, 42, 42, 27, 182, 0, 119, 182, 0, 58, 172, 42, 45, 182, 0, 225, 28, 42, 180, 0, 32, 180, 0, 228, 161, 0, 10, 42, 16, 251, 182, 0, 58, 172, 42, 180, 0, 32, 28, 182, 0, 231, 172]
theorem bwX11_coach_0 : ((cX11_coach.data.toList.drop 0).take 63).map UInt8.toNat = bwX11_coach_0l := by decide +kernel
theorem dX11_coach_0 : decode cX11_coach 0 = .ok (.iload_n 2, 1) := bq_o28 (bq_of bwX11_coach_0 0 (by decide +kernel))
theorem dX11_coach_1 : decode cX11_coach 1 = .ok (.ifCond .ge 10, 3) := bq_o156 (a := 0) (b := 10) (bq_3 bwX11_coach_0 1 (by decide +kernel)) (by decide +kernel)
theorem dX11_coach_4 : decode cX11_coach 4 = .ok (.aload_n 0, 1) := bq_o42 (bq_of bwX11_coach_0 4 (by decide +kernel))
theorem dX11_coach_5 : decode cX11_coach 5 = .ok (.bipush (-2), 2) := bq_o16 (a := 254) (bq_2 bwX11_coach_0 5 (by decide +kernel)) (by decide +kernel)
theorem dX11_coach_7 : decode cX11_coach 7 = .ok (.invokevirtual 58, 3) := bq_o182 (a := 0) (b := 58) (bq_3 bwX11_coach_0 7 (by decide +kernel)) rfl
theorem dX11_coach_10 : decode cX11_coach 10 = .ok (.ireturn, 1) := bq_o172 (bq_of bwX11_coach_0 10 (by decide +kernel))
theorem dX11_coach_11 : decode cX11_coach 11 = .ok (.aload_n 0, 1) := bq_o42 (bq_of bwX11_coach_0 11 (by decide +kernel))
theorem dX11_coach_12 : decode cX11_coach 12 = .ok (.iload_n 1, 1) := bq_o27 (bq_of bwX11_coach_0 12 (by decide +kernel))
theorem dX11_coach_13 : decode cX11_coach 13 = .ok (.invokevirtual 115, 3) := bq_o182 (a := 0) (b := 115) (bq_3 bwX11_coach_0 13 (by decide +kernel)) rfl
theorem dX11_coach_16 : decode cX11_coach 16 = .ok (.astore_n 3, 1) := bq_o78 (bq_of bwX11_coach_0 16 (by decide +kernel))
theorem dX11_coach_17 : decode cX11_coach 17 = .ok (.aload_n 3, 1) := bq_o45 (bq_of bwX11_coach_0 17 (by decide +kernel))
theorem dX11_coach_18 : decode cX11_coach 18 = .ok (.ifnonnull 13, 3) := bq_o199 (a := 0) (b := 13) (bq_3 bwX11_coach_0 18 (by decide +kernel)) (by decide +kernel)
theorem dX11_coach_21 : decode cX11_coach 21 = .ok (.aload_n 0, 1) := bq_o42 (bq_of bwX11_coach_0 21 (by decide +kernel))
theorem dX11_coach_22 : decode cX11_coach 22 = .ok (.aload_n 0, 1) := bq_o42 (bq_of bwX11_coach_0 22 (by decide +kernel))
theorem dX11_coach_23 : decode cX11_coach 23 = .ok (.iload_n 1, 1) := bq_o27 (bq_of bwX11_coach_0 23 (by decide +kernel))
theorem dX11_coach_24 : decode cX11_coach 24 = .ok (.invokevirtual 119, 3) := bq_o182 (a := 0) (b := 119) (bq_3 bwX11_coach_0 24 (by decide +kernel)) rfl
theorem dX11_coach_27 : decode cX11_coach 27 = .ok (.invokevirtual 58, 3) := bq_o182 (a := 0) (b := 58) (bq_3 bwX11_coach_0 27 (by decide +kernel)) rfl
theorem dX11_coach_30 : decode cX11_coach 30 = .ok (.ireturn, 1) := bq_o172 (bq_of bwX11_coach_0 30 (by decide +kernel))
theorem dX11_coach_31 : decode cX11_coach 31 = .ok (.aload_n 0, 1) := bq_o42 (bq_of bwX11_coach_0 31 (by decide +kernel))
theorem dX11_coach_32 : decode cX11_coach 32 = .ok (.aload_n 3, 1) := bq_o45 (bq_of bwX11_coach_0 32 (by decide +kernel))
theorem dX11_coach_33 : decode cX11_coach 33 = .ok (.invokevirtual 225, 3) := bq_o182 (a := 0) (b := 225) (bq_3 bwX11_coach_0 33 (by decide +kernel)) rfl
theorem dX11_coach_36 : decode cX11_coach 36 = .ok (.iload_n 2, 1) := bq_o28 (bq_of bwX11_coach_0 36 (by decide +kernel))
theorem dX11_coach_37 : decode cX11_coach 37 = .ok (.aload_n 0, 1) := bq_o42 (bq_of bwX11_coach_0 37 (by decide +kernel))
theorem dX11_coach_38 : decode cX11_coach 38 = .ok (.getfield 32, 3) := bq_o180 (a := 0) (b := 32) (bq_3 bwX11_coach_0 38 (by decide +kernel)) rfl
theorem dX11_coach_41 : decode cX11_coach 41 = .ok (.getfield 228, 3) := bq_o180 (a := 0) (b := 228) (bq_3 bwX11_coach_0 41 (by decide +kernel)) rfl
theorem dX11_coach_44 : decode cX11_coach 44 = .ok (.if_icmp .lt 10, 3) := bq_o161 (a := 0) (b := 10) (bq_3 bwX11_coach_0 44 (by decide +kernel)) (by decide +kernel)
theorem dX11_coach_47 : decode cX11_coach 47 = .ok (.aload_n 0, 1) := bq_o42 (bq_of bwX11_coach_0 47 (by decide +kernel))
theorem dX11_coach_48 : decode cX11_coach 48 = .ok (.bipush (-5), 2) := bq_o16 (a := 251) (bq_2 bwX11_coach_0 48 (by decide +kernel)) (by decide +kernel)
theorem dX11_coach_50 : decode cX11_coach 50 = .ok (.invokevirtual 58, 3) := bq_o182 (a := 0) (b := 58) (bq_3 bwX11_coach_0 50 (by decide +kernel)) rfl
theorem dX11_coach_53 : decode cX11_coach 53 = .ok (.ireturn, 1) := bq_o172 (bq_of bwX11_coach_0 53 (by decide +kernel))
theorem dX11_coach_54 : decode cX11_coach 54 = .ok (.aload_n 0, 1) := bq_o42 (bq_of bwX11_coach_0 54 (by decide +kernel))
theorem dX11_coach_55 : decode cX11_coach 55 = .ok (.getfield 32, 3) := bq_o180 (a := 0) (b := 32) (bq_3 bwX11_coach_0 55 (by decide +kernel)) rfl
theorem dX11_coach_58 : decode cX11_coach 58 = .ok (.iload_n 2, 1) := bq_o28 (bq_of bwX11_coach_0 58 (by decide +kernel))
theorem dX11_coach_59 : decode cX11_coach 59 = .ok (.invokevirtual 231, 3) := bq_o182 (a := 0) (b := 231) (bq_3 bwX11_coach_0 59 (by decide +kernel)) rfl
theorem dX11_coach_62 : decode cX11_coach 62 = .ok (.ireturn, 1) := bq_o172 (bq_of bwX11_coach_0 62 (by decide +kernel))
theorem dX11_left_0 : decode cX11_left 0 = .ok (.aload_n 0, 1) := by decide +kernel
theorem dX11_left_1 : decode cX11_left 1 = .ok (.iload_n 1, 1) := by decide +kernel
theorem dX11_left_2 : decode cX11_left 2 = .ok (.invokevirtual 115, 3) := by decide +kernel
theorem dX11_left_5 : decode cX11_left 5 = .ok (.astore_n 2, 1) := by decide +kernel
theorem dX11_left_6 : decode cX11_left 6 = .ok (.aload_n 2, 1) := by decide +kernel
theorem dX11_left_7 : decode cX11_left 7 = .ok (.ifnonnull 13, 3) := by decide +kernel
theorem dX11_left_10 : decode cX11_left 10 = .ok (.aload_n 0, 1) := by decide +kernel
theorem dX11_left_11 : decode cX11_left 11 = .ok (.aload_n 0, 1) := by decide +kernel
theorem dX11_left_12 : decode cX11_left 12 = .ok (.iload_n 1, 1) := by decide +kernel
theorem dX11_left_13 : decode cX11_left 13 = .ok (.invokevirtual 119, 3) := by decide +kernel
theorem dX11_left_16 : decode cX11_left 16 = .ok (.invokevirtual 58, 3) := by decide +kernel
theorem dX11_left_19 : decode cX11_left 19 = .ok (.ireturn, 1) := by decide +kernel
theorem dX11_left_20 : decode cX11_left 20 = .ok (.aload_n 0, 1) := by decide +kernel
theorem dX11_left_21 : decode cX11_left 21 = .ok (.aload_n 2, 1) := by decide +kernel
theorem dX11_left_22 : decode cX11_left 22 = .ok (.invokevirtual 225, 3) := by decide +kernel
theorem dX11_left_25 : decode cX11_left 25 = .ok (.aload_n 0, 1) := by decide +kernel
theorem dX11_left_26 : decode cX11_left 26 = .ok (.getfield 32, 3) := by decide +kernel
theorem dX11_left_29 : decode cX11_left 29 = .ok (.getfield 234, 3) := by decide +kernel
theorem dX11_left_32 : decode cX11_left 32 = .ok (.ireturn, 1) := by decide +kernel
def bwX11_waits_0l : List Nat := [28, 2, 159, 0, 21, 42, 180, 0, 10, 28, 182, 0, 152, 154, 0, 10, 42, 16, 254, 182, 0, 58, 172, 42, 27, 182, 0, 115, 78, 45, 199, 0, 13, 42, 42, 27, 182, 0, 119, 182, 0, 58, 172, 42, 45, 182, 0, 225, 28, 2, 160, 0, 17, 42, 180, 0, 32, 42, 180, 0, 10, 182, 0, 237, 167, 0]
theorem bwX11_waits_0 : ((cX11_waits.data.toList.drop 0).take 66).map UInt8.toNat = bwX11_waits_0l := by decide +kernel
theorem dX11_waits_0 : decode cX11_waits 0 = .ok (.iload_n 2, 1) := bq_o28 (bq_of bwX11_waits_0 0 (by decide +kernel))
theorem dX11_waits_1 : decode cX11_waits 1 = .ok (.iconst (-1), 1) := bq_o2 (bq_of bwX11_waits_0 1 (by decide +kernel))
theorem dX11_waits_2 : decode cX11_waits 2 = .ok (.if_icmp .eq 21, 3) := bq_o159 (a := 0) (b := 21) (bq_3 bwX11_waits_0 2 (by decide +kernel)) (by decide +kernel)
theorem dX11_waits_5 : decode cX11_waits 5 = .ok (.aload_n 0, 1) := bq_o42 (bq_of bwX11_waits_0 5 (by decide +kernel))
theorem dX11_waits_6 : decode cX11_waits 6 = .ok (.getfield 10, 3) := bq_o180 (a := 0) (b := 10) (bq_3 bwX11_waits_0 6 (by decide +kernel)) rfl
theorem dX11_waits_9 : decode cX11_waits 9 = .ok (.iload_n 2, 1) := bq_o28 (bq_of bwX11_waits_0 9 (by decide +kernel))
theorem dX11_waits_10 : decode cX11_waits 10 = .ok (.invokevirtual 152, 3) := bq_o182 (a := 0) (b := 152) (bq_3 bwX11_waits_0 10 (by decide +kernel)) rfl
theorem dX11_waits_13 : decode cX11_waits 13 = .ok (.ifCond .ne 10, 3) := bq_o154 (a := 0) (b := 10) (bq_3 bwX11_waits_0 13 (by decide +kernel)) (by decide +kernel)
theorem dX11_waits_16 : decode cX11_waits 16 = .ok (.aload_n 0, 1) := bq_o42 (bq_of bwX11_waits_0 16 (by decide +kernel))
theorem dX11_waits_17 : decode cX11_waits 17 = .ok (.bipush (-2), 2) := bq_o16 (a := 254) (bq_2 bwX11_waits_0 17 (by decide +kernel)) (by decide +kernel)
theorem dX11_waits_19 : decode cX11_waits 19 = .ok (.invokevirtual 58, 3) := bq_o182 (a := 0) (b := 58) (bq_3 bwX11_waits_0 19 (by decide +kernel)) rfl
theorem dX11_waits_22 : decode cX11_waits 22 = .ok (.ireturn, 1) := bq_o172 (bq_of bwX11_waits_0 22 (by decide +kernel))
theorem dX11_waits_23 : decode cX11_waits 23 = .ok (.aload_n 0, 1) := bq_o42 (bq_of bwX11_waits_0 23 (by decide +kernel))
theorem dX11_waits_24 : decode cX11_waits 24 = .ok (.iload_n 1, 1) := bq_o27 (bq_of bwX11_waits_0 24 (by decide +kernel))
theorem dX11_waits_25 : decode cX11_waits 25 = .ok (.invokevirtual 115, 3) := bq_o182 (a := 0) (b := 115) (bq_3 bwX11_waits_0 25 (by decide +kernel)) rfl
theorem dX11_waits_28 : decode cX11_waits 28 = .ok (.astore_n 3, 1) := bq_o78 (bq_of bwX11_waits_0 28 (by decide +kernel))
theorem dX11_waits_29 : decode cX11_waits 29 = .ok (.aload_n 3, 1) := bq_o45 (bq_of bwX11_waits_0 29 (by decide +kernel))
theorem dX11_waits_30 : decode cX11_waits 30 = .ok (.ifnonnull 13, 3) := bq_o199 (a := 0) (b := 13) (bq_3 bwX11_waits_0 30 (by decide +kernel)) (by decide +kernel)
theorem dX11_waits_33 : decode cX11_waits 33 = .ok (.aload_n 0, 1) := bq_o42 (bq_of bwX11_waits_0 33 (by decide +kernel))
theorem dX11_waits_34 : decode cX11_waits 34 = .ok (.aload_n 0, 1) := bq_o42 (bq_of bwX11_waits_0 34 (by decide +kernel))
theorem dX11_waits_35 : decode cX11_waits 35 = .ok (.iload_n 1, 1) := bq_o27 (bq_of bwX11_waits_0 35 (by decide +kernel))
theorem dX11_waits_36 : decode cX11_waits 36 = .ok (.invokevirtual 119, 3) := bq_o182 (a := 0) (b := 119) (bq_3 bwX11_waits_0 36 (by decide +kernel)) rfl
theorem dX11_waits_39 : decode cX11_waits 39 = .ok (.invokevirtual 58, 3) := bq_o182 (a := 0) (b := 58) (bq_3 bwX11_waits_0 39 (by decide +kernel)) rfl
theorem dX11_waits_42 : decode cX11_waits 42 = .ok (.ireturn, 1) := bq_o172 (bq_of bwX11_waits_0 42 (by decide +kernel))
theorem dX11_waits_43 : decode cX11_waits 43 = .ok (.aload_n 0, 1) := bq_o42 (bq_of bwX11_waits_0 43 (by decide +kernel))
theorem dX11_waits_44 : decode cX11_waits 44 = .ok (.aload_n 3, 1) := bq_o45 (bq_of bwX11_waits_0 44 (by decide +kernel))
theorem dX11_waits_45 : decode cX11_waits 45 = .ok (.invokevirtual 225, 3) := bq_o182 (a := 0) (b := 225) (bq_3 bwX11_waits_0 45 (by decide +kernel)) rfl
theorem dX11_waits_48 : decode cX11_waits 48 = .ok (.iload_n 2, 1) := bq_o28 (bq_of bwX11_waits_0 48 (by decide +kernel))
theorem dX11_waits_49 : decode cX11_waits 49 = .ok (.iconst (-1), 1) := bq_o2 (bq_of bwX11_waits_0 49 (by decide +kernel))
theorem dX11_waits_50 : decode cX11_waits 50 = .ok (.if_icmp .ne 17, 3) := bq_o160 (a := 0) (b := 17) (bq_3 bwX11_waits_0 50 (by decide +kernel)) (by decide +kernel)
theorem dX11_waits_53 : decode cX11_waits 53 = .ok (.aload_n 0, 1) := bq_o42 (bq_of bwX11_waits_0 53 (by decide +kernel))
theorem dX11_waits_54 : decode cX11_waits 54 = .ok (.getfield 32, 3) := bq_o180 (a := 0) (b := 32) (bq_3 bwX11_waits_0 54 (by decide +kernel)) rfl
theorem dX11_waits_57 : decode cX11_waits 57 = .ok (.aload_n 0, 1) := bq_o42 (bq_of bwX11_waits_0 57 (by decide +kernel))
theorem dX11_waits_58 : decode cX11_waits 58 = .ok (.getfield 10, 3) := bq_o180 (a := 0) (b := 10) (bq_3 bwX11_waits_0 58 (by decide +kernel)) rfl
theorem dX11_waits_61 : decode cX11_waits 61 = .ok (.invokevirtual 237, 3) := bq_o182 (a := 0) (b := 237) (bq_3 bwX11_waits_0 61 (by decide +kernel)) rfl
def bwX11_waits_64l : List Nat := [167, 0, 15, 42, 180, 0, 32, 42, 180, 0, 10, 28, 182, 0, 240, 172]
theorem bwX11_waits_64 : ((cX11_waits.data.toList.drop 64).take 16).map UInt8.toNat = bwX11_waits_64l := by decide +kernel
theorem dX11_waits_64 : decode cX11_waits 64 = .ok (.goto 15, 3) := bq_o167 (a := 0) (b := 15) (bq_3 bwX11_waits_64 0 (by decide +kernel)) (by decide +kernel)
theorem dX11_waits_67 : decode cX11_waits 67 = .ok (.aload_n 0, 1) := bq_o42 (bq_of bwX11_waits_64 3 (by decide +kernel))
theorem dX11_waits_68 : decode cX11_waits 68 = .ok (.getfield 32, 3) := bq_o180 (a := 0) (b := 32) (bq_3 bwX11_waits_64 4 (by decide +kernel)) rfl
theorem dX11_waits_71 : decode cX11_waits 71 = .ok (.aload_n 0, 1) := bq_o42 (bq_of bwX11_waits_64 7 (by decide +kernel))
theorem dX11_waits_72 : decode cX11_waits 72 = .ok (.getfield 10, 3) := bq_o180 (a := 0) (b := 10) (bq_3 bwX11_waits_64 8 (by decide +kernel)) rfl
theorem dX11_waits_75 : decode cX11_waits 75 = .ok (.iload_n 2, 1) := bq_o28 (bq_of bwX11_waits_64 11 (by decide +kernel))
theorem dX11_waits_76 : decode cX11_waits 76 = .ok (.invokevirtual 240, 3) := bq_o182 (a := 0) (b := 240) (bq_3 bwX11_waits_64 12 (by decide +kernel)) rfl
theorem dX11_waits_79 : decode cX11_waits 79 = .ok (.ireturn, 1) := bq_o172 (bq_of bwX11_waits_64 15 (by decide +kernel))
def bwX11_least_0l : List Nat := [27, 153, 0, 15, 27, 4, 159, 0, 10, 42, 16, 254, 182, 0, 58, 172, 42, 180, 0, 25, 42, 180, 0, 10, 182, 0, 128, 42, 180, 0, 32, 42, 180, 0, 10, 42, 180, 0, 25, 182, 0, 244, 27, 154, 0, 13, 42, 180, 0, 32, 182, 0, 248, 167, 0, 10, 42, 180, 0, 32, 182, 0, 251, 172]
theorem bwX11_least_0 : ((cX11_least.data.toList.drop 0).take 64).map UInt8.toNat = bwX11_least_0l := by decide +kernel
theorem dX11_least_0 : decode cX11_least 0 = .ok (.iload_n 1, 1) := bq_o27 (bq_of bwX11_least_0 0 (by decide +kernel))
theorem dX11_least_1 : decode cX11_least 1 = .ok (.ifCond .eq 15, 3) := bq_o153 (a := 0) (b := 15) (bq_3 bwX11_least_0 1 (by decide +kernel)) (by decide +kernel)
theorem dX11_least_4 : decode cX11_least 4 = .ok (.iload_n 1, 1) := bq_o27 (bq_of bwX11_least_0 4 (by decide +kernel))
theorem dX11_least_5 : decode cX11_least 5 = .ok (.iconst 1, 1) := bq_o4 (bq_of bwX11_least_0 5 (by decide +kernel))
theorem dX11_least_6 : decode cX11_least 6 = .ok (.if_icmp .eq 10, 3) := bq_o159 (a := 0) (b := 10) (bq_3 bwX11_least_0 6 (by decide +kernel)) (by decide +kernel)
theorem dX11_least_9 : decode cX11_least 9 = .ok (.aload_n 0, 1) := bq_o42 (bq_of bwX11_least_0 9 (by decide +kernel))
theorem dX11_least_10 : decode cX11_least 10 = .ok (.bipush (-2), 2) := bq_o16 (a := 254) (bq_2 bwX11_least_0 10 (by decide +kernel)) (by decide +kernel)
theorem dX11_least_12 : decode cX11_least 12 = .ok (.invokevirtual 58, 3) := bq_o182 (a := 0) (b := 58) (bq_3 bwX11_least_0 12 (by decide +kernel)) rfl
theorem dX11_least_15 : decode cX11_least 15 = .ok (.ireturn, 1) := bq_o172 (bq_of bwX11_least_0 15 (by decide +kernel))
theorem dX11_least_16 : decode cX11_least 16 = .ok (.aload_n 0, 1) := bq_o42 (bq_of bwX11_least_0 16 (by decide +kernel))
theorem dX11_least_17 : decode cX11_least 17 = .ok (.getfield 25, 3) := bq_o180 (a := 0) (b := 25) (bq_3 bwX11_least_0 17 (by decide +kernel)) rfl
theorem dX11_least_20 : decode cX11_least 20 = .ok (.aload_n 0, 1) := bq_o42 (bq_of bwX11_least_0 20 (by decide +kernel))
theorem dX11_least_21 : decode cX11_least 21 = .ok (.getfield 10, 3) := bq_o180 (a := 0) (b := 10) (bq_3 bwX11_least_0 21 (by decide +kernel)) rfl
theorem dX11_least_24 : decode cX11_least 24 = .ok (.invokevirtual 128, 3) := bq_o182 (a := 0) (b := 128) (bq_3 bwX11_least_0 24 (by decide +kernel)) rfl
theorem dX11_least_27 : decode cX11_least 27 = .ok (.aload_n 0, 1) := bq_o42 (bq_of bwX11_least_0 27 (by decide +kernel))
theorem dX11_least_28 : decode cX11_least 28 = .ok (.getfield 32, 3) := bq_o180 (a := 0) (b := 32) (bq_3 bwX11_least_0 28 (by decide +kernel)) rfl
theorem dX11_least_31 : decode cX11_least 31 = .ok (.aload_n 0, 1) := bq_o42 (bq_of bwX11_least_0 31 (by decide +kernel))
theorem dX11_least_32 : decode cX11_least 32 = .ok (.getfield 10, 3) := bq_o180 (a := 0) (b := 10) (bq_3 bwX11_least_0 32 (by decide +kernel)) rfl
theorem dX11_least_35 : decode cX11_least 35 = .ok (.aload_n 0, 1) := bq_o42 (bq_of bwX11_least_0 35 (by decide +kernel))
theorem dX11_least_36 : decode cX11_least 36 = .ok (.getfield 25, 3) := bq_o180 (a := 0) (b := 25) (bq_3 bwX11_least_0 36 (by decide +kernel)) rfl
theorem dX11_least_39 : decode cX11_least 39 = .ok (.invokevirtual 244, 3) := bq_o182 (a := 0) (b := 244) (bq_3 bwX11_least_0 39 (by decide +kernel)) rfl
theorem dX11_least_42 : decode cX11_least 42 = .ok (.iload_n 1, 1) := bq_o27 (bq_of bwX11_least_0 42 (by decide +kernel))
theorem dX11_least_43 : decode cX11_least 43 = .ok (.ifCond .ne 13, 3) := bq_o154 (a := 0) (b := 13) (bq_3 bwX11_least_0 43 (by decide +kernel)) (by decide +kernel)
theorem dX11_least_46 : decode cX11_least 46 = .ok (.aload_n 0, 1) := bq_o42 (bq_of bwX11_least_0 46 (by decide +kernel))
theorem dX11_least_47 : decode cX11_least 47 = .ok (.getfield 32, 3) := bq_o180 (a := 0) (b := 32) (bq_3 bwX11_least_0 47 (by decide +kernel)) rfl
theorem dX11_least_50 : decode cX11_least 50 = .ok (.invokevirtual 248, 3) := bq_o182 (a := 0) (b := 248) (bq_3 bwX11_least_0 50 (by decide +kernel)) rfl
theorem dX11_least_53 : decode cX11_least 53 = .ok (.goto 10, 3) := bq_o167 (a := 0) (b := 10) (bq_3 bwX11_least_0 53 (by decide +kernel)) (by decide +kernel)
theorem dX11_least_56 : decode cX11_least 56 = .ok (.aload_n 0, 1) := bq_o42 (bq_of bwX11_least_0 56 (by decide +kernel))
theorem dX11_least_57 : decode cX11_least 57 = .ok (.getfield 32, 3) := bq_o180 (a := 0) (b := 32) (bq_3 bwX11_least_0 57 (by decide +kernel)) rfl
theorem dX11_least_60 : decode cX11_least 60 = .ok (.invokevirtual 251, 3) := bq_o182 (a := 0) (b := 251) (bq_3 bwX11_least_0 60 (by decide +kernel)) rfl
theorem dX11_least_63 : decode cX11_least 63 = .ok (.ireturn, 1) := bq_o172 (bq_of bwX11_least_0 63 (by decide +kernel))
def bwX11_head_0l : List Nat := [2, 60, 3, 61, 3, 62, 29, 16, 8, 162, 0, 60, 42, 180, 0, 45, 29, 50, 180, 0, 84, 58, 4, 25, 4, 198, 0, 38, 42, 25, 4, 182, 0, 225, 42, 180, 0, 32, 42, 180, 0, 10, 182, 0, 237, 54, 5, 27, 2, 159, 0, 9, 21, 5, 28, 162, 0, 8, 29, 60, 21, 5, 61, 132, 3, 1]
theorem bwX11_head_0 : ((cX11_head.data.toList.drop 0).take 66).map UInt8.toNat = bwX11_head_0l := by decide +kernel
theorem dX11_head_0 : decode cX11_head 0 = .ok (.iconst (-1), 1) := bq_o2 (bq_of bwX11_head_0 0 (by decide +kernel))
theorem dX11_head_1 : decode cX11_head 1 = .ok (.istore_n 1, 1) := bq_o60 (bq_of bwX11_head_0 1 (by decide +kernel))
theorem dX11_head_2 : decode cX11_head 2 = .ok (.iconst 0, 1) := bq_o3 (bq_of bwX11_head_0 2 (by decide +kernel))
theorem dX11_head_3 : decode cX11_head 3 = .ok (.istore_n 2, 1) := bq_o61 (bq_of bwX11_head_0 3 (by decide +kernel))
theorem dX11_head_4 : decode cX11_head 4 = .ok (.iconst 0, 1) := bq_o3 (bq_of bwX11_head_0 4 (by decide +kernel))
theorem dX11_head_5 : decode cX11_head 5 = .ok (.istore_n 3, 1) := bq_o62 (bq_of bwX11_head_0 5 (by decide +kernel))
theorem dX11_head_6 : decode cX11_head 6 = .ok (.iload_n 3, 1) := bq_o29 (bq_of bwX11_head_0 6 (by decide +kernel))
theorem dX11_head_7 : decode cX11_head 7 = .ok (.bipush 8, 2) := bq_o16 (a := 8) (bq_2 bwX11_head_0 7 (by decide +kernel)) (by decide +kernel)
theorem dX11_head_9 : decode cX11_head 9 = .ok (.if_icmp .ge 60, 3) := bq_o162 (a := 0) (b := 60) (bq_3 bwX11_head_0 9 (by decide +kernel)) (by decide +kernel)
theorem dX11_head_12 : decode cX11_head 12 = .ok (.aload_n 0, 1) := bq_o42 (bq_of bwX11_head_0 12 (by decide +kernel))
theorem dX11_head_13 : decode cX11_head 13 = .ok (.getfield 45, 3) := bq_o180 (a := 0) (b := 45) (bq_3 bwX11_head_0 13 (by decide +kernel)) rfl
theorem dX11_head_16 : decode cX11_head 16 = .ok (.iload_n 3, 1) := bq_o29 (bq_of bwX11_head_0 16 (by decide +kernel))
theorem dX11_head_17 : decode cX11_head 17 = .ok (.aaload, 1) := bq_o50 (bq_of bwX11_head_0 17 (by decide +kernel))
theorem dX11_head_18 : decode cX11_head 18 = .ok (.getfield 84, 3) := bq_o180 (a := 0) (b := 84) (bq_3 bwX11_head_0 18 (by decide +kernel)) rfl
theorem dX11_head_21 : decode cX11_head 21 = .ok (.astore 4, 2) := bq_o58 (a := 4) (bq_2 bwX11_head_0 21 (by decide +kernel)) rfl
theorem dX11_head_23 : decode cX11_head 23 = .ok (.aload 4, 2) := bq_o25 (a := 4) (bq_2 bwX11_head_0 23 (by decide +kernel)) rfl
theorem dX11_head_25 : decode cX11_head 25 = .ok (.ifnull 38, 3) := bq_o198 (a := 0) (b := 38) (bq_3 bwX11_head_0 25 (by decide +kernel)) (by decide +kernel)
theorem dX11_head_28 : decode cX11_head 28 = .ok (.aload_n 0, 1) := bq_o42 (bq_of bwX11_head_0 28 (by decide +kernel))
theorem dX11_head_29 : decode cX11_head 29 = .ok (.aload 4, 2) := bq_o25 (a := 4) (bq_2 bwX11_head_0 29 (by decide +kernel)) rfl
theorem dX11_head_31 : decode cX11_head 31 = .ok (.invokevirtual 225, 3) := bq_o182 (a := 0) (b := 225) (bq_3 bwX11_head_0 31 (by decide +kernel)) rfl
theorem dX11_head_34 : decode cX11_head 34 = .ok (.aload_n 0, 1) := bq_o42 (bq_of bwX11_head_0 34 (by decide +kernel))
theorem dX11_head_35 : decode cX11_head 35 = .ok (.getfield 32, 3) := bq_o180 (a := 0) (b := 32) (bq_3 bwX11_head_0 35 (by decide +kernel)) rfl
theorem dX11_head_38 : decode cX11_head 38 = .ok (.aload_n 0, 1) := bq_o42 (bq_of bwX11_head_0 38 (by decide +kernel))
theorem dX11_head_39 : decode cX11_head 39 = .ok (.getfield 10, 3) := bq_o180 (a := 0) (b := 10) (bq_3 bwX11_head_0 39 (by decide +kernel)) rfl
theorem dX11_head_42 : decode cX11_head 42 = .ok (.invokevirtual 237, 3) := bq_o182 (a := 0) (b := 237) (bq_3 bwX11_head_0 42 (by decide +kernel)) rfl
theorem dX11_head_45 : decode cX11_head 45 = .ok (.istore 5, 2) := bq_o54 (a := 5) (bq_2 bwX11_head_0 45 (by decide +kernel)) rfl
theorem dX11_head_47 : decode cX11_head 47 = .ok (.iload_n 1, 1) := bq_o27 (bq_of bwX11_head_0 47 (by decide +kernel))
theorem dX11_head_48 : decode cX11_head 48 = .ok (.iconst (-1), 1) := bq_o2 (bq_of bwX11_head_0 48 (by decide +kernel))
theorem dX11_head_49 : decode cX11_head 49 = .ok (.if_icmp .eq 9, 3) := bq_o159 (a := 0) (b := 9) (bq_3 bwX11_head_0 49 (by decide +kernel)) (by decide +kernel)
theorem dX11_head_52 : decode cX11_head 52 = .ok (.iload 5, 2) := bq_o21 (a := 5) (bq_2 bwX11_head_0 52 (by decide +kernel)) rfl
theorem dX11_head_54 : decode cX11_head 54 = .ok (.iload_n 2, 1) := bq_o28 (bq_of bwX11_head_0 54 (by decide +kernel))
theorem dX11_head_55 : decode cX11_head 55 = .ok (.if_icmp .ge 8, 3) := bq_o162 (a := 0) (b := 8) (bq_3 bwX11_head_0 55 (by decide +kernel)) (by decide +kernel)
theorem dX11_head_58 : decode cX11_head 58 = .ok (.iload_n 3, 1) := bq_o29 (bq_of bwX11_head_0 58 (by decide +kernel))
theorem dX11_head_59 : decode cX11_head 59 = .ok (.istore_n 1, 1) := bq_o60 (bq_of bwX11_head_0 59 (by decide +kernel))
theorem dX11_head_60 : decode cX11_head 60 = .ok (.iload 5, 2) := bq_o21 (a := 5) (bq_2 bwX11_head_0 60 (by decide +kernel)) rfl
theorem dX11_head_62 : decode cX11_head 62 = .ok (.istore_n 2, 1) := bq_o61 (bq_of bwX11_head_0 62 (by decide +kernel))
theorem dX11_head_63 : decode cX11_head 63 = .ok (.iinc 3 1, 3) := bq_o132 (a := 3) (b := 1) (bq_3 bwX11_head_0 63 (by decide +kernel)) rfl (by decide +kernel)
def bwX11_head_64l : List Nat := [3, 1, 167, 255, 196, 27, 2, 160, 0, 12, 42, 16, 251, 182, 0, 58, 167, 0, 4, 27, 172]
theorem bwX11_head_64 : ((cX11_head.data.toList.drop 64).take 21).map UInt8.toNat = bwX11_head_64l := by decide +kernel
theorem dX11_head_66 : decode cX11_head 66 = .ok (.goto (-60), 3) := bq_o167 (a := 255) (b := 196) (bq_3 bwX11_head_64 2 (by decide +kernel)) (by decide +kernel)
theorem dX11_head_69 : decode cX11_head 69 = .ok (.iload_n 1, 1) := bq_o27 (bq_of bwX11_head_64 5 (by decide +kernel))
theorem dX11_head_70 : decode cX11_head 70 = .ok (.iconst (-1), 1) := bq_o2 (bq_of bwX11_head_64 6 (by decide +kernel))
theorem dX11_head_71 : decode cX11_head 71 = .ok (.if_icmp .ne 12, 3) := bq_o160 (a := 0) (b := 12) (bq_3 bwX11_head_64 7 (by decide +kernel)) (by decide +kernel)
theorem dX11_head_74 : decode cX11_head 74 = .ok (.aload_n 0, 1) := bq_o42 (bq_of bwX11_head_64 10 (by decide +kernel))
theorem dX11_head_75 : decode cX11_head 75 = .ok (.bipush (-5), 2) := bq_o16 (a := 251) (bq_2 bwX11_head_64 11 (by decide +kernel)) (by decide +kernel)
theorem dX11_head_77 : decode cX11_head 77 = .ok (.invokevirtual 58, 3) := bq_o182 (a := 0) (b := 58) (bq_3 bwX11_head_64 13 (by decide +kernel)) rfl
theorem dX11_head_80 : decode cX11_head 80 = .ok (.goto 4, 3) := bq_o167 (a := 0) (b := 4) (bq_3 bwX11_head_64 16 (by decide +kernel)) (by decide +kernel)
theorem dX11_head_83 : decode cX11_head 83 = .ok (.iload_n 1, 1) := bq_o27 (bq_of bwX11_head_64 19 (by decide +kernel))
theorem dX11_head_84 : decode cX11_head 84 = .ok (.ireturn, 1) := bq_o172 (bq_of bwX11_head_64 20 (by decide +kernel))
def bwX11_days_0l : List Nat := [42, 27, 182, 0, 115, 77, 44, 199, 0, 13, 42, 42, 27, 182, 0, 119, 182, 0, 58, 172, 42, 180, 0, 25, 42, 180, 0, 10, 182, 0, 128, 3, 62, 29, 16, 30, 162, 0, 74, 42, 180, 0, 32, 42, 180, 0, 10, 42, 180, 0, 25, 44, 182, 0, 254, 42, 180, 0, 32, 180, 0, 228, 154, 0, 5, 29]
theorem bwX11_days_0 : ((cX11_days.data.toList.drop 0).take 66).map UInt8.toNat = bwX11_days_0l := by decide +kernel
theorem dX11_days_0 : decode cX11_days 0 = .ok (.aload_n 0, 1) := bq_o42 (bq_of bwX11_days_0 0 (by decide +kernel))
theorem dX11_days_1 : decode cX11_days 1 = .ok (.iload_n 1, 1) := bq_o27 (bq_of bwX11_days_0 1 (by decide +kernel))
theorem dX11_days_2 : decode cX11_days 2 = .ok (.invokevirtual 115, 3) := bq_o182 (a := 0) (b := 115) (bq_3 bwX11_days_0 2 (by decide +kernel)) rfl
theorem dX11_days_5 : decode cX11_days 5 = .ok (.astore_n 2, 1) := bq_o77 (bq_of bwX11_days_0 5 (by decide +kernel))
theorem dX11_days_6 : decode cX11_days 6 = .ok (.aload_n 2, 1) := bq_o44 (bq_of bwX11_days_0 6 (by decide +kernel))
theorem dX11_days_7 : decode cX11_days 7 = .ok (.ifnonnull 13, 3) := bq_o199 (a := 0) (b := 13) (bq_3 bwX11_days_0 7 (by decide +kernel)) (by decide +kernel)
theorem dX11_days_10 : decode cX11_days 10 = .ok (.aload_n 0, 1) := bq_o42 (bq_of bwX11_days_0 10 (by decide +kernel))
theorem dX11_days_11 : decode cX11_days 11 = .ok (.aload_n 0, 1) := bq_o42 (bq_of bwX11_days_0 11 (by decide +kernel))
theorem dX11_days_12 : decode cX11_days 12 = .ok (.iload_n 1, 1) := bq_o27 (bq_of bwX11_days_0 12 (by decide +kernel))
theorem dX11_days_13 : decode cX11_days 13 = .ok (.invokevirtual 119, 3) := bq_o182 (a := 0) (b := 119) (bq_3 bwX11_days_0 13 (by decide +kernel)) rfl
theorem dX11_days_16 : decode cX11_days 16 = .ok (.invokevirtual 58, 3) := bq_o182 (a := 0) (b := 58) (bq_3 bwX11_days_0 16 (by decide +kernel)) rfl
theorem dX11_days_19 : decode cX11_days 19 = .ok (.ireturn, 1) := bq_o172 (bq_of bwX11_days_0 19 (by decide +kernel))
theorem dX11_days_20 : decode cX11_days 20 = .ok (.aload_n 0, 1) := bq_o42 (bq_of bwX11_days_0 20 (by decide +kernel))
theorem dX11_days_21 : decode cX11_days 21 = .ok (.getfield 25, 3) := bq_o180 (a := 0) (b := 25) (bq_3 bwX11_days_0 21 (by decide +kernel)) rfl
theorem dX11_days_24 : decode cX11_days 24 = .ok (.aload_n 0, 1) := bq_o42 (bq_of bwX11_days_0 24 (by decide +kernel))
theorem dX11_days_25 : decode cX11_days 25 = .ok (.getfield 10, 3) := bq_o180 (a := 0) (b := 10) (bq_3 bwX11_days_0 25 (by decide +kernel)) rfl
theorem dX11_days_28 : decode cX11_days 28 = .ok (.invokevirtual 128, 3) := bq_o182 (a := 0) (b := 128) (bq_3 bwX11_days_0 28 (by decide +kernel)) rfl
theorem dX11_days_31 : decode cX11_days 31 = .ok (.iconst 0, 1) := bq_o3 (bq_of bwX11_days_0 31 (by decide +kernel))
theorem dX11_days_32 : decode cX11_days 32 = .ok (.istore_n 3, 1) := bq_o62 (bq_of bwX11_days_0 32 (by decide +kernel))
theorem dX11_days_33 : decode cX11_days 33 = .ok (.iload_n 3, 1) := bq_o29 (bq_of bwX11_days_0 33 (by decide +kernel))
theorem dX11_days_34 : decode cX11_days 34 = .ok (.bipush 30, 2) := bq_o16 (a := 30) (bq_2 bwX11_days_0 34 (by decide +kernel)) (by decide +kernel)
theorem dX11_days_36 : decode cX11_days 36 = .ok (.if_icmp .ge 74, 3) := bq_o162 (a := 0) (b := 74) (bq_3 bwX11_days_0 36 (by decide +kernel)) (by decide +kernel)
theorem dX11_days_39 : decode cX11_days 39 = .ok (.aload_n 0, 1) := bq_o42 (bq_of bwX11_days_0 39 (by decide +kernel))
theorem dX11_days_40 : decode cX11_days 40 = .ok (.getfield 32, 3) := bq_o180 (a := 0) (b := 32) (bq_3 bwX11_days_0 40 (by decide +kernel)) rfl
theorem dX11_days_43 : decode cX11_days 43 = .ok (.aload_n 0, 1) := bq_o42 (bq_of bwX11_days_0 43 (by decide +kernel))
theorem dX11_days_44 : decode cX11_days 44 = .ok (.getfield 10, 3) := bq_o180 (a := 0) (b := 10) (bq_3 bwX11_days_0 44 (by decide +kernel)) rfl
theorem dX11_days_47 : decode cX11_days 47 = .ok (.aload_n 0, 1) := bq_o42 (bq_of bwX11_days_0 47 (by decide +kernel))
theorem dX11_days_48 : decode cX11_days 48 = .ok (.getfield 25, 3) := bq_o180 (a := 0) (b := 25) (bq_3 bwX11_days_0 48 (by decide +kernel)) rfl
theorem dX11_days_51 : decode cX11_days 51 = .ok (.aload_n 2, 1) := bq_o44 (bq_of bwX11_days_0 51 (by decide +kernel))
theorem dX11_days_52 : decode cX11_days 52 = .ok (.invokevirtual 254, 3) := bq_o182 (a := 0) (b := 254) (bq_3 bwX11_days_0 52 (by decide +kernel)) rfl
theorem dX11_days_55 : decode cX11_days 55 = .ok (.aload_n 0, 1) := bq_o42 (bq_of bwX11_days_0 55 (by decide +kernel))
theorem dX11_days_56 : decode cX11_days 56 = .ok (.getfield 32, 3) := bq_o180 (a := 0) (b := 32) (bq_3 bwX11_days_0 56 (by decide +kernel)) rfl
theorem dX11_days_59 : decode cX11_days 59 = .ok (.getfield 228, 3) := bq_o180 (a := 0) (b := 228) (bq_3 bwX11_days_0 59 (by decide +kernel)) rfl
theorem dX11_days_62 : decode cX11_days 62 = .ok (.ifCond .ne 5, 3) := bq_o154 (a := 0) (b := 5) (bq_3 bwX11_days_0 62 (by decide +kernel)) (by decide +kernel)
def bwX11_days_64l : List Nat := [5, 29, 172, 3, 54, 4, 21, 4, 42, 180, 0, 32, 180, 0, 228, 162, 0, 25, 42, 180, 0, 25, 42, 180, 0, 32, 21, 4, 182, 0, 231, 182, 1, 2, 132, 4, 1, 167, 255, 225, 132, 3, 1, 167, 255, 182, 16, 30, 172]
theorem bwX11_days_64 : ((cX11_days.data.toList.drop 64).take 49).map UInt8.toNat = bwX11_days_64l := by decide +kernel
theorem dX11_days_65 : decode cX11_days 65 = .ok (.iload_n 3, 1) := bq_o29 (bq_of bwX11_days_64 1 (by decide +kernel))
theorem dX11_days_66 : decode cX11_days 66 = .ok (.ireturn, 1) := bq_o172 (bq_of bwX11_days_64 2 (by decide +kernel))
theorem dX11_days_67 : decode cX11_days 67 = .ok (.iconst 0, 1) := bq_o3 (bq_of bwX11_days_64 3 (by decide +kernel))
theorem dX11_days_68 : decode cX11_days 68 = .ok (.istore 4, 2) := bq_o54 (a := 4) (bq_2 bwX11_days_64 4 (by decide +kernel)) rfl
theorem dX11_days_70 : decode cX11_days 70 = .ok (.iload 4, 2) := bq_o21 (a := 4) (bq_2 bwX11_days_64 6 (by decide +kernel)) rfl
theorem dX11_days_72 : decode cX11_days 72 = .ok (.aload_n 0, 1) := bq_o42 (bq_of bwX11_days_64 8 (by decide +kernel))
theorem dX11_days_73 : decode cX11_days 73 = .ok (.getfield 32, 3) := bq_o180 (a := 0) (b := 32) (bq_3 bwX11_days_64 9 (by decide +kernel)) rfl
theorem dX11_days_76 : decode cX11_days 76 = .ok (.getfield 228, 3) := bq_o180 (a := 0) (b := 228) (bq_3 bwX11_days_64 12 (by decide +kernel)) rfl
theorem dX11_days_79 : decode cX11_days 79 = .ok (.if_icmp .ge 25, 3) := bq_o162 (a := 0) (b := 25) (bq_3 bwX11_days_64 15 (by decide +kernel)) (by decide +kernel)
theorem dX11_days_82 : decode cX11_days 82 = .ok (.aload_n 0, 1) := bq_o42 (bq_of bwX11_days_64 18 (by decide +kernel))
theorem dX11_days_83 : decode cX11_days 83 = .ok (.getfield 25, 3) := bq_o180 (a := 0) (b := 25) (bq_3 bwX11_days_64 19 (by decide +kernel)) rfl
theorem dX11_days_86 : decode cX11_days 86 = .ok (.aload_n 0, 1) := bq_o42 (bq_of bwX11_days_64 22 (by decide +kernel))
theorem dX11_days_87 : decode cX11_days 87 = .ok (.getfield 32, 3) := bq_o180 (a := 0) (b := 32) (bq_3 bwX11_days_64 23 (by decide +kernel)) rfl
theorem dX11_days_90 : decode cX11_days 90 = .ok (.iload 4, 2) := bq_o21 (a := 4) (bq_2 bwX11_days_64 26 (by decide +kernel)) rfl
theorem dX11_days_92 : decode cX11_days 92 = .ok (.invokevirtual 231, 3) := bq_o182 (a := 0) (b := 231) (bq_3 bwX11_days_64 28 (by decide +kernel)) rfl
theorem dX11_days_95 : decode cX11_days 95 = .ok (.invokevirtual 258, 3) := bq_o182 (a := 1) (b := 2) (bq_3 bwX11_days_64 31 (by decide +kernel)) rfl
theorem dX11_days_98 : decode cX11_days 98 = .ok (.iinc 4 1, 3) := bq_o132 (a := 4) (b := 1) (bq_3 bwX11_days_64 34 (by decide +kernel)) rfl (by decide +kernel)
theorem dX11_days_101 : decode cX11_days 101 = .ok (.goto (-31), 3) := bq_o167 (a := 255) (b := 225) (bq_3 bwX11_days_64 37 (by decide +kernel)) (by decide +kernel)
theorem dX11_days_104 : decode cX11_days 104 = .ok (.iinc 3 1, 3) := bq_o132 (a := 3) (b := 1) (bq_3 bwX11_days_64 40 (by decide +kernel)) rfl (by decide +kernel)
theorem dX11_days_107 : decode cX11_days 107 = .ok (.goto (-74), 3) := bq_o167 (a := 255) (b := 182) (bq_3 bwX11_days_64 43 (by decide +kernel)) (by decide +kernel)
theorem dX11_days_110 : decode cX11_days 110 = .ok (.bipush 30, 2) := bq_o16 (a := 30) (bq_2 bwX11_days_64 46 (by decide +kernel)) (by decide +kernel)
theorem dX11_days_112 : decode cX11_days 112 = .ok (.ireturn, 1) := bq_o172 (bq_of bwX11_days_64 48 (by decide +kernel))
theorem dX11_ever_0 : decode cX11_ever 0 = .ok (.iload_n 1, 1) := by decide +kernel
theorem dX11_ever_1 : decode cX11_ever 1 = .ok (.ifCond .eq 15, 3) := by decide +kernel
theorem dX11_ever_4 : decode cX11_ever 4 = .ok (.iload_n 1, 1) := by decide +kernel
theorem dX11_ever_5 : decode cX11_ever 5 = .ok (.iconst 1, 1) := by decide +kernel
theorem dX11_ever_6 : decode cX11_ever 6 = .ok (.if_icmp .eq 10, 3) := by decide +kernel
theorem dX11_ever_9 : decode cX11_ever 9 = .ok (.aload_n 0, 1) := by decide +kernel
theorem dX11_ever_10 : decode cX11_ever 10 = .ok (.bipush (-2), 2) := by decide +kernel
theorem dX11_ever_12 : decode cX11_ever 12 = .ok (.invokevirtual 58, 3) := by decide +kernel
theorem dX11_ever_15 : decode cX11_ever 15 = .ok (.ireturn, 1) := by decide +kernel
theorem dX11_ever_16 : decode cX11_ever 16 = .ok (.aload_n 0, 1) := by decide +kernel
theorem dX11_ever_17 : decode cX11_ever 17 = .ok (.getfield 25, 3) := by decide +kernel
theorem dX11_ever_20 : decode cX11_ever 20 = .ok (.aload_n 0, 1) := by decide +kernel
theorem dX11_ever_21 : decode cX11_ever 21 = .ok (.getfield 10, 3) := by decide +kernel
theorem dX11_ever_24 : decode cX11_ever 24 = .ok (.invokevirtual 128, 3) := by decide +kernel
theorem dX11_ever_27 : decode cX11_ever 27 = .ok (.iload_n 1, 1) := by decide +kernel
theorem dX11_ever_28 : decode cX11_ever 28 = .ok (.ifCond .ne 13, 3) := by decide +kernel
theorem dX11_ever_31 : decode cX11_ever 31 = .ok (.aload_n 0, 1) := by decide +kernel
theorem dX11_ever_32 : decode cX11_ever 32 = .ok (.getfield 25, 3) := by decide +kernel
theorem dX11_ever_35 : decode cX11_ever 35 = .ok (.invokevirtual 261, 3) := by decide +kernel
theorem dX11_ever_38 : decode cX11_ever 38 = .ok (.goto 10, 3) := by decide +kernel
theorem dX11_ever_41 : decode cX11_ever 41 = .ok (.aload_n 0, 1) := by decide +kernel
theorem dX11_ever_42 : decode cX11_ever 42 = .ok (.getfield 25, 3) := by decide +kernel
theorem dX11_ever_45 : decode cX11_ever 45 = .ok (.invokevirtual 264, 3) := by decide +kernel
theorem dX11_ever_48 : decode cX11_ever 48 = .ok (.ireturn, 1) := by decide +kernel
def bwX11_hire_0l : List Nat := [42, 180, 0, 25, 42, 180, 0, 10, 182, 0, 128, 42, 180, 0, 25, 42, 180, 0, 10, 182, 0, 132, 182, 0, 219, 60, 42, 180, 0, 25, 182, 1, 11, 42, 180, 0, 25, 42, 180, 0, 10, 182, 0, 132, 4, 42, 180, 0, 10, 180, 0, 145, 120, 128, 182, 0, 219, 27, 100, 172]
theorem bwX11_hire_0 : ((cX11_hire.data.toList.drop 0).take 60).map UInt8.toNat = bwX11_hire_0l := by decide +kernel
theorem dX11_hire_0 : decode cX11_hire 0 = .ok (.aload_n 0, 1) := bq_o42 (bq_of bwX11_hire_0 0 (by decide +kernel))
theorem dX11_hire_1 : decode cX11_hire 1 = .ok (.getfield 25, 3) := bq_o180 (a := 0) (b := 25) (bq_3 bwX11_hire_0 1 (by decide +kernel)) rfl
theorem dX11_hire_4 : decode cX11_hire 4 = .ok (.aload_n 0, 1) := bq_o42 (bq_of bwX11_hire_0 4 (by decide +kernel))
theorem dX11_hire_5 : decode cX11_hire 5 = .ok (.getfield 10, 3) := bq_o180 (a := 0) (b := 10) (bq_3 bwX11_hire_0 5 (by decide +kernel)) rfl
theorem dX11_hire_8 : decode cX11_hire 8 = .ok (.invokevirtual 128, 3) := bq_o182 (a := 0) (b := 128) (bq_3 bwX11_hire_0 8 (by decide +kernel)) rfl
theorem dX11_hire_11 : decode cX11_hire 11 = .ok (.aload_n 0, 1) := bq_o42 (bq_of bwX11_hire_0 11 (by decide +kernel))
theorem dX11_hire_12 : decode cX11_hire 12 = .ok (.getfield 25, 3) := bq_o180 (a := 0) (b := 25) (bq_3 bwX11_hire_0 12 (by decide +kernel)) rfl
theorem dX11_hire_15 : decode cX11_hire 15 = .ok (.aload_n 0, 1) := bq_o42 (bq_of bwX11_hire_0 15 (by decide +kernel))
theorem dX11_hire_16 : decode cX11_hire 16 = .ok (.getfield 10, 3) := bq_o180 (a := 0) (b := 10) (bq_3 bwX11_hire_0 16 (by decide +kernel)) rfl
theorem dX11_hire_19 : decode cX11_hire 19 = .ok (.invokevirtual 132, 3) := bq_o182 (a := 0) (b := 132) (bq_3 bwX11_hire_0 19 (by decide +kernel)) rfl
theorem dX11_hire_22 : decode cX11_hire 22 = .ok (.invokevirtual 219, 3) := bq_o182 (a := 0) (b := 219) (bq_3 bwX11_hire_0 22 (by decide +kernel)) rfl
theorem dX11_hire_25 : decode cX11_hire 25 = .ok (.istore_n 1, 1) := bq_o60 (bq_of bwX11_hire_0 25 (by decide +kernel))
theorem dX11_hire_26 : decode cX11_hire 26 = .ok (.aload_n 0, 1) := bq_o42 (bq_of bwX11_hire_0 26 (by decide +kernel))
theorem dX11_hire_27 : decode cX11_hire 27 = .ok (.getfield 25, 3) := bq_o180 (a := 0) (b := 25) (bq_3 bwX11_hire_0 27 (by decide +kernel)) rfl
theorem dX11_hire_30 : decode cX11_hire 30 = .ok (.invokevirtual 267, 3) := bq_o182 (a := 1) (b := 11) (bq_3 bwX11_hire_0 30 (by decide +kernel)) rfl
theorem dX11_hire_33 : decode cX11_hire 33 = .ok (.aload_n 0, 1) := bq_o42 (bq_of bwX11_hire_0 33 (by decide +kernel))
theorem dX11_hire_34 : decode cX11_hire 34 = .ok (.getfield 25, 3) := bq_o180 (a := 0) (b := 25) (bq_3 bwX11_hire_0 34 (by decide +kernel)) rfl
theorem dX11_hire_37 : decode cX11_hire 37 = .ok (.aload_n 0, 1) := bq_o42 (bq_of bwX11_hire_0 37 (by decide +kernel))
theorem dX11_hire_38 : decode cX11_hire 38 = .ok (.getfield 10, 3) := bq_o180 (a := 0) (b := 10) (bq_3 bwX11_hire_0 38 (by decide +kernel)) rfl
theorem dX11_hire_41 : decode cX11_hire 41 = .ok (.invokevirtual 132, 3) := bq_o182 (a := 0) (b := 132) (bq_3 bwX11_hire_0 41 (by decide +kernel)) rfl
theorem dX11_hire_44 : decode cX11_hire 44 = .ok (.iconst 1, 1) := bq_o4 (bq_of bwX11_hire_0 44 (by decide +kernel))
theorem dX11_hire_45 : decode cX11_hire 45 = .ok (.aload_n 0, 1) := bq_o42 (bq_of bwX11_hire_0 45 (by decide +kernel))
theorem dX11_hire_46 : decode cX11_hire 46 = .ok (.getfield 10, 3) := bq_o180 (a := 0) (b := 10) (bq_3 bwX11_hire_0 46 (by decide +kernel)) rfl
theorem dX11_hire_49 : decode cX11_hire 49 = .ok (.getfield 145, 3) := bq_o180 (a := 0) (b := 145) (bq_3 bwX11_hire_0 49 (by decide +kernel)) rfl
theorem dX11_hire_52 : decode cX11_hire 52 = .ok (.ishl, 1) := bq_o120 (bq_of bwX11_hire_0 52 (by decide +kernel))
theorem dX11_hire_53 : decode cX11_hire 53 = .ok (.ior, 1) := bq_o128 (bq_of bwX11_hire_0 53 (by decide +kernel))
theorem dX11_hire_54 : decode cX11_hire 54 = .ok (.invokevirtual 219, 3) := bq_o182 (a := 0) (b := 219) (bq_3 bwX11_hire_0 54 (by decide +kernel)) rfl
theorem dX11_hire_57 : decode cX11_hire 57 = .ok (.iload_n 1, 1) := bq_o27 (bq_of bwX11_hire_0 57 (by decide +kernel))
theorem dX11_hire_58 : decode cX11_hire 58 = .ok (.isub, 1) := bq_o100 (bq_of bwX11_hire_0 58 (by decide +kernel))
theorem dX11_hire_59 : decode cX11_hire 59 = .ok (.ireturn, 1) := bq_o172 (bq_of bwX11_hire_0 59 (by decide +kernel))
theorem dX11_feast_0 : decode cX11_feast 0 = .ok (.aload_n 0, 1) := by decide +kernel
theorem dX11_feast_1 : decode cX11_feast 1 = .ok (.getfield 10, 3) := by decide +kernel
theorem dX11_feast_4 : decode cX11_feast 4 = .ok (.iload_n 1, 1) := by decide +kernel
theorem dX11_feast_5 : decode cX11_feast 5 = .ok (.invokevirtual 207, 3) := by decide +kernel
theorem dX11_feast_8 : decode cX11_feast 8 = .ok (.ifCond .ne 10, 3) := by decide +kernel
theorem dX11_feast_11 : decode cX11_feast 11 = .ok (.aload_n 0, 1) := by decide +kernel
theorem dX11_feast_12 : decode cX11_feast 12 = .ok (.bipush (-2), 2) := by decide +kernel
theorem dX11_feast_14 : decode cX11_feast 14 = .ok (.invokevirtual 58, 3) := by decide +kernel
theorem dX11_feast_17 : decode cX11_feast 17 = .ok (.ireturn, 1) := by decide +kernel
theorem dX11_feast_18 : decode cX11_feast 18 = .ok (.aload_n 0, 1) := by decide +kernel
theorem dX11_feast_19 : decode cX11_feast 19 = .ok (.getfield 25, 3) := by decide +kernel
theorem dX11_feast_22 : decode cX11_feast 22 = .ok (.aload_n 0, 1) := by decide +kernel
theorem dX11_feast_23 : decode cX11_feast 23 = .ok (.getfield 10, 3) := by decide +kernel
theorem dX11_feast_26 : decode cX11_feast 26 = .ok (.invokevirtual 128, 3) := by decide +kernel
theorem dX11_feast_29 : decode cX11_feast 29 = .ok (.aload_n 0, 1) := by decide +kernel
theorem dX11_feast_30 : decode cX11_feast 30 = .ok (.getfield 25, 3) := by decide +kernel
theorem dX11_feast_33 : decode cX11_feast 33 = .ok (.invokevirtual 261, 3) := by decide +kernel
theorem dX11_feast_36 : decode cX11_feast 36 = .ok (.istore_n 2, 1) := by decide +kernel
theorem dX11_feast_37 : decode cX11_feast 37 = .ok (.aload_n 0, 1) := by decide +kernel
theorem dX11_feast_38 : decode cX11_feast 38 = .ok (.getfield 25, 3) := by decide +kernel
theorem dX11_feast_41 : decode cX11_feast 41 = .ok (.iload_n 1, 1) := by decide +kernel
theorem dX11_feast_42 : decode cX11_feast 42 = .ok (.invokevirtual 258, 3) := by decide +kernel
theorem dX11_feast_45 : decode cX11_feast 45 = .ok (.iload_n 2, 1) := by decide +kernel
theorem dX11_feast_46 : decode cX11_feast 46 = .ok (.aload_n 0, 1) := by decide +kernel
theorem dX11_feast_47 : decode cX11_feast 47 = .ok (.getfield 25, 3) := by decide +kernel
theorem dX11_feast_50 : decode cX11_feast 50 = .ok (.invokevirtual 261, 3) := by decide +kernel
theorem dX11_feast_53 : decode cX11_feast 53 = .ok (.isub, 1) := by decide +kernel
theorem dX11_feast_54 : decode cX11_feast 54 = .ok (.ireturn, 1) := by decide +kernel
theorem dX11_closes_0 : decode cX11_closes 0 = .ok (.aload_n 0, 1) := by decide +kernel
theorem dX11_closes_1 : decode cX11_closes 1 = .ok (.getfield 10, 3) := by decide +kernel
theorem dX11_closes_4 : decode cX11_closes 4 = .ok (.iload_n 1, 1) := by decide +kernel
theorem dX11_closes_5 : decode cX11_closes 5 = .ok (.iload_n 2, 1) := by decide +kernel
theorem dX11_closes_6 : decode cX11_closes 6 = .ok (.invokevirtual 161, 3) := by decide +kernel
theorem dX11_closes_9 : decode cX11_closes 9 = .ok (.ifCond .ne 10, 3) := by decide +kernel
theorem dX11_closes_12 : decode cX11_closes 12 = .ok (.aload_n 0, 1) := by decide +kernel
theorem dX11_closes_13 : decode cX11_closes 13 = .ok (.bipush (-2), 2) := by decide +kernel
theorem dX11_closes_15 : decode cX11_closes 15 = .ok (.invokevirtual 58, 3) := by decide +kernel
theorem dX11_closes_18 : decode cX11_closes 18 = .ok (.ireturn, 1) := by decide +kernel
theorem dX11_closes_19 : decode cX11_closes 19 = .ok (.aload_n 0, 1) := by decide +kernel
theorem dX11_closes_20 : decode cX11_closes 20 = .ok (.getfield 25, 3) := by decide +kernel
theorem dX11_closes_23 : decode cX11_closes 23 = .ok (.aload_n 0, 1) := by decide +kernel
theorem dX11_closes_24 : decode cX11_closes 24 = .ok (.getfield 10, 3) := by decide +kernel
theorem dX11_closes_27 : decode cX11_closes 27 = .ok (.invokevirtual 128, 3) := by decide +kernel
theorem dX11_closes_30 : decode cX11_closes 30 = .ok (.aload_n 0, 1) := by decide +kernel
theorem dX11_closes_31 : decode cX11_closes 31 = .ok (.getfield 25, 3) := by decide +kernel
theorem dX11_closes_34 : decode cX11_closes 34 = .ok (.iconst 1, 1) := by decide +kernel
theorem dX11_closes_35 : decode cX11_closes 35 = .ok (.iload_n 1, 1) := by decide +kernel
theorem dX11_closes_36 : decode cX11_closes 36 = .ok (.ishl, 1) := by decide +kernel
theorem dX11_closes_37 : decode cX11_closes 37 = .ok (.iconst 1, 1) := by decide +kernel
theorem dX11_closes_38 : decode cX11_closes 38 = .ok (.iload_n 2, 1) := by decide +kernel
theorem dX11_closes_39 : decode cX11_closes 39 = .ok (.ishl, 1) := by decide +kernel
theorem dX11_closes_40 : decode cX11_closes 40 = .ok (.ior, 1) := by decide +kernel
theorem dX11_closes_41 : decode cX11_closes 41 = .ok (.invokevirtual 270, 3) := by decide +kernel
theorem dX11_closes_44 : decode cX11_closes 44 = .ok (.ireturn, 1) := by decide +kernel
theorem dX11_worst_0 : decode cX11_worst 0 = .ok (.aload_n 0, 1) := by decide +kernel
theorem dX11_worst_1 : decode cX11_worst 1 = .ok (.getfield 25, 3) := by decide +kernel
theorem dX11_worst_4 : decode cX11_worst 4 = .ok (.aload_n 0, 1) := by decide +kernel
theorem dX11_worst_5 : decode cX11_worst 5 = .ok (.getfield 10, 3) := by decide +kernel
theorem dX11_worst_8 : decode cX11_worst 8 = .ok (.invokevirtual 128, 3) := by decide +kernel
theorem dX11_worst_11 : decode cX11_worst 11 = .ok (.aload_n 0, 1) := by decide +kernel
theorem dX11_worst_12 : decode cX11_worst 12 = .ok (.getfield 25, 3) := by decide +kernel
theorem dX11_worst_15 : decode cX11_worst 15 = .ok (.invokevirtual 273, 3) := by decide +kernel
theorem dX11_worst_18 : decode cX11_worst 18 = .ok (.istore_n 1, 1) := by decide +kernel
theorem dX11_worst_19 : decode cX11_worst 19 = .ok (.iload_n 1, 1) := by decide +kernel
theorem dX11_worst_20 : decode cX11_worst 20 = .ok (.iconst (-1), 1) := by decide +kernel
theorem dX11_worst_21 : decode cX11_worst 21 = .ok (.if_icmp .ne 12, 3) := by decide +kernel
theorem dX11_worst_24 : decode cX11_worst 24 = .ok (.aload_n 0, 1) := by decide +kernel
theorem dX11_worst_25 : decode cX11_worst 25 = .ok (.bipush (-5), 2) := by decide +kernel
theorem dX11_worst_27 : decode cX11_worst 27 = .ok (.invokevirtual 58, 3) := by decide +kernel
theorem dX11_worst_30 : decode cX11_worst 30 = .ok (.goto 4, 3) := by decide +kernel
theorem dX11_worst_33 : decode cX11_worst 33 = .ok (.iload_n 1, 1) := by decide +kernel
theorem dX11_worst_34 : decode cX11_worst 34 = .ok (.ireturn, 1) := by decide +kernel
theorem dX11_fits_0 : decode cX11_fits 0 = .ok (.aload_n 0, 1) := by decide +kernel
theorem dX11_fits_1 : decode cX11_fits 1 = .ok (.iload_n 1, 1) := by decide +kernel
theorem dX11_fits_2 : decode cX11_fits 2 = .ok (.invokevirtual 276, 3) := by decide +kernel
theorem dX11_fits_5 : decode cX11_fits 5 = .ok (.ifCond .ne 10, 3) := by decide +kernel
theorem dX11_fits_8 : decode cX11_fits 8 = .ok (.aload_n 0, 1) := by decide +kernel
theorem dX11_fits_9 : decode cX11_fits 9 = .ok (.bipush (-2), 2) := by decide +kernel
theorem dX11_fits_11 : decode cX11_fits 11 = .ok (.invokevirtual 58, 3) := by decide +kernel
theorem dX11_fits_14 : decode cX11_fits 14 = .ok (.ireturn, 1) := by decide +kernel
theorem dX11_fits_15 : decode cX11_fits 15 = .ok (.aload_n 0, 1) := by decide +kernel
theorem dX11_fits_16 : decode cX11_fits 16 = .ok (.getfield 25, 3) := by decide +kernel
theorem dX11_fits_19 : decode cX11_fits 19 = .ok (.aload_n 0, 1) := by decide +kernel
theorem dX11_fits_20 : decode cX11_fits 20 = .ok (.getfield 10, 3) := by decide +kernel
theorem dX11_fits_23 : decode cX11_fits 23 = .ok (.invokevirtual 128, 3) := by decide +kernel
theorem dX11_fits_26 : decode cX11_fits 26 = .ok (.aload_n 0, 1) := by decide +kernel
theorem dX11_fits_27 : decode cX11_fits 27 = .ok (.getfield 25, 3) := by decide +kernel
theorem dX11_fits_30 : decode cX11_fits 30 = .ok (.iload_n 1, 1) := by decide +kernel
theorem dX11_fits_31 : decode cX11_fits 31 = .ok (.invokevirtual 279, 3) := by decide +kernel
theorem dX11_fits_34 : decode cX11_fits 34 = .ok (.ireturn, 1) := by decide +kernel
theorem dX11_sure_0 : decode cX11_sure 0 = .ok (.aload_n 0, 1) := by decide +kernel
theorem dX11_sure_1 : decode cX11_sure 1 = .ok (.iload_n 1, 1) := by decide +kernel
theorem dX11_sure_2 : decode cX11_sure 2 = .ok (.invokevirtual 276, 3) := by decide +kernel
theorem dX11_sure_5 : decode cX11_sure 5 = .ok (.ifCond .ne 10, 3) := by decide +kernel
theorem dX11_sure_8 : decode cX11_sure 8 = .ok (.aload_n 0, 1) := by decide +kernel
theorem dX11_sure_9 : decode cX11_sure 9 = .ok (.bipush (-2), 2) := by decide +kernel
theorem dX11_sure_11 : decode cX11_sure 11 = .ok (.invokevirtual 58, 3) := by decide +kernel
theorem dX11_sure_14 : decode cX11_sure 14 = .ok (.ireturn, 1) := by decide +kernel
theorem dX11_sure_15 : decode cX11_sure 15 = .ok (.aload_n 0, 1) := by decide +kernel
theorem dX11_sure_16 : decode cX11_sure 16 = .ok (.getfield 25, 3) := by decide +kernel
theorem dX11_sure_19 : decode cX11_sure 19 = .ok (.aload_n 0, 1) := by decide +kernel
theorem dX11_sure_20 : decode cX11_sure 20 = .ok (.getfield 10, 3) := by decide +kernel
theorem dX11_sure_23 : decode cX11_sure 23 = .ok (.invokevirtual 128, 3) := by decide +kernel
theorem dX11_sure_26 : decode cX11_sure 26 = .ok (.aload_n 0, 1) := by decide +kernel
theorem dX11_sure_27 : decode cX11_sure 27 = .ok (.getfield 25, 3) := by decide +kernel
theorem dX11_sure_30 : decode cX11_sure 30 = .ok (.iload_n 1, 1) := by decide +kernel
theorem dX11_sure_31 : decode cX11_sure 31 = .ok (.invokevirtual 282, 3) := by decide +kernel
theorem dX11_sure_34 : decode cX11_sure 34 = .ok (.istore_n 2, 1) := by decide +kernel
theorem dX11_sure_35 : decode cX11_sure 35 = .ok (.iload_n 2, 1) := by decide +kernel
theorem dX11_sure_36 : decode cX11_sure 36 = .ok (.iconst (-1), 1) := by decide +kernel
theorem dX11_sure_37 : decode cX11_sure 37 = .ok (.if_icmp .ne 12, 3) := by decide +kernel
theorem dX11_sure_40 : decode cX11_sure 40 = .ok (.aload_n 0, 1) := by decide +kernel
theorem dX11_sure_41 : decode cX11_sure 41 = .ok (.bipush (-5), 2) := by decide +kernel
theorem dX11_sure_43 : decode cX11_sure 43 = .ok (.invokevirtual 58, 3) := by decide +kernel
theorem dX11_sure_46 : decode cX11_sure 46 = .ok (.goto 4, 3) := by decide +kernel
theorem dX11_sure_49 : decode cX11_sure 49 = .ok (.iload_n 2, 1) := by decide +kernel
theorem dX11_sure_50 : decode cX11_sure 50 = .ok (.ireturn, 1) := by decide +kernel
theorem dX11_judge_0 : decode cX11_judge 0 = .ok (.aload_n 0, 1) := by decide +kernel
theorem dX11_judge_1 : decode cX11_judge 1 = .ok (.iload_n 1, 1) := by decide +kernel
theorem dX11_judge_2 : decode cX11_judge 2 = .ok (.iload_n 2, 1) := by decide +kernel
theorem dX11_judge_3 : decode cX11_judge 3 = .ok (.invokevirtual 285, 3) := by decide +kernel
theorem dX11_judge_6 : decode cX11_judge 6 = .ok (.istore_n 3, 1) := by decide +kernel
theorem dX11_judge_7 : decode cX11_judge 7 = .ok (.iload_n 3, 1) := by decide +kernel
theorem dX11_judge_8 : decode cX11_judge 8 = .ok (.ifCond .eq 11, 3) := by decide +kernel
theorem dX11_judge_11 : decode cX11_judge 11 = .ok (.aload_n 0, 1) := by decide +kernel
theorem dX11_judge_12 : decode cX11_judge 12 = .ok (.iload_n 3, 1) := by decide +kernel
theorem dX11_judge_13 : decode cX11_judge 13 = .ok (.invokevirtual 58, 3) := by decide +kernel
theorem dX11_judge_16 : decode cX11_judge 16 = .ok (.goto 9, 3) := by decide +kernel
theorem dX11_judge_19 : decode cX11_judge 19 = .ok (.aload_n 0, 1) := by decide +kernel
theorem dX11_judge_20 : decode cX11_judge 20 = .ok (.iload_n 1, 1) := by decide +kernel
theorem dX11_judge_21 : decode cX11_judge 21 = .ok (.iload_n 2, 1) := by decide +kernel
theorem dX11_judge_22 : decode cX11_judge 22 = .ok (.invokevirtual 288, 3) := by decide +kernel
theorem dX11_judge_25 : decode cX11_judge 25 = .ok (.ireturn, 1) := by decide +kernel
def bwX11_behind_0l : List Nat := [29, 153, 0, 15, 29, 4, 159, 0, 10, 42, 16, 254, 182, 0, 58, 172, 42, 27, 28, 182, 1, 35, 54, 4, 21, 4, 153, 0, 10, 42, 21, 4, 182, 0, 58, 172, 42, 180, 0, 10, 182, 0, 132, 54, 5, 3, 54, 6, 21, 6, 28, 162, 0, 42, 42, 180, 0, 45, 27, 50, 180, 0, 91, 21, 6, 47]
theorem bwX11_behind_0 : ((cX11_behind.data.toList.drop 0).take 66).map UInt8.toNat = bwX11_behind_0l := by decide +kernel
theorem dX11_behind_0 : decode cX11_behind 0 = .ok (.iload_n 3, 1) := bq_o29 (bq_of bwX11_behind_0 0 (by decide +kernel))
theorem dX11_behind_1 : decode cX11_behind 1 = .ok (.ifCond .eq 15, 3) := bq_o153 (a := 0) (b := 15) (bq_3 bwX11_behind_0 1 (by decide +kernel)) (by decide +kernel)
theorem dX11_behind_4 : decode cX11_behind 4 = .ok (.iload_n 3, 1) := bq_o29 (bq_of bwX11_behind_0 4 (by decide +kernel))
theorem dX11_behind_5 : decode cX11_behind 5 = .ok (.iconst 1, 1) := bq_o4 (bq_of bwX11_behind_0 5 (by decide +kernel))
theorem dX11_behind_6 : decode cX11_behind 6 = .ok (.if_icmp .eq 10, 3) := bq_o159 (a := 0) (b := 10) (bq_3 bwX11_behind_0 6 (by decide +kernel)) (by decide +kernel)
theorem dX11_behind_9 : decode cX11_behind 9 = .ok (.aload_n 0, 1) := bq_o42 (bq_of bwX11_behind_0 9 (by decide +kernel))
theorem dX11_behind_10 : decode cX11_behind 10 = .ok (.bipush (-2), 2) := bq_o16 (a := 254) (bq_2 bwX11_behind_0 10 (by decide +kernel)) (by decide +kernel)
theorem dX11_behind_12 : decode cX11_behind 12 = .ok (.invokevirtual 58, 3) := bq_o182 (a := 0) (b := 58) (bq_3 bwX11_behind_0 12 (by decide +kernel)) rfl
theorem dX11_behind_15 : decode cX11_behind 15 = .ok (.ireturn, 1) := bq_o172 (bq_of bwX11_behind_0 15 (by decide +kernel))
theorem dX11_behind_16 : decode cX11_behind 16 = .ok (.aload_n 0, 1) := bq_o42 (bq_of bwX11_behind_0 16 (by decide +kernel))
theorem dX11_behind_17 : decode cX11_behind 17 = .ok (.iload_n 1, 1) := bq_o27 (bq_of bwX11_behind_0 17 (by decide +kernel))
theorem dX11_behind_18 : decode cX11_behind 18 = .ok (.iload_n 2, 1) := bq_o28 (bq_of bwX11_behind_0 18 (by decide +kernel))
theorem dX11_behind_19 : decode cX11_behind 19 = .ok (.invokevirtual 291, 3) := bq_o182 (a := 1) (b := 35) (bq_3 bwX11_behind_0 19 (by decide +kernel)) rfl
theorem dX11_behind_22 : decode cX11_behind 22 = .ok (.istore 4, 2) := bq_o54 (a := 4) (bq_2 bwX11_behind_0 22 (by decide +kernel)) rfl
theorem dX11_behind_24 : decode cX11_behind 24 = .ok (.iload 4, 2) := bq_o21 (a := 4) (bq_2 bwX11_behind_0 24 (by decide +kernel)) rfl
theorem dX11_behind_26 : decode cX11_behind 26 = .ok (.ifCond .eq 10, 3) := bq_o153 (a := 0) (b := 10) (bq_3 bwX11_behind_0 26 (by decide +kernel)) (by decide +kernel)
theorem dX11_behind_29 : decode cX11_behind 29 = .ok (.aload_n 0, 1) := bq_o42 (bq_of bwX11_behind_0 29 (by decide +kernel))
theorem dX11_behind_30 : decode cX11_behind 30 = .ok (.iload 4, 2) := bq_o21 (a := 4) (bq_2 bwX11_behind_0 30 (by decide +kernel)) rfl
theorem dX11_behind_32 : decode cX11_behind 32 = .ok (.invokevirtual 58, 3) := bq_o182 (a := 0) (b := 58) (bq_3 bwX11_behind_0 32 (by decide +kernel)) rfl
theorem dX11_behind_35 : decode cX11_behind 35 = .ok (.ireturn, 1) := bq_o172 (bq_of bwX11_behind_0 35 (by decide +kernel))
theorem dX11_behind_36 : decode cX11_behind 36 = .ok (.aload_n 0, 1) := bq_o42 (bq_of bwX11_behind_0 36 (by decide +kernel))
theorem dX11_behind_37 : decode cX11_behind 37 = .ok (.getfield 10, 3) := bq_o180 (a := 0) (b := 10) (bq_3 bwX11_behind_0 37 (by decide +kernel)) rfl
theorem dX11_behind_40 : decode cX11_behind 40 = .ok (.invokevirtual 132, 3) := bq_o182 (a := 0) (b := 132) (bq_3 bwX11_behind_0 40 (by decide +kernel)) rfl
theorem dX11_behind_43 : decode cX11_behind 43 = .ok (.istore 5, 2) := bq_o54 (a := 5) (bq_2 bwX11_behind_0 43 (by decide +kernel)) rfl
theorem dX11_behind_45 : decode cX11_behind 45 = .ok (.iconst 0, 1) := bq_o3 (bq_of bwX11_behind_0 45 (by decide +kernel))
theorem dX11_behind_46 : decode cX11_behind 46 = .ok (.istore 6, 2) := bq_o54 (a := 6) (bq_2 bwX11_behind_0 46 (by decide +kernel)) rfl
theorem dX11_behind_48 : decode cX11_behind 48 = .ok (.iload 6, 2) := bq_o21 (a := 6) (bq_2 bwX11_behind_0 48 (by decide +kernel)) rfl
theorem dX11_behind_50 : decode cX11_behind 50 = .ok (.iload_n 2, 1) := bq_o28 (bq_of bwX11_behind_0 50 (by decide +kernel))
theorem dX11_behind_51 : decode cX11_behind 51 = .ok (.if_icmp .ge 42, 3) := bq_o162 (a := 0) (b := 42) (bq_3 bwX11_behind_0 51 (by decide +kernel)) (by decide +kernel)
theorem dX11_behind_54 : decode cX11_behind 54 = .ok (.aload_n 0, 1) := bq_o42 (bq_of bwX11_behind_0 54 (by decide +kernel))
theorem dX11_behind_55 : decode cX11_behind 55 = .ok (.getfield 45, 3) := bq_o180 (a := 0) (b := 45) (bq_3 bwX11_behind_0 55 (by decide +kernel)) rfl
theorem dX11_behind_58 : decode cX11_behind 58 = .ok (.iload_n 1, 1) := bq_o27 (bq_of bwX11_behind_0 58 (by decide +kernel))
theorem dX11_behind_59 : decode cX11_behind 59 = .ok (.aaload, 1) := bq_o50 (bq_of bwX11_behind_0 59 (by decide +kernel))
theorem dX11_behind_60 : decode cX11_behind 60 = .ok (.getfield 91, 3) := bq_o180 (a := 0) (b := 91) (bq_3 bwX11_behind_0 60 (by decide +kernel)) rfl
theorem dX11_behind_63 : decode cX11_behind 63 = .ok (.iload 6, 2) := bq_o21 (a := 6) (bq_2 bwX11_behind_0 63 (by decide +kernel)) rfl
def bwX11_behind_64l : List Nat := [6, 47, 136, 54, 7, 21, 5, 21, 7, 2, 130, 126, 54, 5, 42, 180, 0, 25, 21, 7, 182, 1, 2, 132, 6, 1, 167, 255, 214, 29, 154, 0, 8, 21, 5, 167, 0, 17, 42, 180, 0, 25, 42, 180, 0, 10, 182, 0, 132, 182, 0, 213, 172]
theorem bwX11_behind_64 : ((cX11_behind.data.toList.drop 64).take 53).map UInt8.toNat = bwX11_behind_64l := by decide +kernel
theorem dX11_behind_65 : decode cX11_behind 65 = .ok (.laload, 1) := bq_o47 (bq_of bwX11_behind_64 1 (by decide +kernel))
theorem dX11_behind_66 : decode cX11_behind 66 = .ok (.l2i, 1) := bq_o136 (bq_of bwX11_behind_64 2 (by decide +kernel))
theorem dX11_behind_67 : decode cX11_behind 67 = .ok (.istore 7, 2) := bq_o54 (a := 7) (bq_2 bwX11_behind_64 3 (by decide +kernel)) rfl
theorem dX11_behind_69 : decode cX11_behind 69 = .ok (.iload 5, 2) := bq_o21 (a := 5) (bq_2 bwX11_behind_64 5 (by decide +kernel)) rfl
theorem dX11_behind_71 : decode cX11_behind 71 = .ok (.iload 7, 2) := bq_o21 (a := 7) (bq_2 bwX11_behind_64 7 (by decide +kernel)) rfl
theorem dX11_behind_73 : decode cX11_behind 73 = .ok (.iconst (-1), 1) := bq_o2 (bq_of bwX11_behind_64 9 (by decide +kernel))
theorem dX11_behind_74 : decode cX11_behind 74 = .ok (.ixor, 1) := bq_o130 (bq_of bwX11_behind_64 10 (by decide +kernel))
theorem dX11_behind_75 : decode cX11_behind 75 = .ok (.iand, 1) := bq_o126 (bq_of bwX11_behind_64 11 (by decide +kernel))
theorem dX11_behind_76 : decode cX11_behind 76 = .ok (.istore 5, 2) := bq_o54 (a := 5) (bq_2 bwX11_behind_64 12 (by decide +kernel)) rfl
theorem dX11_behind_78 : decode cX11_behind 78 = .ok (.aload_n 0, 1) := bq_o42 (bq_of bwX11_behind_64 14 (by decide +kernel))
theorem dX11_behind_79 : decode cX11_behind 79 = .ok (.getfield 25, 3) := bq_o180 (a := 0) (b := 25) (bq_3 bwX11_behind_64 15 (by decide +kernel)) rfl
theorem dX11_behind_82 : decode cX11_behind 82 = .ok (.iload 7, 2) := bq_o21 (a := 7) (bq_2 bwX11_behind_64 18 (by decide +kernel)) rfl
theorem dX11_behind_84 : decode cX11_behind 84 = .ok (.invokevirtual 258, 3) := bq_o182 (a := 1) (b := 2) (bq_3 bwX11_behind_64 20 (by decide +kernel)) rfl
theorem dX11_behind_87 : decode cX11_behind 87 = .ok (.iinc 6 1, 3) := bq_o132 (a := 6) (b := 1) (bq_3 bwX11_behind_64 23 (by decide +kernel)) rfl (by decide +kernel)
theorem dX11_behind_90 : decode cX11_behind 90 = .ok (.goto (-42), 3) := bq_o167 (a := 255) (b := 214) (bq_3 bwX11_behind_64 26 (by decide +kernel)) (by decide +kernel)
theorem dX11_behind_93 : decode cX11_behind 93 = .ok (.iload_n 3, 1) := bq_o29 (bq_of bwX11_behind_64 29 (by decide +kernel))
theorem dX11_behind_94 : decode cX11_behind 94 = .ok (.ifCond .ne 8, 3) := bq_o154 (a := 0) (b := 8) (bq_3 bwX11_behind_64 30 (by decide +kernel)) (by decide +kernel)
theorem dX11_behind_97 : decode cX11_behind 97 = .ok (.iload 5, 2) := bq_o21 (a := 5) (bq_2 bwX11_behind_64 33 (by decide +kernel)) rfl
theorem dX11_behind_99 : decode cX11_behind 99 = .ok (.goto 17, 3) := bq_o167 (a := 0) (b := 17) (bq_3 bwX11_behind_64 35 (by decide +kernel)) (by decide +kernel)
theorem dX11_behind_102 : decode cX11_behind 102 = .ok (.aload_n 0, 1) := bq_o42 (bq_of bwX11_behind_64 38 (by decide +kernel))
theorem dX11_behind_103 : decode cX11_behind 103 = .ok (.getfield 25, 3) := bq_o180 (a := 0) (b := 25) (bq_3 bwX11_behind_64 39 (by decide +kernel)) rfl
theorem dX11_behind_106 : decode cX11_behind 106 = .ok (.aload_n 0, 1) := bq_o42 (bq_of bwX11_behind_64 42 (by decide +kernel))
theorem dX11_behind_107 : decode cX11_behind 107 = .ok (.getfield 10, 3) := bq_o180 (a := 0) (b := 10) (bq_3 bwX11_behind_64 43 (by decide +kernel)) rfl
theorem dX11_behind_110 : decode cX11_behind 110 = .ok (.invokevirtual 132, 3) := bq_o182 (a := 0) (b := 132) (bq_3 bwX11_behind_64 46 (by decide +kernel)) rfl
theorem dX11_behind_113 : decode cX11_behind 113 = .ok (.invokevirtual 213, 3) := bq_o182 (a := 0) (b := 213) (bq_3 bwX11_behind_64 49 (by decide +kernel)) rfl
theorem dX11_behind_116 : decode cX11_behind 116 = .ok (.ireturn, 1) := bq_o172 (bq_of bwX11_behind_64 52 (by decide +kernel))
def bwX11_rides_0l : List Nat := [42, 27, 28, 182, 1, 35, 62, 29, 153, 0, 9, 42, 29, 182, 0, 58, 172, 3, 54, 4, 21, 4, 28, 162, 0, 30, 42, 180, 0, 10, 42, 180, 0, 45, 27, 50, 180, 0, 91, 21, 4, 47, 136, 182, 1, 38, 87, 132, 4, 1, 167, 255, 226, 42, 180, 0, 10, 28, 182, 1, 40, 28, 172]
theorem bwX11_rides_0 : ((cX11_rides.data.toList.drop 0).take 63).map UInt8.toNat = bwX11_rides_0l := by decide +kernel
theorem dX11_rides_0 : decode cX11_rides 0 = .ok (.aload_n 0, 1) := bq_o42 (bq_of bwX11_rides_0 0 (by decide +kernel))
theorem dX11_rides_1 : decode cX11_rides 1 = .ok (.iload_n 1, 1) := bq_o27 (bq_of bwX11_rides_0 1 (by decide +kernel))
theorem dX11_rides_2 : decode cX11_rides 2 = .ok (.iload_n 2, 1) := bq_o28 (bq_of bwX11_rides_0 2 (by decide +kernel))
theorem dX11_rides_3 : decode cX11_rides 3 = .ok (.invokevirtual 291, 3) := bq_o182 (a := 1) (b := 35) (bq_3 bwX11_rides_0 3 (by decide +kernel)) rfl
theorem dX11_rides_6 : decode cX11_rides 6 = .ok (.istore_n 3, 1) := bq_o62 (bq_of bwX11_rides_0 6 (by decide +kernel))
theorem dX11_rides_7 : decode cX11_rides 7 = .ok (.iload_n 3, 1) := bq_o29 (bq_of bwX11_rides_0 7 (by decide +kernel))
theorem dX11_rides_8 : decode cX11_rides 8 = .ok (.ifCond .eq 9, 3) := bq_o153 (a := 0) (b := 9) (bq_3 bwX11_rides_0 8 (by decide +kernel)) (by decide +kernel)
theorem dX11_rides_11 : decode cX11_rides 11 = .ok (.aload_n 0, 1) := bq_o42 (bq_of bwX11_rides_0 11 (by decide +kernel))
theorem dX11_rides_12 : decode cX11_rides 12 = .ok (.iload_n 3, 1) := bq_o29 (bq_of bwX11_rides_0 12 (by decide +kernel))
theorem dX11_rides_13 : decode cX11_rides 13 = .ok (.invokevirtual 58, 3) := bq_o182 (a := 0) (b := 58) (bq_3 bwX11_rides_0 13 (by decide +kernel)) rfl
theorem dX11_rides_16 : decode cX11_rides 16 = .ok (.ireturn, 1) := bq_o172 (bq_of bwX11_rides_0 16 (by decide +kernel))
theorem dX11_rides_17 : decode cX11_rides 17 = .ok (.iconst 0, 1) := bq_o3 (bq_of bwX11_rides_0 17 (by decide +kernel))
theorem dX11_rides_18 : decode cX11_rides 18 = .ok (.istore 4, 2) := bq_o54 (a := 4) (bq_2 bwX11_rides_0 18 (by decide +kernel)) rfl
theorem dX11_rides_20 : decode cX11_rides 20 = .ok (.iload 4, 2) := bq_o21 (a := 4) (bq_2 bwX11_rides_0 20 (by decide +kernel)) rfl
theorem dX11_rides_22 : decode cX11_rides 22 = .ok (.iload_n 2, 1) := bq_o28 (bq_of bwX11_rides_0 22 (by decide +kernel))
theorem dX11_rides_23 : decode cX11_rides 23 = .ok (.if_icmp .ge 30, 3) := bq_o162 (a := 0) (b := 30) (bq_3 bwX11_rides_0 23 (by decide +kernel)) (by decide +kernel)
theorem dX11_rides_26 : decode cX11_rides 26 = .ok (.aload_n 0, 1) := bq_o42 (bq_of bwX11_rides_0 26 (by decide +kernel))
theorem dX11_rides_27 : decode cX11_rides 27 = .ok (.getfield 10, 3) := bq_o180 (a := 0) (b := 10) (bq_3 bwX11_rides_0 27 (by decide +kernel)) rfl
theorem dX11_rides_30 : decode cX11_rides 30 = .ok (.aload_n 0, 1) := bq_o42 (bq_of bwX11_rides_0 30 (by decide +kernel))
theorem dX11_rides_31 : decode cX11_rides 31 = .ok (.getfield 45, 3) := bq_o180 (a := 0) (b := 45) (bq_3 bwX11_rides_0 31 (by decide +kernel)) rfl
theorem dX11_rides_34 : decode cX11_rides 34 = .ok (.iload_n 1, 1) := bq_o27 (bq_of bwX11_rides_0 34 (by decide +kernel))
theorem dX11_rides_35 : decode cX11_rides 35 = .ok (.aaload, 1) := bq_o50 (bq_of bwX11_rides_0 35 (by decide +kernel))
theorem dX11_rides_36 : decode cX11_rides 36 = .ok (.getfield 91, 3) := bq_o180 (a := 0) (b := 91) (bq_3 bwX11_rides_0 36 (by decide +kernel)) rfl
theorem dX11_rides_39 : decode cX11_rides 39 = .ok (.iload 4, 2) := bq_o21 (a := 4) (bq_2 bwX11_rides_0 39 (by decide +kernel)) rfl
theorem dX11_rides_41 : decode cX11_rides 41 = .ok (.laload, 1) := bq_o47 (bq_of bwX11_rides_0 41 (by decide +kernel))
theorem dX11_rides_42 : decode cX11_rides 42 = .ok (.l2i, 1) := bq_o136 (bq_of bwX11_rides_0 42 (by decide +kernel))
theorem dX11_rides_43 : decode cX11_rides 43 = .ok (.invokevirtual 294, 3) := bq_o182 (a := 1) (b := 38) (bq_3 bwX11_rides_0 43 (by decide +kernel)) rfl
theorem dX11_rides_46 : decode cX11_rides 46 = .ok (.pop, 1) := bq_o87 (bq_of bwX11_rides_0 46 (by decide +kernel))
theorem dX11_rides_47 : decode cX11_rides 47 = .ok (.iinc 4 1, 3) := bq_o132 (a := 4) (b := 1) (bq_3 bwX11_rides_0 47 (by decide +kernel)) rfl (by decide +kernel)
theorem dX11_rides_50 : decode cX11_rides 50 = .ok (.goto (-30), 3) := bq_o167 (a := 255) (b := 226) (bq_3 bwX11_rides_0 50 (by decide +kernel)) (by decide +kernel)
theorem dX11_rides_53 : decode cX11_rides 53 = .ok (.aload_n 0, 1) := bq_o42 (bq_of bwX11_rides_0 53 (by decide +kernel))
theorem dX11_rides_54 : decode cX11_rides 54 = .ok (.getfield 10, 3) := bq_o180 (a := 0) (b := 10) (bq_3 bwX11_rides_0 54 (by decide +kernel)) rfl
theorem dX11_rides_57 : decode cX11_rides 57 = .ok (.iload_n 2, 1) := bq_o28 (bq_of bwX11_rides_0 57 (by decide +kernel))
theorem dX11_rides_58 : decode cX11_rides 58 = .ok (.invokevirtual 296, 3) := bq_o182 (a := 1) (b := 40) (bq_3 bwX11_rides_0 58 (by decide +kernel)) rfl
theorem dX11_rides_61 : decode cX11_rides 61 = .ok (.iload_n 2, 1) := bq_o28 (bq_of bwX11_rides_0 61 (by decide +kernel))
theorem dX11_rides_62 : decode cX11_rides 62 = .ok (.ireturn, 1) := bq_o172 (bq_of bwX11_rides_0 62 (by decide +kernel))
def bwX11_day_0l : List Nat := [42, 27, 182, 0, 115, 77, 44, 199, 0, 13, 42, 42, 27, 182, 0, 119, 182, 0, 58, 172, 42, 44, 182, 0, 225, 3, 62, 29, 42, 180, 0, 32, 180, 0, 228, 162, 0, 25, 42, 180, 0, 10, 42, 180, 0, 32, 29, 182, 0, 231, 182, 1, 38, 87, 132, 3, 1, 167, 255, 226, 42, 180, 0, 10, 42, 180]
theorem bwX11_day_0 : ((cX11_day.data.toList.drop 0).take 66).map UInt8.toNat = bwX11_day_0l := by decide +kernel
theorem dX11_day_0 : decode cX11_day 0 = .ok (.aload_n 0, 1) := bq_o42 (bq_of bwX11_day_0 0 (by decide +kernel))
theorem dX11_day_1 : decode cX11_day 1 = .ok (.iload_n 1, 1) := bq_o27 (bq_of bwX11_day_0 1 (by decide +kernel))
theorem dX11_day_2 : decode cX11_day 2 = .ok (.invokevirtual 115, 3) := bq_o182 (a := 0) (b := 115) (bq_3 bwX11_day_0 2 (by decide +kernel)) rfl
theorem dX11_day_5 : decode cX11_day 5 = .ok (.astore_n 2, 1) := bq_o77 (bq_of bwX11_day_0 5 (by decide +kernel))
theorem dX11_day_6 : decode cX11_day 6 = .ok (.aload_n 2, 1) := bq_o44 (bq_of bwX11_day_0 6 (by decide +kernel))
theorem dX11_day_7 : decode cX11_day 7 = .ok (.ifnonnull 13, 3) := bq_o199 (a := 0) (b := 13) (bq_3 bwX11_day_0 7 (by decide +kernel)) (by decide +kernel)
theorem dX11_day_10 : decode cX11_day 10 = .ok (.aload_n 0, 1) := bq_o42 (bq_of bwX11_day_0 10 (by decide +kernel))
theorem dX11_day_11 : decode cX11_day 11 = .ok (.aload_n 0, 1) := bq_o42 (bq_of bwX11_day_0 11 (by decide +kernel))
theorem dX11_day_12 : decode cX11_day 12 = .ok (.iload_n 1, 1) := bq_o27 (bq_of bwX11_day_0 12 (by decide +kernel))
theorem dX11_day_13 : decode cX11_day 13 = .ok (.invokevirtual 119, 3) := bq_o182 (a := 0) (b := 119) (bq_3 bwX11_day_0 13 (by decide +kernel)) rfl
theorem dX11_day_16 : decode cX11_day 16 = .ok (.invokevirtual 58, 3) := bq_o182 (a := 0) (b := 58) (bq_3 bwX11_day_0 16 (by decide +kernel)) rfl
theorem dX11_day_19 : decode cX11_day 19 = .ok (.ireturn, 1) := bq_o172 (bq_of bwX11_day_0 19 (by decide +kernel))
theorem dX11_day_20 : decode cX11_day 20 = .ok (.aload_n 0, 1) := bq_o42 (bq_of bwX11_day_0 20 (by decide +kernel))
theorem dX11_day_21 : decode cX11_day 21 = .ok (.aload_n 2, 1) := bq_o44 (bq_of bwX11_day_0 21 (by decide +kernel))
theorem dX11_day_22 : decode cX11_day 22 = .ok (.invokevirtual 225, 3) := bq_o182 (a := 0) (b := 225) (bq_3 bwX11_day_0 22 (by decide +kernel)) rfl
theorem dX11_day_25 : decode cX11_day 25 = .ok (.iconst 0, 1) := bq_o3 (bq_of bwX11_day_0 25 (by decide +kernel))
theorem dX11_day_26 : decode cX11_day 26 = .ok (.istore_n 3, 1) := bq_o62 (bq_of bwX11_day_0 26 (by decide +kernel))
theorem dX11_day_27 : decode cX11_day 27 = .ok (.iload_n 3, 1) := bq_o29 (bq_of bwX11_day_0 27 (by decide +kernel))
theorem dX11_day_28 : decode cX11_day 28 = .ok (.aload_n 0, 1) := bq_o42 (bq_of bwX11_day_0 28 (by decide +kernel))
theorem dX11_day_29 : decode cX11_day 29 = .ok (.getfield 32, 3) := bq_o180 (a := 0) (b := 32) (bq_3 bwX11_day_0 29 (by decide +kernel)) rfl
theorem dX11_day_32 : decode cX11_day 32 = .ok (.getfield 228, 3) := bq_o180 (a := 0) (b := 228) (bq_3 bwX11_day_0 32 (by decide +kernel)) rfl
theorem dX11_day_35 : decode cX11_day 35 = .ok (.if_icmp .ge 25, 3) := bq_o162 (a := 0) (b := 25) (bq_3 bwX11_day_0 35 (by decide +kernel)) (by decide +kernel)
theorem dX11_day_38 : decode cX11_day 38 = .ok (.aload_n 0, 1) := bq_o42 (bq_of bwX11_day_0 38 (by decide +kernel))
theorem dX11_day_39 : decode cX11_day 39 = .ok (.getfield 10, 3) := bq_o180 (a := 0) (b := 10) (bq_3 bwX11_day_0 39 (by decide +kernel)) rfl
theorem dX11_day_42 : decode cX11_day 42 = .ok (.aload_n 0, 1) := bq_o42 (bq_of bwX11_day_0 42 (by decide +kernel))
theorem dX11_day_43 : decode cX11_day 43 = .ok (.getfield 32, 3) := bq_o180 (a := 0) (b := 32) (bq_3 bwX11_day_0 43 (by decide +kernel)) rfl
theorem dX11_day_46 : decode cX11_day 46 = .ok (.iload_n 3, 1) := bq_o29 (bq_of bwX11_day_0 46 (by decide +kernel))
theorem dX11_day_47 : decode cX11_day 47 = .ok (.invokevirtual 231, 3) := bq_o182 (a := 0) (b := 231) (bq_3 bwX11_day_0 47 (by decide +kernel)) rfl
theorem dX11_day_50 : decode cX11_day 50 = .ok (.invokevirtual 294, 3) := bq_o182 (a := 1) (b := 38) (bq_3 bwX11_day_0 50 (by decide +kernel)) rfl
theorem dX11_day_53 : decode cX11_day 53 = .ok (.pop, 1) := bq_o87 (bq_of bwX11_day_0 53 (by decide +kernel))
theorem dX11_day_54 : decode cX11_day 54 = .ok (.iinc 3 1, 3) := bq_o132 (a := 3) (b := 1) (bq_3 bwX11_day_0 54 (by decide +kernel)) rfl (by decide +kernel)
theorem dX11_day_57 : decode cX11_day 57 = .ok (.goto (-30), 3) := bq_o167 (a := 255) (b := 226) (bq_3 bwX11_day_0 57 (by decide +kernel)) (by decide +kernel)
theorem dX11_day_60 : decode cX11_day 60 = .ok (.aload_n 0, 1) := bq_o42 (bq_of bwX11_day_0 60 (by decide +kernel))
theorem dX11_day_61 : decode cX11_day 61 = .ok (.getfield 10, 3) := bq_o180 (a := 0) (b := 10) (bq_3 bwX11_day_0 61 (by decide +kernel)) rfl
def bwX11_day_64l : List Nat := [42, 180, 0, 32, 180, 0, 228, 182, 1, 40, 42, 180, 0, 32, 180, 0, 228, 172]
theorem bwX11_day_64 : ((cX11_day.data.toList.drop 64).take 18).map UInt8.toNat = bwX11_day_64l := by decide +kernel
theorem dX11_day_64 : decode cX11_day 64 = .ok (.aload_n 0, 1) := bq_o42 (bq_of bwX11_day_64 0 (by decide +kernel))
theorem dX11_day_65 : decode cX11_day 65 = .ok (.getfield 32, 3) := bq_o180 (a := 0) (b := 32) (bq_3 bwX11_day_64 1 (by decide +kernel)) rfl
theorem dX11_day_68 : decode cX11_day 68 = .ok (.getfield 228, 3) := bq_o180 (a := 0) (b := 228) (bq_3 bwX11_day_64 4 (by decide +kernel)) rfl
theorem dX11_day_71 : decode cX11_day 71 = .ok (.invokevirtual 296, 3) := bq_o182 (a := 1) (b := 40) (bq_3 bwX11_day_64 7 (by decide +kernel)) rfl
theorem dX11_day_74 : decode cX11_day 74 = .ok (.aload_n 0, 1) := bq_o42 (bq_of bwX11_day_64 10 (by decide +kernel))
theorem dX11_day_75 : decode cX11_day 75 = .ok (.getfield 32, 3) := bq_o180 (a := 0) (b := 32) (bq_3 bwX11_day_64 11 (by decide +kernel)) rfl
theorem dX11_day_78 : decode cX11_day 78 = .ok (.getfield 228, 3) := bq_o180 (a := 0) (b := 228) (bq_3 bwX11_day_64 14 (by decide +kernel)) rfl
theorem dX11_day_81 : decode cX11_day 81 = .ok (.ireturn, 1) := bq_o172 (bq_of bwX11_day_64 17 (by decide +kernel))
theorem dX11_meet_0 : decode cX11_meet 0 = .ok (.aload_n 0, 1) := by decide +kernel
theorem dX11_meet_1 : decode cX11_meet 1 = .ok (.getfield 10, 3) := by decide +kernel
theorem dX11_meet_4 : decode cX11_meet 4 = .ok (.iload_n 1, 1) := by decide +kernel
theorem dX11_meet_5 : decode cX11_meet 5 = .ok (.invokevirtual 207, 3) := by decide +kernel
theorem dX11_meet_8 : decode cX11_meet 8 = .ok (.ifCond .eq 14, 3) := by decide +kernel
theorem dX11_meet_11 : decode cX11_meet 11 = .ok (.aload_n 0, 1) := by decide +kernel
theorem dX11_meet_12 : decode cX11_meet 12 = .ok (.getfield 10, 3) := by decide +kernel
theorem dX11_meet_15 : decode cX11_meet 15 = .ok (.iload_n 1, 1) := by decide +kernel
theorem dX11_meet_16 : decode cX11_meet 16 = .ok (.invokevirtual 294, 3) := by decide +kernel
theorem dX11_meet_19 : decode cX11_meet 19 = .ok (.goto 9, 3) := by decide +kernel
theorem dX11_meet_22 : decode cX11_meet 22 = .ok (.aload_n 0, 1) := by decide +kernel
theorem dX11_meet_23 : decode cX11_meet 23 = .ok (.bipush (-2), 2) := by decide +kernel
theorem dX11_meet_25 : decode cX11_meet 25 = .ok (.invokevirtual 58, 3) := by decide +kernel
theorem dX11_meet_28 : decode cX11_meet 28 = .ok (.ireturn, 1) := by decide +kernel
theorem dX11_year_0 : decode cX11_year 0 = .ok (.aload_n 0, 1) := by decide +kernel
theorem dX11_year_1 : decode cX11_year 1 = .ok (.getfield 10, 3) := by decide +kernel
theorem dX11_year_4 : decode cX11_year 4 = .ok (.invokevirtual 299, 3) := by decide +kernel
theorem dX11_year_7 : decode cX11_year 7 = .ok (.ireturn, 1) := by decide +kernel
theorem dX11_come_0 : decode cX11_come 0 = .ok (.iload_n 1, 1) := by decide +kernel
theorem dX11_come_1 : decode cX11_come 1 = .ok (.iconst 1, 1) := by decide +kernel
theorem dX11_come_2 : decode cX11_come 2 = .ok (.if_icmp .lt 9, 3) := by decide +kernel
theorem dX11_come_5 : decode cX11_come 5 = .ok (.iload_n 1, 1) := by decide +kernel
theorem dX11_come_6 : decode cX11_come 6 = .ok (.bipush 7, 2) := by decide +kernel
theorem dX11_come_8 : decode cX11_come 8 = .ok (.if_icmp .le 10, 3) := by decide +kernel
theorem dX11_come_11 : decode cX11_come 11 = .ok (.aload_n 0, 1) := by decide +kernel
theorem dX11_come_12 : decode cX11_come 12 = .ok (.bipush (-2), 2) := by decide +kernel
theorem dX11_come_14 : decode cX11_come 14 = .ok (.invokevirtual 58, 3) := by decide +kernel
theorem dX11_come_17 : decode cX11_come 17 = .ok (.ireturn, 1) := by decide +kernel
theorem dX11_come_18 : decode cX11_come 18 = .ok (.iload_n 1, 1) := by decide +kernel
theorem dX11_come_19 : decode cX11_come 19 = .ok (.bipush 7, 2) := by decide +kernel
theorem dX11_come_21 : decode cX11_come 21 = .ok (.aload_n 0, 1) := by decide +kernel
theorem dX11_come_22 : decode cX11_come 22 = .ok (.getfield 10, 3) := by decide +kernel
theorem dX11_come_25 : decode cX11_come 25 = .ok (.getfield 145, 3) := by decide +kernel
theorem dX11_come_28 : decode cX11_come 28 = .ok (.isub, 1) := by decide +kernel
theorem dX11_come_29 : decode cX11_come 29 = .ok (.invokestatic 302, 3) := by decide +kernel
theorem dX11_come_32 : decode cX11_come 32 = .ok (.istore_n 2, 1) := by decide +kernel
theorem dX11_come_33 : decode cX11_come 33 = .ok (.iconst 0, 1) := by decide +kernel
theorem dX11_come_34 : decode cX11_come 34 = .ok (.istore_n 3, 1) := by decide +kernel
theorem dX11_come_35 : decode cX11_come 35 = .ok (.iload_n 3, 1) := by decide +kernel
theorem dX11_come_36 : decode cX11_come 36 = .ok (.iload_n 2, 1) := by decide +kernel
theorem dX11_come_37 : decode cX11_come 37 = .ok (.if_icmp .ge 16, 3) := by decide +kernel
theorem dX11_come_40 : decode cX11_come 40 = .ok (.aload_n 0, 1) := by decide +kernel
theorem dX11_come_41 : decode cX11_come 41 = .ok (.getfield 10, 3) := by decide +kernel
theorem dX11_come_44 : decode cX11_come 44 = .ok (.invokevirtual 307, 3) := by decide +kernel
theorem dX11_come_47 : decode cX11_come 47 = .ok (.iinc 3 1, 3) := by decide +kernel
theorem dX11_come_50 : decode cX11_come 50 = .ok (.goto (-15), 3) := by decide +kernel
theorem dX11_come_53 : decode cX11_come 53 = .ok (.iload_n 2, 1) := by decide +kernel
theorem dX11_come_54 : decode cX11_come 54 = .ok (.ireturn, 1) := by decide +kernel
theorem dX11_seed_0 : decode cX11_seed 0 = .ok (.aload_n 0, 1) := by decide +kernel
theorem dX11_seed_1 : decode cX11_seed 1 = .ok (.getfield 10, 3) := by decide +kernel
theorem dX11_seed_4 : decode cX11_seed 4 = .ok (.getfield 310, 3) := by decide +kernel
theorem dX11_seed_7 : decode cX11_seed 7 = .ok (.istore_n 2, 1) := by decide +kernel
theorem dX11_seed_8 : decode cX11_seed 8 = .ok (.aload_n 0, 1) := by decide +kernel
theorem dX11_seed_9 : decode cX11_seed 9 = .ok (.getfield 10, 3) := by decide +kernel
theorem dX11_seed_12 : decode cX11_seed 12 = .ok (.iload_n 1, 1) := by decide +kernel
theorem dX11_seed_13 : decode cX11_seed 13 = .ok (.putfield 310, 3) := by decide +kernel
theorem dX11_seed_16 : decode cX11_seed 16 = .ok (.iload_n 2, 1) := by decide +kernel
theorem dX11_seed_17 : decode cX11_seed 17 = .ok (.ireturn, 1) := by decide +kernel
theorem dX11_image_0 : decode cX11_image 0 = .ok (.aload_n 0, 1) := by decide +kernel
theorem dX11_image_1 : decode cX11_image 1 = .ok (.getfield 16, 3) := by decide +kernel
theorem dX11_image_4 : decode cX11_image 4 = .ok (.aload_n 0, 1) := by decide +kernel
theorem dX11_image_5 : decode cX11_image 5 = .ok (.getfield 10, 3) := by decide +kernel
theorem dX11_image_8 : decode cX11_image 8 = .ok (.invokevirtual 189, 3) := by decide +kernel
theorem dX11_image_11 : decode cX11_image 11 = .ok (.aload_n 0, 1) := by decide +kernel
theorem dX11_image_12 : decode cX11_image 12 = .ok (.iconst 1, 1) := by decide +kernel
theorem dX11_image_13 : decode cX11_image 13 = .ok (.putfield 313, 3) := by decide +kernel
theorem dX11_image_16 : decode cX11_image 16 = .ok (.iconst 1, 1) := by decide +kernel
theorem dX11_image_17 : decode cX11_image 17 = .ok (.ireturn, 1) := by decide +kernel
theorem dX11_back_0 : decode cX11_back 0 = .ok (.aload_n 0, 1) := by decide +kernel
theorem dX11_back_1 : decode cX11_back 1 = .ok (.getfield 313, 3) := by decide +kernel
theorem dX11_back_4 : decode cX11_back 4 = .ok (.ifCond .ne 10, 3) := by decide +kernel
theorem dX11_back_7 : decode cX11_back 7 = .ok (.aload_n 0, 1) := by decide +kernel
theorem dX11_back_8 : decode cX11_back 8 = .ok (.bipush (-5), 2) := by decide +kernel
theorem dX11_back_10 : decode cX11_back 10 = .ok (.invokevirtual 58, 3) := by decide +kernel
theorem dX11_back_13 : decode cX11_back 13 = .ok (.ireturn, 1) := by decide +kernel
theorem dX11_back_14 : decode cX11_back 14 = .ok (.aload_n 0, 1) := by decide +kernel
theorem dX11_back_15 : decode cX11_back 15 = .ok (.getfield 10, 3) := by decide +kernel
theorem dX11_back_18 : decode cX11_back 18 = .ok (.aload_n 0, 1) := by decide +kernel
theorem dX11_back_19 : decode cX11_back 19 = .ok (.getfield 16, 3) := by decide +kernel
theorem dX11_back_22 : decode cX11_back 22 = .ok (.invokevirtual 189, 3) := by decide +kernel
theorem dX11_back_25 : decode cX11_back 25 = .ok (.iconst 1, 1) := by decide +kernel
theorem dX11_back_26 : decode cX11_back 26 = .ok (.ireturn, 1) := by decide +kernel
def bwX11_status_0l : List Nat := [27, 170, 0, 0, 0, 0, 0, 132, 0, 0, 0, 0, 0, 0, 0, 9, 0, 0, 0, 55, 0, 0, 0, 63, 0, 0, 0, 71, 0, 0, 0, 79, 0, 0, 0, 87, 0, 0, 0, 95, 0, 0, 0, 103, 0, 0, 0, 111, 0, 0, 0, 119, 0, 0, 0, 127, 42, 180, 0, 10, 180, 0, 145, 172, 42, 180]
theorem bwX11_status_0 : ((cX11_status.data.toList.drop 0).take 66).map UInt8.toNat = bwX11_status_0l := by decide +kernel
theorem dX11_status_0 : decode cX11_status 0 = .ok (.iload_n 1, 1) := bq_o27 (bq_of bwX11_status_0 0 (by decide +kernel))
theorem dX11_status_1 : decode cX11_status 1 = .ok (.tableswitch 132 0 9 #[55, 63, 71, 79, 87, 95, 103, 111, 119, 127], 55) := by decide +kernel
theorem dX11_status_56 : decode cX11_status 56 = .ok (.aload_n 0, 1) := bq_o42 (bq_of bwX11_status_0 56 (by decide +kernel))
theorem dX11_status_57 : decode cX11_status 57 = .ok (.getfield 10, 3) := bq_o180 (a := 0) (b := 10) (bq_3 bwX11_status_0 57 (by decide +kernel)) rfl
theorem dX11_status_60 : decode cX11_status 60 = .ok (.getfield 145, 3) := bq_o180 (a := 0) (b := 145) (bq_3 bwX11_status_0 60 (by decide +kernel)) rfl
theorem dX11_status_63 : decode cX11_status 63 = .ok (.ireturn, 1) := bq_o172 (bq_of bwX11_status_0 63 (by decide +kernel))
def bwX11_status_64l : List Nat := [42, 180, 0, 10, 180, 0, 172, 172, 42, 180, 0, 10, 180, 0, 175, 172, 42, 180, 0, 10, 182, 1, 61, 172, 42, 180, 0, 10, 180, 1, 64, 172, 42, 180, 0, 10, 180, 1, 67, 172, 42, 180, 0, 10, 180, 1, 70, 172, 42, 180, 0, 39, 180, 0, 185, 172, 42, 180, 0, 10, 180, 1, 54, 172, 42, 182]
theorem bwX11_status_64 : ((cX11_status.data.toList.drop 64).take 66).map UInt8.toNat = bwX11_status_64l := by decide +kernel
theorem dX11_status_64 : decode cX11_status 64 = .ok (.aload_n 0, 1) := bq_o42 (bq_of bwX11_status_64 0 (by decide +kernel))
theorem dX11_status_65 : decode cX11_status 65 = .ok (.getfield 10, 3) := bq_o180 (a := 0) (b := 10) (bq_3 bwX11_status_64 1 (by decide +kernel)) rfl
theorem dX11_status_68 : decode cX11_status 68 = .ok (.getfield 172, 3) := bq_o180 (a := 0) (b := 172) (bq_3 bwX11_status_64 4 (by decide +kernel)) rfl
theorem dX11_status_71 : decode cX11_status 71 = .ok (.ireturn, 1) := bq_o172 (bq_of bwX11_status_64 7 (by decide +kernel))
theorem dX11_status_72 : decode cX11_status 72 = .ok (.aload_n 0, 1) := bq_o42 (bq_of bwX11_status_64 8 (by decide +kernel))
theorem dX11_status_73 : decode cX11_status 73 = .ok (.getfield 10, 3) := bq_o180 (a := 0) (b := 10) (bq_3 bwX11_status_64 9 (by decide +kernel)) rfl
theorem dX11_status_76 : decode cX11_status 76 = .ok (.getfield 175, 3) := bq_o180 (a := 0) (b := 175) (bq_3 bwX11_status_64 12 (by decide +kernel)) rfl
theorem dX11_status_79 : decode cX11_status 79 = .ok (.ireturn, 1) := bq_o172 (bq_of bwX11_status_64 15 (by decide +kernel))
theorem dX11_status_80 : decode cX11_status 80 = .ok (.aload_n 0, 1) := bq_o42 (bq_of bwX11_status_64 16 (by decide +kernel))
theorem dX11_status_81 : decode cX11_status 81 = .ok (.getfield 10, 3) := bq_o180 (a := 0) (b := 10) (bq_3 bwX11_status_64 17 (by decide +kernel)) rfl
theorem dX11_status_84 : decode cX11_status 84 = .ok (.invokevirtual 317, 3) := bq_o182 (a := 1) (b := 61) (bq_3 bwX11_status_64 20 (by decide +kernel)) rfl
theorem dX11_status_87 : decode cX11_status 87 = .ok (.ireturn, 1) := bq_o172 (bq_of bwX11_status_64 23 (by decide +kernel))
theorem dX11_status_88 : decode cX11_status 88 = .ok (.aload_n 0, 1) := bq_o42 (bq_of bwX11_status_64 24 (by decide +kernel))
theorem dX11_status_89 : decode cX11_status 89 = .ok (.getfield 10, 3) := bq_o180 (a := 0) (b := 10) (bq_3 bwX11_status_64 25 (by decide +kernel)) rfl
theorem dX11_status_92 : decode cX11_status 92 = .ok (.getfield 320, 3) := bq_o180 (a := 1) (b := 64) (bq_3 bwX11_status_64 28 (by decide +kernel)) rfl
theorem dX11_status_95 : decode cX11_status 95 = .ok (.ireturn, 1) := bq_o172 (bq_of bwX11_status_64 31 (by decide +kernel))
theorem dX11_status_96 : decode cX11_status 96 = .ok (.aload_n 0, 1) := bq_o42 (bq_of bwX11_status_64 32 (by decide +kernel))
theorem dX11_status_97 : decode cX11_status 97 = .ok (.getfield 10, 3) := bq_o180 (a := 0) (b := 10) (bq_3 bwX11_status_64 33 (by decide +kernel)) rfl
theorem dX11_status_100 : decode cX11_status 100 = .ok (.getfield 323, 3) := bq_o180 (a := 1) (b := 67) (bq_3 bwX11_status_64 36 (by decide +kernel)) rfl
theorem dX11_status_103 : decode cX11_status 103 = .ok (.ireturn, 1) := bq_o172 (bq_of bwX11_status_64 39 (by decide +kernel))
theorem dX11_status_104 : decode cX11_status 104 = .ok (.aload_n 0, 1) := bq_o42 (bq_of bwX11_status_64 40 (by decide +kernel))
theorem dX11_status_105 : decode cX11_status 105 = .ok (.getfield 10, 3) := bq_o180 (a := 0) (b := 10) (bq_3 bwX11_status_64 41 (by decide +kernel)) rfl
theorem dX11_status_108 : decode cX11_status 108 = .ok (.getfield 326, 3) := bq_o180 (a := 1) (b := 70) (bq_3 bwX11_status_64 44 (by decide +kernel)) rfl
theorem dX11_status_111 : decode cX11_status 111 = .ok (.ireturn, 1) := bq_o172 (bq_of bwX11_status_64 47 (by decide +kernel))
theorem dX11_status_112 : decode cX11_status 112 = .ok (.aload_n 0, 1) := bq_o42 (bq_of bwX11_status_64 48 (by decide +kernel))
theorem dX11_status_113 : decode cX11_status 113 = .ok (.getfield 39, 3) := bq_o180 (a := 0) (b := 39) (bq_3 bwX11_status_64 49 (by decide +kernel)) rfl
theorem dX11_status_116 : decode cX11_status 116 = .ok (.getfield 185, 3) := bq_o180 (a := 0) (b := 185) (bq_3 bwX11_status_64 52 (by decide +kernel)) rfl
theorem dX11_status_119 : decode cX11_status 119 = .ok (.ireturn, 1) := bq_o172 (bq_of bwX11_status_64 55 (by decide +kernel))
theorem dX11_status_120 : decode cX11_status 120 = .ok (.aload_n 0, 1) := bq_o42 (bq_of bwX11_status_64 56 (by decide +kernel))
theorem dX11_status_121 : decode cX11_status 121 = .ok (.getfield 10, 3) := bq_o180 (a := 0) (b := 10) (bq_3 bwX11_status_64 57 (by decide +kernel)) rfl
theorem dX11_status_124 : decode cX11_status 124 = .ok (.getfield 310, 3) := bq_o180 (a := 1) (b := 54) (bq_3 bwX11_status_64 60 (by decide +kernel)) rfl
theorem dX11_status_127 : decode cX11_status 127 = .ok (.ireturn, 1) := bq_o172 (bq_of bwX11_status_64 63 (by decide +kernel))
def bwX11_status_128l : List Nat := [42, 182, 1, 73, 172, 27, 16, 12, 161, 0, 21, 27, 16, 16, 163, 0, 15, 42, 180, 0, 49, 27, 16, 10, 100, 46, 167, 0, 4, 2, 172]
theorem bwX11_status_128 : ((cX11_status.data.toList.drop 128).take 31).map UInt8.toNat = bwX11_status_128l := by decide +kernel
theorem dX11_status_128 : decode cX11_status 128 = .ok (.aload_n 0, 1) := bq_o42 (bq_of bwX11_status_128 0 (by decide +kernel))
theorem dX11_status_129 : decode cX11_status 129 = .ok (.invokevirtual 329, 3) := bq_o182 (a := 1) (b := 73) (bq_3 bwX11_status_128 1 (by decide +kernel)) rfl
theorem dX11_status_132 : decode cX11_status 132 = .ok (.ireturn, 1) := bq_o172 (bq_of bwX11_status_128 4 (by decide +kernel))
theorem dX11_status_133 : decode cX11_status 133 = .ok (.iload_n 1, 1) := bq_o27 (bq_of bwX11_status_128 5 (by decide +kernel))
theorem dX11_status_134 : decode cX11_status 134 = .ok (.bipush 12, 2) := bq_o16 (a := 12) (bq_2 bwX11_status_128 6 (by decide +kernel)) (by decide +kernel)
theorem dX11_status_136 : decode cX11_status 136 = .ok (.if_icmp .lt 21, 3) := bq_o161 (a := 0) (b := 21) (bq_3 bwX11_status_128 8 (by decide +kernel)) (by decide +kernel)
theorem dX11_status_139 : decode cX11_status 139 = .ok (.iload_n 1, 1) := bq_o27 (bq_of bwX11_status_128 11 (by decide +kernel))
theorem dX11_status_140 : decode cX11_status 140 = .ok (.bipush 16, 2) := bq_o16 (a := 16) (bq_2 bwX11_status_128 12 (by decide +kernel)) (by decide +kernel)
theorem dX11_status_142 : decode cX11_status 142 = .ok (.if_icmp .gt 15, 3) := bq_o163 (a := 0) (b := 15) (bq_3 bwX11_status_128 14 (by decide +kernel)) (by decide +kernel)
theorem dX11_status_145 : decode cX11_status 145 = .ok (.aload_n 0, 1) := bq_o42 (bq_of bwX11_status_128 17 (by decide +kernel))
theorem dX11_status_146 : decode cX11_status 146 = .ok (.getfield 49, 3) := bq_o180 (a := 0) (b := 49) (bq_3 bwX11_status_128 18 (by decide +kernel)) rfl
theorem dX11_status_149 : decode cX11_status 149 = .ok (.iload_n 1, 1) := bq_o27 (bq_of bwX11_status_128 21 (by decide +kernel))
theorem dX11_status_150 : decode cX11_status 150 = .ok (.bipush 10, 2) := bq_o16 (a := 10) (bq_2 bwX11_status_128 22 (by decide +kernel)) (by decide +kernel)
theorem dX11_status_152 : decode cX11_status 152 = .ok (.isub, 1) := bq_o100 (bq_of bwX11_status_128 24 (by decide +kernel))
theorem dX11_status_153 : decode cX11_status 153 = .ok (.iaload, 1) := bq_o46 (bq_of bwX11_status_128 25 (by decide +kernel))
theorem dX11_status_154 : decode cX11_status 154 = .ok (.goto 4, 3) := bq_o167 (a := 0) (b := 4) (bq_3 bwX11_status_128 26 (by decide +kernel)) (by decide +kernel)
theorem dX11_status_157 : decode cX11_status 157 = .ok (.iconst (-1), 1) := bq_o2 (bq_of bwX11_status_128 29 (by decide +kernel))
theorem dX11_status_158 : decode cX11_status 158 = .ok (.ireturn, 1) := bq_o172 (bq_of bwX11_status_128 30 (by decide +kernel))
theorem dX11_refuse_0 : decode cX11_refuse 0 = .ok (.iload_n 1, 1) := by decide +kernel
theorem dX11_refuse_1 : decode cX11_refuse 1 = .ok (.bipush (-2), 2) := by decide +kernel
theorem dX11_refuse_3 : decode cX11_refuse 3 = .ok (.if_icmp .gt 20, 3) := by decide +kernel
theorem dX11_refuse_6 : decode cX11_refuse 6 = .ok (.iload_n 1, 1) := by decide +kernel
theorem dX11_refuse_7 : decode cX11_refuse 7 = .ok (.bipush (-6), 2) := by decide +kernel
theorem dX11_refuse_9 : decode cX11_refuse 9 = .ok (.if_icmp .lt 14, 3) := by decide +kernel
theorem dX11_refuse_12 : decode cX11_refuse 12 = .ok (.aload_n 0, 1) := by decide +kernel
theorem dX11_refuse_13 : decode cX11_refuse 13 = .ok (.getfield 49, 3) := by decide +kernel
theorem dX11_refuse_16 : decode cX11_refuse 16 = .ok (.iload_n 1, 1) := by decide +kernel
theorem dX11_refuse_17 : decode cX11_refuse 17 = .ok (.ineg, 1) := by decide +kernel
theorem dX11_refuse_18 : decode cX11_refuse 18 = .ok (.dup2, 1) := by decide +kernel
theorem dX11_refuse_19 : decode cX11_refuse 19 = .ok (.iaload, 1) := by decide +kernel
theorem dX11_refuse_20 : decode cX11_refuse 20 = .ok (.iconst 1, 1) := by decide +kernel
theorem dX11_refuse_21 : decode cX11_refuse 21 = .ok (.iadd, 1) := by decide +kernel
theorem dX11_refuse_22 : decode cX11_refuse 22 = .ok (.iastore, 1) := by decide +kernel
theorem dX11_refuse_23 : decode cX11_refuse 23 = .ok (.iload_n 1, 1) := by decide +kernel
theorem dX11_refuse_24 : decode cX11_refuse 24 = .ok (.ireturn, 1) := by decide +kernel
theorem dX11_isShelf_0 : decode cX11_isShelf 0 = .ok (.iload_n 0, 1) := by decide +kernel
theorem dX11_isShelf_1 : decode cX11_isShelf 1 = .ok (.ifCond .lt 13, 3) := by decide +kernel
theorem dX11_isShelf_4 : decode cX11_isShelf 4 = .ok (.iload_n 0, 1) := by decide +kernel
theorem dX11_isShelf_5 : decode cX11_isShelf 5 = .ok (.bipush 8, 2) := by decide +kernel
theorem dX11_isShelf_7 : decode cX11_isShelf 7 = .ok (.if_icmp .ge 7, 3) := by decide +kernel
theorem dX11_isShelf_10 : decode cX11_isShelf 10 = .ok (.iconst 1, 1) := by decide +kernel
theorem dX11_isShelf_11 : decode cX11_isShelf 11 = .ok (.goto 4, 3) := by decide +kernel
theorem dX11_isShelf_14 : decode cX11_isShelf 14 = .ok (.iconst 0, 1) := by decide +kernel
theorem dX11_isShelf_15 : decode cX11_isShelf 15 = .ok (.ireturn, 1) := by decide +kernel
theorem dX11_isHour_0 : decode cX11_isHour 0 = .ok (.iload_n 0, 1) := by decide +kernel
theorem dX11_isHour_1 : decode cX11_isHour 1 = .ok (.ifCond .lt 13, 3) := by decide +kernel
theorem dX11_isHour_4 : decode cX11_isHour 4 = .ok (.iload_n 0, 1) := by decide +kernel
theorem dX11_isHour_5 : decode cX11_isHour 5 = .ok (.bipush 24, 2) := by decide +kernel
theorem dX11_isHour_7 : decode cX11_isHour 7 = .ok (.if_icmp .ge 7, 3) := by decide +kernel
theorem dX11_isHour_10 : decode cX11_isHour 10 = .ok (.iconst 1, 1) := by decide +kernel
theorem dX11_isHour_11 : decode cX11_isHour 11 = .ok (.goto 4, 3) := by decide +kernel
theorem dX11_isHour_14 : decode cX11_isHour 14 = .ok (.iconst 0, 1) := by decide +kernel
theorem dX11_isHour_15 : decode cX11_isHour 15 = .ok (.ireturn, 1) := by decide +kernel
theorem dX11_isCost_0 : decode cX11_isCost 0 = .ok (.iload_n 0, 1) := by decide +kernel
theorem dX11_isCost_1 : decode cX11_isCost 1 = .ok (.ifCond .lt 13, 3) := by decide +kernel
theorem dX11_isCost_4 : decode cX11_isCost 4 = .ok (.iload_n 0, 1) := by decide +kernel
theorem dX11_isCost_5 : decode cX11_isCost 5 = .ok (.bipush 10, 2) := by decide +kernel
theorem dX11_isCost_7 : decode cX11_isCost 7 = .ok (.if_icmp .ge 7, 3) := by decide +kernel
theorem dX11_isCost_10 : decode cX11_isCost 10 = .ok (.iconst 1, 1) := by decide +kernel
theorem dX11_isCost_11 : decode cX11_isCost 11 = .ok (.goto 4, 3) := by decide +kernel
theorem dX11_isCost_14 : decode cX11_isCost 14 = .ok (.iconst 0, 1) := by decide +kernel
theorem dX11_isCost_15 : decode cX11_isCost 15 = .ok (.ireturn, 1) := by decide +kernel
theorem dX11_canBeSecret_0 : decode cX11_canBeSecret 0 = .ok (.aload_n 0, 1) := by decide +kernel
theorem dX11_canBeSecret_1 : decode cX11_canBeSecret 1 = .ok (.getfield 10, 3) := by decide +kernel
theorem dX11_canBeSecret_4 : decode cX11_canBeSecret 4 = .ok (.iload_n 1, 1) := by decide +kernel
theorem dX11_canBeSecret_5 : decode cX11_canBeSecret 5 = .ok (.invokevirtual 207, 3) := by decide +kernel
theorem dX11_canBeSecret_8 : decode cX11_canBeSecret 8 = .ok (.ifCond .eq 15, 3) := by decide +kernel
theorem dX11_canBeSecret_11 : decode cX11_canBeSecret 11 = .ok (.iload_n 1, 1) := by decide +kernel
theorem dX11_canBeSecret_12 : decode cX11_canBeSecret 12 = .ok (.invokestatic 202, 3) := by decide +kernel
theorem dX11_canBeSecret_15 : decode cX11_canBeSecret 15 = .ok (.iconst 5, 1) := by decide +kernel
theorem dX11_canBeSecret_16 : decode cX11_canBeSecret 16 = .ok (.if_icmp .gt 7, 3) := by decide +kernel
theorem dX11_canBeSecret_19 : decode cX11_canBeSecret 19 = .ok (.iconst 1, 1) := by decide +kernel
theorem dX11_canBeSecret_20 : decode cX11_canBeSecret 20 = .ok (.goto 4, 3) := by decide +kernel
theorem dX11_canBeSecret_23 : decode cX11_canBeSecret 23 = .ok (.iconst 0, 1) := by decide +kernel
theorem dX11_canBeSecret_24 : decode cX11_canBeSecret 24 = .ok (.ireturn, 1) := by decide +kernel
theorem dX11_holdsRow_0 : decode cX11_holdsRow 0 = .ok (.iload_n 1, 1) := by decide +kernel
theorem dX11_holdsRow_1 : decode cX11_holdsRow 1 = .ok (.invokestatic 54, 3) := by decide +kernel
theorem dX11_holdsRow_4 : decode cX11_holdsRow 4 = .ok (.ifCond .eq 19, 3) := by decide +kernel
theorem dX11_holdsRow_7 : decode cX11_holdsRow 7 = .ok (.aload_n 0, 1) := by decide +kernel
theorem dX11_holdsRow_8 : decode cX11_holdsRow 8 = .ok (.getfield 45, 3) := by decide +kernel
theorem dX11_holdsRow_11 : decode cX11_holdsRow 11 = .ok (.iload_n 1, 1) := by decide +kernel
theorem dX11_holdsRow_12 : decode cX11_holdsRow 12 = .ok (.aaload, 1) := by decide +kernel
theorem dX11_holdsRow_13 : decode cX11_holdsRow 13 = .ok (.invokevirtual 80, 3) := by decide +kernel
theorem dX11_holdsRow_16 : decode cX11_holdsRow 16 = .ok (.ifCond .eq 7, 3) := by decide +kernel
theorem dX11_holdsRow_19 : decode cX11_holdsRow 19 = .ok (.iconst 1, 1) := by decide +kernel
theorem dX11_holdsRow_20 : decode cX11_holdsRow 20 = .ok (.goto 4, 3) := by decide +kernel
theorem dX11_holdsRow_23 : decode cX11_holdsRow 23 = .ok (.iconst 0, 1) := by decide +kernel
theorem dX11_holdsRow_24 : decode cX11_holdsRow 24 = .ok (.ireturn, 1) := by decide +kernel
theorem dX11_whyNoRow_0 : decode cX11_whyNoRow 0 = .ok (.iload_n 1, 1) := by decide +kernel
theorem dX11_whyNoRow_1 : decode cX11_whyNoRow 1 = .ok (.invokestatic 54, 3) := by decide +kernel
theorem dX11_whyNoRow_4 : decode cX11_whyNoRow 4 = .ok (.ifCond .ne 6, 3) := by decide +kernel
theorem dX11_whyNoRow_7 : decode cX11_whyNoRow 7 = .ok (.bipush (-2), 2) := by decide +kernel
theorem dX11_whyNoRow_9 : decode cX11_whyNoRow 9 = .ok (.ireturn, 1) := by decide +kernel
theorem dX11_whyNoRow_10 : decode cX11_whyNoRow 10 = .ok (.aload_n 0, 1) := by decide +kernel
theorem dX11_whyNoRow_11 : decode cX11_whyNoRow 11 = .ok (.getfield 45, 3) := by decide +kernel
theorem dX11_whyNoRow_14 : decode cX11_whyNoRow 14 = .ok (.iload_n 1, 1) := by decide +kernel
theorem dX11_whyNoRow_15 : decode cX11_whyNoRow 15 = .ok (.aaload, 1) := by decide +kernel
theorem dX11_whyNoRow_16 : decode cX11_whyNoRow 16 = .ok (.getfield 84, 3) := by decide +kernel
theorem dX11_whyNoRow_19 : decode cX11_whyNoRow 19 = .ok (.ifnull 8, 3) := by decide +kernel
theorem dX11_whyNoRow_22 : decode cX11_whyNoRow 22 = .ok (.bipush (-3), 2) := by decide +kernel
theorem dX11_whyNoRow_24 : decode cX11_whyNoRow 24 = .ok (.goto 5, 3) := by decide +kernel
theorem dX11_whyNoRow_27 : decode cX11_whyNoRow 27 = .ok (.bipush (-4), 2) := by decide +kernel
theorem dX11_whyNoRow_29 : decode cX11_whyNoRow 29 = .ok (.ireturn, 1) := by decide +kernel
theorem dX11_manIn_0 : decode cX11_manIn 0 = .ok (.iload_n 1, 1) := by decide +kernel
theorem dX11_manIn_1 : decode cX11_manIn 1 = .ok (.invokestatic 54, 3) := by decide +kernel
theorem dX11_manIn_4 : decode cX11_manIn 4 = .ok (.ifCond .eq 15, 3) := by decide +kernel
theorem dX11_manIn_7 : decode cX11_manIn 7 = .ok (.aload_n 0, 1) := by decide +kernel
theorem dX11_manIn_8 : decode cX11_manIn 8 = .ok (.getfield 45, 3) := by decide +kernel
theorem dX11_manIn_11 : decode cX11_manIn 11 = .ok (.iload_n 1, 1) := by decide +kernel
theorem dX11_manIn_12 : decode cX11_manIn 12 = .ok (.aaload, 1) := by decide +kernel
theorem dX11_manIn_13 : decode cX11_manIn 13 = .ok (.getfield 84, 3) := by decide +kernel
theorem dX11_manIn_16 : decode cX11_manIn 16 = .ok (.goto 4, 3) := by decide +kernel
theorem dX11_manIn_19 : decode cX11_manIn 19 = .ok (.aconst_null, 1) := by decide +kernel
theorem dX11_manIn_20 : decode cX11_manIn 20 = .ok (.areturn, 1) := by decide +kernel
theorem dX11_whyNoMan_0 : decode cX11_whyNoMan 0 = .ok (.iload_n 1, 1) := by decide +kernel
theorem dX11_whyNoMan_1 : decode cX11_whyNoMan 1 = .ok (.invokestatic 54, 3) := by decide +kernel
theorem dX11_whyNoMan_4 : decode cX11_whyNoMan 4 = .ok (.ifCond .ne 6, 3) := by decide +kernel
theorem dX11_whyNoMan_7 : decode cX11_whyNoMan 7 = .ok (.bipush (-2), 2) := by decide +kernel
theorem dX11_whyNoMan_9 : decode cX11_whyNoMan 9 = .ok (.ireturn, 1) := by decide +kernel
theorem dX11_whyNoMan_10 : decode cX11_whyNoMan 10 = .ok (.aload_n 0, 1) := by decide +kernel
theorem dX11_whyNoMan_11 : decode cX11_whyNoMan 11 = .ok (.getfield 45, 3) := by decide +kernel
theorem dX11_whyNoMan_14 : decode cX11_whyNoMan 14 = .ok (.iload_n 1, 1) := by decide +kernel
theorem dX11_whyNoMan_15 : decode cX11_whyNoMan 15 = .ok (.aaload, 1) := by decide +kernel
theorem dX11_whyNoMan_16 : decode cX11_whyNoMan 16 = .ok (.invokevirtual 80, 3) := by decide +kernel
theorem dX11_whyNoMan_19 : decode cX11_whyNoMan 19 = .ok (.ifCond .eq 8, 3) := by decide +kernel
theorem dX11_whyNoMan_22 : decode cX11_whyNoMan 22 = .ok (.bipush (-3), 2) := by decide +kernel
theorem dX11_whyNoMan_24 : decode cX11_whyNoMan 24 = .ok (.goto 5, 3) := by decide +kernel
theorem dX11_whyNoMan_27 : decode cX11_whyNoMan 27 = .ok (.bipush (-4), 2) := by decide +kernel
theorem dX11_whyNoMan_29 : decode cX11_whyNoMan 29 = .ok (.ireturn, 1) := by decide +kernel
theorem dX11_countHeld_0 : decode cX11_countHeld 0 = .ok (.iconst 0, 1) := by decide +kernel
theorem dX11_countHeld_1 : decode cX11_countHeld 1 = .ok (.istore_n 1, 1) := by decide +kernel
theorem dX11_countHeld_2 : decode cX11_countHeld 2 = .ok (.iconst 0, 1) := by decide +kernel
theorem dX11_countHeld_3 : decode cX11_countHeld 3 = .ok (.istore_n 2, 1) := by decide +kernel
theorem dX11_countHeld_4 : decode cX11_countHeld 4 = .ok (.iload_n 2, 1) := by decide +kernel
theorem dX11_countHeld_5 : decode cX11_countHeld 5 = .ok (.bipush 8, 2) := by decide +kernel
theorem dX11_countHeld_7 : decode cX11_countHeld 7 = .ok (.if_icmp .ge 36, 3) := by decide +kernel
theorem dX11_countHeld_10 : decode cX11_countHeld 10 = .ok (.aload_n 0, 1) := by decide +kernel
theorem dX11_countHeld_11 : decode cX11_countHeld 11 = .ok (.getfield 45, 3) := by decide +kernel
theorem dX11_countHeld_14 : decode cX11_countHeld 14 = .ok (.iload_n 2, 1) := by decide +kernel
theorem dX11_countHeld_15 : decode cX11_countHeld 15 = .ok (.aaload, 1) := by decide +kernel
theorem dX11_countHeld_16 : decode cX11_countHeld 16 = .ok (.getfield 84, 3) := by decide +kernel
theorem dX11_countHeld_19 : decode cX11_countHeld 19 = .ok (.ifnonnull 15, 3) := by decide +kernel
theorem dX11_countHeld_22 : decode cX11_countHeld 22 = .ok (.aload_n 0, 1) := by decide +kernel
theorem dX11_countHeld_23 : decode cX11_countHeld 23 = .ok (.getfield 45, 3) := by decide +kernel
theorem dX11_countHeld_26 : decode cX11_countHeld 26 = .ok (.iload_n 2, 1) := by decide +kernel
theorem dX11_countHeld_27 : decode cX11_countHeld 27 = .ok (.aaload, 1) := by decide +kernel
theorem dX11_countHeld_28 : decode cX11_countHeld 28 = .ok (.invokevirtual 80, 3) := by decide +kernel
theorem dX11_countHeld_31 : decode cX11_countHeld 31 = .ok (.ifCond .eq 6, 3) := by decide +kernel
theorem dX11_countHeld_34 : decode cX11_countHeld 34 = .ok (.iinc 1 1, 3) := by decide +kernel
theorem dX11_countHeld_37 : decode cX11_countHeld 37 = .ok (.iinc 2 1, 3) := by decide +kernel
theorem dX11_countHeld_40 : decode cX11_countHeld 40 = .ok (.goto (-36), 3) := by decide +kernel
theorem dX11_countHeld_43 : decode cX11_countHeld 43 = .ok (.iload_n 1, 1) := by decide +kernel
theorem dX11_countHeld_44 : decode cX11_countHeld 44 = .ok (.ireturn, 1) := by decide +kernel
def bwX11_newCoachman_0l : List Nat := [26, 170, 0, 0, 0, 0, 0, 67, 0, 0, 0, 1, 0, 0, 0, 4, 0, 0, 0, 31, 0, 0, 0, 40, 0, 0, 0, 49, 0, 0, 0, 58, 187, 1, 76, 89, 27, 183, 1, 78, 176, 187, 1, 80, 89, 27, 183, 1, 82, 176, 187, 1, 83, 89, 27, 183, 1, 85, 176, 187, 1, 86, 89, 27, 183, 1]
theorem bwX11_newCoachman_0 : ((cX11_newCoachman.data.toList.drop 0).take 66).map UInt8.toNat = bwX11_newCoachman_0l := by decide +kernel
theorem dX11_newCoachman_0 : decode cX11_newCoachman 0 = .ok (.iload_n 0, 1) := bq_o26 (bq_of bwX11_newCoachman_0 0 (by decide +kernel))
theorem dX11_newCoachman_1 : decode cX11_newCoachman 1 = .ok (.tableswitch 67 1 4 #[31, 40, 49, 58], 31) := by decide +kernel
theorem dX11_newCoachman_32 : decode cX11_newCoachman 32 = .ok (.new 332, 3) := bq_o187 (a := 1) (b := 76) (bq_3 bwX11_newCoachman_0 32 (by decide +kernel)) rfl
theorem dX11_newCoachman_35 : decode cX11_newCoachman 35 = .ok (.dup, 1) := bq_o89 (bq_of bwX11_newCoachman_0 35 (by decide +kernel))
theorem dX11_newCoachman_36 : decode cX11_newCoachman 36 = .ok (.iload_n 1, 1) := bq_o27 (bq_of bwX11_newCoachman_0 36 (by decide +kernel))
theorem dX11_newCoachman_37 : decode cX11_newCoachman 37 = .ok (.invokespecial 334, 3) := bq_o183 (a := 1) (b := 78) (bq_3 bwX11_newCoachman_0 37 (by decide +kernel)) rfl
theorem dX11_newCoachman_40 : decode cX11_newCoachman 40 = .ok (.areturn, 1) := bq_o176 (bq_of bwX11_newCoachman_0 40 (by decide +kernel))
theorem dX11_newCoachman_41 : decode cX11_newCoachman 41 = .ok (.new 336, 3) := bq_o187 (a := 1) (b := 80) (bq_3 bwX11_newCoachman_0 41 (by decide +kernel)) rfl
theorem dX11_newCoachman_44 : decode cX11_newCoachman 44 = .ok (.dup, 1) := bq_o89 (bq_of bwX11_newCoachman_0 44 (by decide +kernel))
theorem dX11_newCoachman_45 : decode cX11_newCoachman 45 = .ok (.iload_n 1, 1) := bq_o27 (bq_of bwX11_newCoachman_0 45 (by decide +kernel))
theorem dX11_newCoachman_46 : decode cX11_newCoachman 46 = .ok (.invokespecial 338, 3) := bq_o183 (a := 1) (b := 82) (bq_3 bwX11_newCoachman_0 46 (by decide +kernel)) rfl
theorem dX11_newCoachman_49 : decode cX11_newCoachman 49 = .ok (.areturn, 1) := bq_o176 (bq_of bwX11_newCoachman_0 49 (by decide +kernel))
theorem dX11_newCoachman_50 : decode cX11_newCoachman 50 = .ok (.new 339, 3) := bq_o187 (a := 1) (b := 83) (bq_3 bwX11_newCoachman_0 50 (by decide +kernel)) rfl
theorem dX11_newCoachman_53 : decode cX11_newCoachman 53 = .ok (.dup, 1) := bq_o89 (bq_of bwX11_newCoachman_0 53 (by decide +kernel))
theorem dX11_newCoachman_54 : decode cX11_newCoachman 54 = .ok (.iload_n 1, 1) := bq_o27 (bq_of bwX11_newCoachman_0 54 (by decide +kernel))
theorem dX11_newCoachman_55 : decode cX11_newCoachman 55 = .ok (.invokespecial 341, 3) := bq_o183 (a := 1) (b := 85) (bq_3 bwX11_newCoachman_0 55 (by decide +kernel)) rfl
theorem dX11_newCoachman_58 : decode cX11_newCoachman 58 = .ok (.areturn, 1) := bq_o176 (bq_of bwX11_newCoachman_0 58 (by decide +kernel))
theorem dX11_newCoachman_59 : decode cX11_newCoachman 59 = .ok (.new 342, 3) := bq_o187 (a := 1) (b := 86) (bq_3 bwX11_newCoachman_0 59 (by decide +kernel)) rfl
theorem dX11_newCoachman_62 : decode cX11_newCoachman 62 = .ok (.dup, 1) := bq_o89 (bq_of bwX11_newCoachman_0 62 (by decide +kernel))
theorem dX11_newCoachman_63 : decode cX11_newCoachman 63 = .ok (.iload_n 1, 1) := bq_o27 (bq_of bwX11_newCoachman_0 63 (by decide +kernel))
def bwX11_newCoachman_64l : List Nat := [183, 1, 88, 176, 187, 1, 89, 89, 27, 183, 1, 91, 176]
theorem bwX11_newCoachman_64 : ((cX11_newCoachman.data.toList.drop 64).take 13).map UInt8.toNat = bwX11_newCoachman_64l := by decide +kernel
theorem dX11_newCoachman_64 : decode cX11_newCoachman 64 = .ok (.invokespecial 344, 3) := bq_o183 (a := 1) (b := 88) (bq_3 bwX11_newCoachman_64 0 (by decide +kernel)) rfl
theorem dX11_newCoachman_67 : decode cX11_newCoachman 67 = .ok (.areturn, 1) := bq_o176 (bq_of bwX11_newCoachman_64 3 (by decide +kernel))
theorem dX11_newCoachman_68 : decode cX11_newCoachman 68 = .ok (.new 345, 3) := bq_o187 (a := 1) (b := 89) (bq_3 bwX11_newCoachman_64 4 (by decide +kernel)) rfl
theorem dX11_newCoachman_71 : decode cX11_newCoachman 71 = .ok (.dup, 1) := bq_o89 (bq_of bwX11_newCoachman_64 7 (by decide +kernel))
theorem dX11_newCoachman_72 : decode cX11_newCoachman 72 = .ok (.iload_n 1, 1) := bq_o27 (bq_of bwX11_newCoachman_64 8 (by decide +kernel))
theorem dX11_newCoachman_73 : decode cX11_newCoachman 73 = .ok (.invokespecial 347, 3) := bq_o183 (a := 1) (b := 91) (bq_3 bwX11_newCoachman_64 9 (by decide +kernel)) rfl
theorem dX11_newCoachman_76 : decode cX11_newCoachman 76 = .ok (.areturn, 1) := bq_o176 (bq_of bwX11_newCoachman_64 12 (by decide +kernel))
theorem dX11_think_0 : decode cX11_think 0 = .ok (.aload_n 0, 1) := by decide +kernel
theorem dX11_think_1 : decode cX11_think 1 = .ok (.getfield 25, 3) := by decide +kernel
theorem dX11_think_4 : decode cX11_think 4 = .ok (.aload_n 0, 1) := by decide +kernel
theorem dX11_think_5 : decode cX11_think 5 = .ok (.getfield 10, 3) := by decide +kernel
theorem dX11_think_8 : decode cX11_think 8 = .ok (.invokevirtual 128, 3) := by decide +kernel
theorem dX11_think_11 : decode cX11_think 11 = .ok (.aload_n 0, 1) := by decide +kernel
theorem dX11_think_12 : decode cX11_think 12 = .ok (.getfield 32, 3) := by decide +kernel
theorem dX11_think_15 : decode cX11_think 15 = .ok (.aload_n 0, 1) := by decide +kernel
theorem dX11_think_16 : decode cX11_think 16 = .ok (.getfield 10, 3) := by decide +kernel
theorem dX11_think_19 : decode cX11_think 19 = .ok (.aload_n 0, 1) := by decide +kernel
theorem dX11_think_20 : decode cX11_think 20 = .ok (.getfield 25, 3) := by decide +kernel
theorem dX11_think_23 : decode cX11_think 23 = .ok (.aload_n 1, 1) := by decide +kernel
theorem dX11_think_24 : decode cX11_think 24 = .ok (.invokevirtual 254, 3) := by decide +kernel
theorem dX11_think_27 : decode cX11_think 27 = .ok (.return_, 1) := by decide +kernel
theorem dX11_whyNotTold_0 : decode cX11_whyNotTold 0 = .ok (.iload_n 1, 1) := by decide +kernel
theorem dX11_whyNotTold_1 : decode cX11_whyNotTold 1 = .ok (.invokestatic 54, 3) := by decide +kernel
theorem dX11_whyNotTold_4 : decode cX11_whyNotTold 4 = .ok (.ifCond .eq 13, 3) := by decide +kernel
theorem dX11_whyNotTold_7 : decode cX11_whyNotTold 7 = .ok (.iload_n 2, 1) := by decide +kernel
theorem dX11_whyNotTold_8 : decode cX11_whyNotTold 8 = .ok (.ifCond .lt 9, 3) := by decide +kernel
theorem dX11_whyNotTold_11 : decode cX11_whyNotTold 11 = .ok (.iload_n 2, 1) := by decide +kernel
theorem dX11_whyNotTold_12 : decode cX11_whyNotTold 12 = .ok (.bipush 7, 2) := by decide +kernel
theorem dX11_whyNotTold_14 : decode cX11_whyNotTold 14 = .ok (.if_icmp .le 6, 3) := by decide +kernel
theorem dX11_whyNotTold_17 : decode cX11_whyNotTold 17 = .ok (.bipush (-2), 2) := by decide +kernel
theorem dX11_whyNotTold_19 : decode cX11_whyNotTold 19 = .ok (.ireturn, 1) := by decide +kernel
theorem dX11_whyNotTold_20 : decode cX11_whyNotTold 20 = .ok (.aload_n 0, 1) := by decide +kernel
theorem dX11_whyNotTold_21 : decode cX11_whyNotTold 21 = .ok (.iload_n 1, 1) := by decide +kernel
theorem dX11_whyNotTold_22 : decode cX11_whyNotTold 22 = .ok (.invokevirtual 66, 3) := by decide +kernel
theorem dX11_whyNotTold_25 : decode cX11_whyNotTold 25 = .ok (.ifCond .ne 9, 3) := by decide +kernel
theorem dX11_whyNotTold_28 : decode cX11_whyNotTold 28 = .ok (.aload_n 0, 1) := by decide +kernel
theorem dX11_whyNotTold_29 : decode cX11_whyNotTold 29 = .ok (.iload_n 1, 1) := by decide +kernel
theorem dX11_whyNotTold_30 : decode cX11_whyNotTold 30 = .ok (.invokevirtual 69, 3) := by decide +kernel
theorem dX11_whyNotTold_33 : decode cX11_whyNotTold 33 = .ok (.ireturn, 1) := by decide +kernel
theorem dX11_whyNotTold_34 : decode cX11_whyNotTold 34 = .ok (.iload_n 2, 1) := by decide +kernel
theorem dX11_whyNotTold_35 : decode cX11_whyNotTold 35 = .ok (.aload_n 0, 1) := by decide +kernel
theorem dX11_whyNotTold_36 : decode cX11_whyNotTold 36 = .ok (.getfield 45, 3) := by decide +kernel
theorem dX11_whyNotTold_39 : decode cX11_whyNotTold 39 = .ok (.iload_n 1, 1) := by decide +kernel
theorem dX11_whyNotTold_40 : decode cX11_whyNotTold 40 = .ok (.aaload, 1) := by decide +kernel
theorem dX11_whyNotTold_41 : decode cX11_whyNotTold 41 = .ok (.getfield 72, 3) := by decide +kernel
theorem dX11_whyNotTold_44 : decode cX11_whyNotTold 44 = .ok (.if_icmp .le 8, 3) := by decide +kernel
theorem dX11_whyNotTold_47 : decode cX11_whyNotTold 47 = .ok (.bipush (-2), 2) := by decide +kernel
theorem dX11_whyNotTold_49 : decode cX11_whyNotTold 49 = .ok (.goto 4, 3) := by decide +kernel
theorem dX11_whyNotTold_52 : decode cX11_whyNotTold 52 = .ok (.iconst 0, 1) := by decide +kernel
theorem dX11_whyNotTold_53 : decode cX11_whyNotTold 53 = .ok (.ireturn, 1) := by decide +kernel
theorem dX11_whyNotRidden_0 : decode cX11_whyNotRidden 0 = .ok (.aload_n 0, 1) := by decide +kernel
theorem dX11_whyNotRidden_1 : decode cX11_whyNotRidden 1 = .ok (.iload_n 1, 1) := by decide +kernel
theorem dX11_whyNotRidden_2 : decode cX11_whyNotRidden 2 = .ok (.iload_n 2, 1) := by decide +kernel
theorem dX11_whyNotRidden_3 : decode cX11_whyNotRidden 3 = .ok (.invokevirtual 285, 3) := by decide +kernel
theorem dX11_whyNotRidden_6 : decode cX11_whyNotRidden 6 = .ok (.istore_n 3, 1) := by decide +kernel
theorem dX11_whyNotRidden_7 : decode cX11_whyNotRidden 7 = .ok (.iload_n 3, 1) := by decide +kernel
theorem dX11_whyNotRidden_8 : decode cX11_whyNotRidden 8 = .ok (.ifCond .eq 5, 3) := by decide +kernel
theorem dX11_whyNotRidden_11 : decode cX11_whyNotRidden 11 = .ok (.iload_n 3, 1) := by decide +kernel
theorem dX11_whyNotRidden_12 : decode cX11_whyNotRidden 12 = .ok (.ireturn, 1) := by decide +kernel
theorem dX11_whyNotRidden_13 : decode cX11_whyNotRidden 13 = .ok (.aload_n 0, 1) := by decide +kernel
theorem dX11_whyNotRidden_14 : decode cX11_whyNotRidden 14 = .ok (.iload_n 1, 1) := by decide +kernel
theorem dX11_whyNotRidden_15 : decode cX11_whyNotRidden 15 = .ok (.iload_n 2, 1) := by decide +kernel
theorem dX11_whyNotRidden_16 : decode cX11_whyNotRidden 16 = .ok (.invokevirtual 288, 3) := by decide +kernel
theorem dX11_whyNotRidden_19 : decode cX11_whyNotRidden 19 = .ok (.iconst (-1), 1) := by decide +kernel
theorem dX11_whyNotRidden_20 : decode cX11_whyNotRidden 20 = .ok (.if_icmp .eq 8, 3) := by decide +kernel
theorem dX11_whyNotRidden_23 : decode cX11_whyNotRidden 23 = .ok (.bipush (-5), 2) := by decide +kernel
theorem dX11_whyNotRidden_25 : decode cX11_whyNotRidden 25 = .ok (.goto 4, 3) := by decide +kernel
theorem dX11_whyNotRidden_28 : decode cX11_whyNotRidden 28 = .ok (.iconst 0, 1) := by decide +kernel
theorem dX11_whyNotRidden_29 : decode cX11_whyNotRidden 29 = .ok (.ireturn, 1) := by decide +kernel
def bwX11_firstWrong_0l : List Nat := [42, 180, 0, 25, 42, 180, 0, 10, 182, 0, 128, 3, 62, 3, 54, 4, 21, 4, 28, 162, 0, 79, 42, 180, 0, 45, 27, 50, 180, 0, 91, 21, 4, 47, 55, 5, 22, 5, 9, 148, 155, 0, 17, 22, 5, 42, 180, 0, 10, 182, 0, 132, 133, 148, 158, 0, 6, 21, 4, 172, 22, 5, 136, 54, 7, 42]
theorem bwX11_firstWrong_0 : ((cX11_firstWrong.data.toList.drop 0).take 66).map UInt8.toNat = bwX11_firstWrong_0l := by decide +kernel
theorem dX11_firstWrong_0 : decode cX11_firstWrong 0 = .ok (.aload_n 0, 1) := bq_o42 (bq_of bwX11_firstWrong_0 0 (by decide +kernel))
theorem dX11_firstWrong_1 : decode cX11_firstWrong 1 = .ok (.getfield 25, 3) := bq_o180 (a := 0) (b := 25) (bq_3 bwX11_firstWrong_0 1 (by decide +kernel)) rfl
theorem dX11_firstWrong_4 : decode cX11_firstWrong 4 = .ok (.aload_n 0, 1) := bq_o42 (bq_of bwX11_firstWrong_0 4 (by decide +kernel))
theorem dX11_firstWrong_5 : decode cX11_firstWrong 5 = .ok (.getfield 10, 3) := bq_o180 (a := 0) (b := 10) (bq_3 bwX11_firstWrong_0 5 (by decide +kernel)) rfl
theorem dX11_firstWrong_8 : decode cX11_firstWrong 8 = .ok (.invokevirtual 128, 3) := bq_o182 (a := 0) (b := 128) (bq_3 bwX11_firstWrong_0 8 (by decide +kernel)) rfl
theorem dX11_firstWrong_11 : decode cX11_firstWrong 11 = .ok (.iconst 0, 1) := bq_o3 (bq_of bwX11_firstWrong_0 11 (by decide +kernel))
theorem dX11_firstWrong_12 : decode cX11_firstWrong 12 = .ok (.istore_n 3, 1) := bq_o62 (bq_of bwX11_firstWrong_0 12 (by decide +kernel))
theorem dX11_firstWrong_13 : decode cX11_firstWrong 13 = .ok (.iconst 0, 1) := bq_o3 (bq_of bwX11_firstWrong_0 13 (by decide +kernel))
theorem dX11_firstWrong_14 : decode cX11_firstWrong 14 = .ok (.istore 4, 2) := bq_o54 (a := 4) (bq_2 bwX11_firstWrong_0 14 (by decide +kernel)) rfl
theorem dX11_firstWrong_16 : decode cX11_firstWrong 16 = .ok (.iload 4, 2) := bq_o21 (a := 4) (bq_2 bwX11_firstWrong_0 16 (by decide +kernel)) rfl
theorem dX11_firstWrong_18 : decode cX11_firstWrong 18 = .ok (.iload_n 2, 1) := bq_o28 (bq_of bwX11_firstWrong_0 18 (by decide +kernel))
theorem dX11_firstWrong_19 : decode cX11_firstWrong 19 = .ok (.if_icmp .ge 79, 3) := bq_o162 (a := 0) (b := 79) (bq_3 bwX11_firstWrong_0 19 (by decide +kernel)) (by decide +kernel)
theorem dX11_firstWrong_22 : decode cX11_firstWrong 22 = .ok (.aload_n 0, 1) := bq_o42 (bq_of bwX11_firstWrong_0 22 (by decide +kernel))
theorem dX11_firstWrong_23 : decode cX11_firstWrong 23 = .ok (.getfield 45, 3) := bq_o180 (a := 0) (b := 45) (bq_3 bwX11_firstWrong_0 23 (by decide +kernel)) rfl
theorem dX11_firstWrong_26 : decode cX11_firstWrong 26 = .ok (.iload_n 1, 1) := bq_o27 (bq_of bwX11_firstWrong_0 26 (by decide +kernel))
theorem dX11_firstWrong_27 : decode cX11_firstWrong 27 = .ok (.aaload, 1) := bq_o50 (bq_of bwX11_firstWrong_0 27 (by decide +kernel))
theorem dX11_firstWrong_28 : decode cX11_firstWrong 28 = .ok (.getfield 91, 3) := bq_o180 (a := 0) (b := 91) (bq_3 bwX11_firstWrong_0 28 (by decide +kernel)) rfl
theorem dX11_firstWrong_31 : decode cX11_firstWrong 31 = .ok (.iload 4, 2) := bq_o21 (a := 4) (bq_2 bwX11_firstWrong_0 31 (by decide +kernel)) rfl
theorem dX11_firstWrong_33 : decode cX11_firstWrong 33 = .ok (.laload, 1) := bq_o47 (bq_of bwX11_firstWrong_0 33 (by decide +kernel))
theorem dX11_firstWrong_34 : decode cX11_firstWrong 34 = .ok (.lstore 5, 2) := bq_o55 (a := 5) (bq_2 bwX11_firstWrong_0 34 (by decide +kernel)) rfl
theorem dX11_firstWrong_36 : decode cX11_firstWrong 36 = .ok (.lload 5, 2) := bq_o22 (a := 5) (bq_2 bwX11_firstWrong_0 36 (by decide +kernel)) rfl
theorem dX11_firstWrong_38 : decode cX11_firstWrong 38 = .ok (.lconst 0, 1) := bq_o9 (bq_of bwX11_firstWrong_0 38 (by decide +kernel))
theorem dX11_firstWrong_39 : decode cX11_firstWrong 39 = .ok (.lcmp, 1) := bq_o148 (bq_of bwX11_firstWrong_0 39 (by decide +kernel))
theorem dX11_firstWrong_40 : decode cX11_firstWrong 40 = .ok (.ifCond .lt 17, 3) := bq_o155 (a := 0) (b := 17) (bq_3 bwX11_firstWrong_0 40 (by decide +kernel)) (by decide +kernel)
theorem dX11_firstWrong_43 : decode cX11_firstWrong 43 = .ok (.lload 5, 2) := bq_o22 (a := 5) (bq_2 bwX11_firstWrong_0 43 (by decide +kernel)) rfl
theorem dX11_firstWrong_45 : decode cX11_firstWrong 45 = .ok (.aload_n 0, 1) := bq_o42 (bq_of bwX11_firstWrong_0 45 (by decide +kernel))
theorem dX11_firstWrong_46 : decode cX11_firstWrong 46 = .ok (.getfield 10, 3) := bq_o180 (a := 0) (b := 10) (bq_3 bwX11_firstWrong_0 46 (by decide +kernel)) rfl
theorem dX11_firstWrong_49 : decode cX11_firstWrong 49 = .ok (.invokevirtual 132, 3) := bq_o182 (a := 0) (b := 132) (bq_3 bwX11_firstWrong_0 49 (by decide +kernel)) rfl
theorem dX11_firstWrong_52 : decode cX11_firstWrong 52 = .ok (.i2l, 1) := bq_o133 (bq_of bwX11_firstWrong_0 52 (by decide +kernel))
theorem dX11_firstWrong_53 : decode cX11_firstWrong 53 = .ok (.lcmp, 1) := bq_o148 (bq_of bwX11_firstWrong_0 53 (by decide +kernel))
theorem dX11_firstWrong_54 : decode cX11_firstWrong 54 = .ok (.ifCond .le 6, 3) := bq_o158 (a := 0) (b := 6) (bq_3 bwX11_firstWrong_0 54 (by decide +kernel)) (by decide +kernel)
theorem dX11_firstWrong_57 : decode cX11_firstWrong 57 = .ok (.iload 4, 2) := bq_o21 (a := 4) (bq_2 bwX11_firstWrong_0 57 (by decide +kernel)) rfl
theorem dX11_firstWrong_59 : decode cX11_firstWrong 59 = .ok (.ireturn, 1) := bq_o172 (bq_of bwX11_firstWrong_0 59 (by decide +kernel))
theorem dX11_firstWrong_60 : decode cX11_firstWrong 60 = .ok (.lload 5, 2) := bq_o22 (a := 5) (bq_2 bwX11_firstWrong_0 60 (by decide +kernel)) rfl
theorem dX11_firstWrong_62 : decode cX11_firstWrong 62 = .ok (.l2i, 1) := bq_o136 (bq_of bwX11_firstWrong_0 62 (by decide +kernel))
theorem dX11_firstWrong_63 : decode cX11_firstWrong 63 = .ok (.istore 7, 2) := bq_o54 (a := 7) (bq_2 bwX11_firstWrong_0 63 (by decide +kernel)) rfl
def bwX11_firstWrong_64l : List Nat := [7, 42, 180, 0, 25, 21, 7, 182, 0, 210, 153, 0, 10, 21, 7, 29, 126, 153, 0, 6, 21, 4, 172, 29, 21, 7, 128, 62, 132, 4, 1, 167, 255, 177, 2, 172]
theorem bwX11_firstWrong_64 : ((cX11_firstWrong.data.toList.drop 64).take 36).map UInt8.toNat = bwX11_firstWrong_64l := by decide +kernel
theorem dX11_firstWrong_65 : decode cX11_firstWrong 65 = .ok (.aload_n 0, 1) := bq_o42 (bq_of bwX11_firstWrong_64 1 (by decide +kernel))
theorem dX11_firstWrong_66 : decode cX11_firstWrong 66 = .ok (.getfield 25, 3) := bq_o180 (a := 0) (b := 25) (bq_3 bwX11_firstWrong_64 2 (by decide +kernel)) rfl
theorem dX11_firstWrong_69 : decode cX11_firstWrong 69 = .ok (.iload 7, 2) := bq_o21 (a := 7) (bq_2 bwX11_firstWrong_64 5 (by decide +kernel)) rfl
theorem dX11_firstWrong_71 : decode cX11_firstWrong 71 = .ok (.invokevirtual 210, 3) := bq_o182 (a := 0) (b := 210) (bq_3 bwX11_firstWrong_64 7 (by decide +kernel)) rfl
theorem dX11_firstWrong_74 : decode cX11_firstWrong 74 = .ok (.ifCond .eq 10, 3) := bq_o153 (a := 0) (b := 10) (bq_3 bwX11_firstWrong_64 10 (by decide +kernel)) (by decide +kernel)
theorem dX11_firstWrong_77 : decode cX11_firstWrong 77 = .ok (.iload 7, 2) := bq_o21 (a := 7) (bq_2 bwX11_firstWrong_64 13 (by decide +kernel)) rfl
theorem dX11_firstWrong_79 : decode cX11_firstWrong 79 = .ok (.iload_n 3, 1) := bq_o29 (bq_of bwX11_firstWrong_64 15 (by decide +kernel))
theorem dX11_firstWrong_80 : decode cX11_firstWrong 80 = .ok (.iand, 1) := bq_o126 (bq_of bwX11_firstWrong_64 16 (by decide +kernel))
theorem dX11_firstWrong_81 : decode cX11_firstWrong 81 = .ok (.ifCond .eq 6, 3) := bq_o153 (a := 0) (b := 6) (bq_3 bwX11_firstWrong_64 17 (by decide +kernel)) (by decide +kernel)
theorem dX11_firstWrong_84 : decode cX11_firstWrong 84 = .ok (.iload 4, 2) := bq_o21 (a := 4) (bq_2 bwX11_firstWrong_64 20 (by decide +kernel)) rfl
theorem dX11_firstWrong_86 : decode cX11_firstWrong 86 = .ok (.ireturn, 1) := bq_o172 (bq_of bwX11_firstWrong_64 22 (by decide +kernel))
theorem dX11_firstWrong_87 : decode cX11_firstWrong 87 = .ok (.iload_n 3, 1) := bq_o29 (bq_of bwX11_firstWrong_64 23 (by decide +kernel))
theorem dX11_firstWrong_88 : decode cX11_firstWrong 88 = .ok (.iload 7, 2) := bq_o21 (a := 7) (bq_2 bwX11_firstWrong_64 24 (by decide +kernel)) rfl
theorem dX11_firstWrong_90 : decode cX11_firstWrong 90 = .ok (.ior, 1) := bq_o128 (bq_of bwX11_firstWrong_64 26 (by decide +kernel))
theorem dX11_firstWrong_91 : decode cX11_firstWrong 91 = .ok (.istore_n 3, 1) := bq_o62 (bq_of bwX11_firstWrong_64 27 (by decide +kernel))
theorem dX11_firstWrong_92 : decode cX11_firstWrong 92 = .ok (.iinc 4 1, 3) := bq_o132 (a := 4) (b := 1) (bq_3 bwX11_firstWrong_64 28 (by decide +kernel)) rfl (by decide +kernel)
theorem dX11_firstWrong_95 : decode cX11_firstWrong 95 = .ok (.goto (-79), 3) := bq_o167 (a := 255) (b := 177) (bq_3 bwX11_firstWrong_64 31 (by decide +kernel)) (by decide +kernel)
theorem dX11_firstWrong_98 : decode cX11_firstWrong 98 = .ok (.iconst (-1), 1) := bq_o2 (bq_of bwX11_firstWrong_64 34 (by decide +kernel))
theorem dX11_firstWrong_99 : decode cX11_firstWrong 99 = .ok (.ireturn, 1) := bq_o172 (bq_of bwX11_firstWrong_64 35 (by decide +kernel))
def bwX12_init_0l : List Nat := [42, 183, 0, 1, 42, 16, 8, 188, 10, 181, 0, 7, 42, 16, 8, 188, 10, 181, 0, 13, 42, 16, 8, 188, 10, 181, 0, 16, 42, 16, 8, 16, 40, 197, 0, 19, 2, 181, 0, 21, 42, 16, 40, 188, 11, 181, 0, 24, 42, 16, 8, 188, 10, 181, 0, 28, 42, 16, 8, 188, 10, 181, 0, 31, 42, 17]
theorem bwX12_init_0 : ((cX12_init.data.toList.drop 0).take 66).map UInt8.toNat = bwX12_init_0l := by decide +kernel
theorem dX12_init_0 : decode cX12_init 0 = .ok (.aload_n 0, 1) := bq_o42 (bq_of bwX12_init_0 0 (by decide +kernel))
theorem dX12_init_1 : decode cX12_init 1 = .ok (.invokespecial 1, 3) := bq_o183 (a := 0) (b := 1) (bq_3 bwX12_init_0 1 (by decide +kernel)) rfl
theorem dX12_init_4 : decode cX12_init 4 = .ok (.aload_n 0, 1) := bq_o42 (bq_of bwX12_init_0 4 (by decide +kernel))
theorem dX12_init_5 : decode cX12_init 5 = .ok (.bipush 8, 2) := bq_o16 (a := 8) (bq_2 bwX12_init_0 5 (by decide +kernel)) (by decide +kernel)
theorem dX12_init_7 : decode cX12_init 7 = .ok (.newarray .int, 2) := by decide +kernel
theorem dX12_init_9 : decode cX12_init 9 = .ok (.putfield 7, 3) := bq_o181 (a := 0) (b := 7) (bq_3 bwX12_init_0 9 (by decide +kernel)) rfl
theorem dX12_init_12 : decode cX12_init 12 = .ok (.aload_n 0, 1) := bq_o42 (bq_of bwX12_init_0 12 (by decide +kernel))
theorem dX12_init_13 : decode cX12_init 13 = .ok (.bipush 8, 2) := bq_o16 (a := 8) (bq_2 bwX12_init_0 13 (by decide +kernel)) (by decide +kernel)
theorem dX12_init_15 : decode cX12_init 15 = .ok (.newarray .int, 2) := by decide +kernel
theorem dX12_init_17 : decode cX12_init 17 = .ok (.putfield 13, 3) := bq_o181 (a := 0) (b := 13) (bq_3 bwX12_init_0 17 (by decide +kernel)) rfl
theorem dX12_init_20 : decode cX12_init 20 = .ok (.aload_n 0, 1) := bq_o42 (bq_of bwX12_init_0 20 (by decide +kernel))
theorem dX12_init_21 : decode cX12_init 21 = .ok (.bipush 8, 2) := bq_o16 (a := 8) (bq_2 bwX12_init_0 21 (by decide +kernel)) (by decide +kernel)
theorem dX12_init_23 : decode cX12_init 23 = .ok (.newarray .int, 2) := by decide +kernel
theorem dX12_init_25 : decode cX12_init 25 = .ok (.putfield 16, 3) := bq_o181 (a := 0) (b := 16) (bq_3 bwX12_init_0 25 (by decide +kernel)) rfl
theorem dX12_init_28 : decode cX12_init 28 = .ok (.aload_n 0, 1) := bq_o42 (bq_of bwX12_init_0 28 (by decide +kernel))
theorem dX12_init_29 : decode cX12_init 29 = .ok (.bipush 8, 2) := bq_o16 (a := 8) (bq_2 bwX12_init_0 29 (by decide +kernel)) (by decide +kernel)
theorem dX12_init_31 : decode cX12_init 31 = .ok (.bipush 40, 2) := bq_o16 (a := 40) (bq_2 bwX12_init_0 31 (by decide +kernel)) (by decide +kernel)
theorem dX12_init_33 : decode cX12_init 33 = .ok (.multianewarray 19 2, 4) := by decide +kernel
theorem dX12_init_37 : decode cX12_init 37 = .ok (.putfield 21, 3) := bq_o181 (a := 0) (b := 21) (bq_3 bwX12_init_0 37 (by decide +kernel)) rfl
theorem dX12_init_40 : decode cX12_init 40 = .ok (.aload_n 0, 1) := bq_o42 (bq_of bwX12_init_0 40 (by decide +kernel))
theorem dX12_init_41 : decode cX12_init 41 = .ok (.bipush 40, 2) := bq_o16 (a := 40) (bq_2 bwX12_init_0 41 (by decide +kernel)) (by decide +kernel)
theorem dX12_init_43 : decode cX12_init 43 = .ok (.newarray .long, 2) := by decide +kernel
theorem dX12_init_45 : decode cX12_init 45 = .ok (.putfield 24, 3) := bq_o181 (a := 0) (b := 24) (bq_3 bwX12_init_0 45 (by decide +kernel)) rfl
theorem dX12_init_48 : decode cX12_init 48 = .ok (.aload_n 0, 1) := bq_o42 (bq_of bwX12_init_0 48 (by decide +kernel))
theorem dX12_init_49 : decode cX12_init 49 = .ok (.bipush 8, 2) := bq_o16 (a := 8) (bq_2 bwX12_init_0 49 (by decide +kernel)) (by decide +kernel)
theorem dX12_init_51 : decode cX12_init 51 = .ok (.newarray .int, 2) := by decide +kernel
theorem dX12_init_53 : decode cX12_init 53 = .ok (.putfield 28, 3) := bq_o181 (a := 0) (b := 28) (bq_3 bwX12_init_0 53 (by decide +kernel)) rfl
theorem dX12_init_56 : decode cX12_init 56 = .ok (.aload_n 0, 1) := bq_o42 (bq_of bwX12_init_0 56 (by decide +kernel))
theorem dX12_init_57 : decode cX12_init 57 = .ok (.bipush 8, 2) := bq_o16 (a := 8) (bq_2 bwX12_init_0 57 (by decide +kernel)) (by decide +kernel)
theorem dX12_init_59 : decode cX12_init 59 = .ok (.newarray .int, 2) := by decide +kernel
theorem dX12_init_61 : decode cX12_init 61 = .ok (.putfield 31, 3) := bq_o181 (a := 0) (b := 31) (bq_3 bwX12_init_0 61 (by decide +kernel)) rfl
def bwX12_init_64l : List Nat := [42, 17, 0, 250, 188, 10, 181, 0, 34, 42, 16, 8, 188, 10, 181, 0, 37, 42, 16, 8, 188, 10, 181, 0, 40, 42, 16, 8, 188, 10, 181, 0, 43, 42, 16, 8, 16, 8, 197, 0, 46, 2, 181, 0, 48, 42, 6, 181, 0, 51, 42, 4, 181, 0, 55, 42, 5, 188, 10, 181, 0, 58, 42, 16, 70, 188]
theorem bwX12_init_64 : ((cX12_init.data.toList.drop 64).take 66).map UInt8.toNat = bwX12_init_64l := by decide +kernel
theorem dX12_init_64 : decode cX12_init 64 = .ok (.aload_n 0, 1) := bq_o42 (bq_of bwX12_init_64 0 (by decide +kernel))
theorem dX12_init_65 : decode cX12_init 65 = .ok (.sipush 250, 3) := bq_o17 (a := 0) (b := 250) (bq_3 bwX12_init_64 1 (by decide +kernel)) (by decide +kernel)
theorem dX12_init_68 : decode cX12_init 68 = .ok (.newarray .int, 2) := by decide +kernel
theorem dX12_init_70 : decode cX12_init 70 = .ok (.putfield 34, 3) := bq_o181 (a := 0) (b := 34) (bq_3 bwX12_init_64 6 (by decide +kernel)) rfl
theorem dX12_init_73 : decode cX12_init 73 = .ok (.aload_n 0, 1) := bq_o42 (bq_of bwX12_init_64 9 (by decide +kernel))
theorem dX12_init_74 : decode cX12_init 74 = .ok (.bipush 8, 2) := bq_o16 (a := 8) (bq_2 bwX12_init_64 10 (by decide +kernel)) (by decide +kernel)
theorem dX12_init_76 : decode cX12_init 76 = .ok (.newarray .int, 2) := by decide +kernel
theorem dX12_init_78 : decode cX12_init 78 = .ok (.putfield 37, 3) := bq_o181 (a := 0) (b := 37) (bq_3 bwX12_init_64 14 (by decide +kernel)) rfl
theorem dX12_init_81 : decode cX12_init 81 = .ok (.aload_n 0, 1) := bq_o42 (bq_of bwX12_init_64 17 (by decide +kernel))
theorem dX12_init_82 : decode cX12_init 82 = .ok (.bipush 8, 2) := bq_o16 (a := 8) (bq_2 bwX12_init_64 18 (by decide +kernel)) (by decide +kernel)
theorem dX12_init_84 : decode cX12_init 84 = .ok (.newarray .int, 2) := by decide +kernel
theorem dX12_init_86 : decode cX12_init 86 = .ok (.putfield 40, 3) := bq_o181 (a := 0) (b := 40) (bq_3 bwX12_init_64 22 (by decide +kernel)) rfl
theorem dX12_init_89 : decode cX12_init 89 = .ok (.aload_n 0, 1) := bq_o42 (bq_of bwX12_init_64 25 (by decide +kernel))
theorem dX12_init_90 : decode cX12_init 90 = .ok (.bipush 8, 2) := bq_o16 (a := 8) (bq_2 bwX12_init_64 26 (by decide +kernel)) (by decide +kernel)
theorem dX12_init_92 : decode cX12_init 92 = .ok (.newarray .int, 2) := by decide +kernel
theorem dX12_init_94 : decode cX12_init 94 = .ok (.putfield 43, 3) := bq_o181 (a := 0) (b := 43) (bq_3 bwX12_init_64 30 (by decide +kernel)) rfl
theorem dX12_init_97 : decode cX12_init 97 = .ok (.aload_n 0, 1) := bq_o42 (bq_of bwX12_init_64 33 (by decide +kernel))
theorem dX12_init_98 : decode cX12_init 98 = .ok (.bipush 8, 2) := bq_o16 (a := 8) (bq_2 bwX12_init_64 34 (by decide +kernel)) (by decide +kernel)
theorem dX12_init_100 : decode cX12_init 100 = .ok (.bipush 8, 2) := bq_o16 (a := 8) (bq_2 bwX12_init_64 36 (by decide +kernel)) (by decide +kernel)
theorem dX12_init_102 : decode cX12_init 102 = .ok (.multianewarray 46 2, 4) := by decide +kernel
theorem dX12_init_106 : decode cX12_init 106 = .ok (.putfield 48, 3) := bq_o181 (a := 0) (b := 48) (bq_3 bwX12_init_64 42 (by decide +kernel)) rfl
theorem dX12_init_109 : decode cX12_init 109 = .ok (.aload_n 0, 1) := bq_o42 (bq_of bwX12_init_64 45 (by decide +kernel))
theorem dX12_init_110 : decode cX12_init 110 = .ok (.iconst 3, 1) := bq_o6 (bq_of bwX12_init_64 46 (by decide +kernel))
theorem dX12_init_111 : decode cX12_init 111 = .ok (.putfield 51, 3) := bq_o181 (a := 0) (b := 51) (bq_3 bwX12_init_64 47 (by decide +kernel)) rfl
theorem dX12_init_114 : decode cX12_init 114 = .ok (.aload_n 0, 1) := bq_o42 (bq_of bwX12_init_64 50 (by decide +kernel))
theorem dX12_init_115 : decode cX12_init 115 = .ok (.iconst 1, 1) := bq_o4 (bq_of bwX12_init_64 51 (by decide +kernel))
theorem dX12_init_116 : decode cX12_init 116 = .ok (.putfield 55, 3) := bq_o181 (a := 0) (b := 55) (bq_3 bwX12_init_64 52 (by decide +kernel)) rfl
theorem dX12_init_119 : decode cX12_init 119 = .ok (.aload_n 0, 1) := bq_o42 (bq_of bwX12_init_64 55 (by decide +kernel))
theorem dX12_init_120 : decode cX12_init 120 = .ok (.iconst 2, 1) := bq_o5 (bq_of bwX12_init_64 56 (by decide +kernel))
theorem dX12_init_121 : decode cX12_init 121 = .ok (.newarray .int, 2) := by decide +kernel
theorem dX12_init_123 : decode cX12_init 123 = .ok (.putfield 58, 3) := bq_o181 (a := 0) (b := 58) (bq_3 bwX12_init_64 59 (by decide +kernel)) rfl
theorem dX12_init_126 : decode cX12_init 126 = .ok (.aload_n 0, 1) := bq_o42 (bq_of bwX12_init_64 62 (by decide +kernel))
theorem dX12_init_127 : decode cX12_init 127 = .ok (.bipush 70, 2) := bq_o16 (a := 70) (bq_2 bwX12_init_64 63 (by decide +kernel)) (by decide +kernel)
theorem dX12_init_129 : decode cX12_init 129 = .ok (.newarray .int, 2) := by decide +kernel
def bwX12_init_128l : List Nat := [70, 188, 10, 181, 0, 61, 42, 16, 7, 188, 10, 181, 0, 64, 42, 16, 7, 188, 10, 181, 0, 67, 42, 16, 7, 188, 10, 181, 0, 70, 42, 17, 4, 0, 188, 10, 181, 0, 73, 42, 16, 10, 188, 10, 181, 0, 76, 42, 16, 10, 188, 10, 181, 0, 79, 42, 16, 10, 188, 10, 181, 0, 82, 177]
theorem bwX12_init_128 : ((cX12_init.data.toList.drop 128).take 64).map UInt8.toNat = bwX12_init_128l := by decide +kernel
theorem dX12_init_131 : decode cX12_init 131 = .ok (.putfield 61, 3) := bq_o181 (a := 0) (b := 61) (bq_3 bwX12_init_128 3 (by decide +kernel)) rfl
theorem dX12_init_134 : decode cX12_init 134 = .ok (.aload_n 0, 1) := bq_o42 (bq_of bwX12_init_128 6 (by decide +kernel))
theorem dX12_init_135 : decode cX12_init 135 = .ok (.bipush 7, 2) := bq_o16 (a := 7) (bq_2 bwX12_init_128 7 (by decide +kernel)) (by decide +kernel)
theorem dX12_init_137 : decode cX12_init 137 = .ok (.newarray .int, 2) := by decide +kernel
theorem dX12_init_139 : decode cX12_init 139 = .ok (.putfield 64, 3) := bq_o181 (a := 0) (b := 64) (bq_3 bwX12_init_128 11 (by decide +kernel)) rfl
theorem dX12_init_142 : decode cX12_init 142 = .ok (.aload_n 0, 1) := bq_o42 (bq_of bwX12_init_128 14 (by decide +kernel))
theorem dX12_init_143 : decode cX12_init 143 = .ok (.bipush 7, 2) := bq_o16 (a := 7) (bq_2 bwX12_init_128 15 (by decide +kernel)) (by decide +kernel)
theorem dX12_init_145 : decode cX12_init 145 = .ok (.newarray .int, 2) := by decide +kernel
theorem dX12_init_147 : decode cX12_init 147 = .ok (.putfield 67, 3) := bq_o181 (a := 0) (b := 67) (bq_3 bwX12_init_128 19 (by decide +kernel)) rfl
theorem dX12_init_150 : decode cX12_init 150 = .ok (.aload_n 0, 1) := bq_o42 (bq_of bwX12_init_128 22 (by decide +kernel))
theorem dX12_init_151 : decode cX12_init 151 = .ok (.bipush 7, 2) := bq_o16 (a := 7) (bq_2 bwX12_init_128 23 (by decide +kernel)) (by decide +kernel)
theorem dX12_init_153 : decode cX12_init 153 = .ok (.newarray .int, 2) := by decide +kernel
theorem dX12_init_155 : decode cX12_init 155 = .ok (.putfield 70, 3) := bq_o181 (a := 0) (b := 70) (bq_3 bwX12_init_128 27 (by decide +kernel)) rfl
theorem dX12_init_158 : decode cX12_init 158 = .ok (.aload_n 0, 1) := bq_o42 (bq_of bwX12_init_128 30 (by decide +kernel))
theorem dX12_init_159 : decode cX12_init 159 = .ok (.sipush 1024, 3) := bq_o17 (a := 4) (b := 0) (bq_3 bwX12_init_128 31 (by decide +kernel)) (by decide +kernel)
theorem dX12_init_162 : decode cX12_init 162 = .ok (.newarray .int, 2) := by decide +kernel
theorem dX12_init_164 : decode cX12_init 164 = .ok (.putfield 73, 3) := bq_o181 (a := 0) (b := 73) (bq_3 bwX12_init_128 36 (by decide +kernel)) rfl
theorem dX12_init_167 : decode cX12_init 167 = .ok (.aload_n 0, 1) := bq_o42 (bq_of bwX12_init_128 39 (by decide +kernel))
theorem dX12_init_168 : decode cX12_init 168 = .ok (.bipush 10, 2) := bq_o16 (a := 10) (bq_2 bwX12_init_128 40 (by decide +kernel)) (by decide +kernel)
theorem dX12_init_170 : decode cX12_init 170 = .ok (.newarray .int, 2) := by decide +kernel
theorem dX12_init_172 : decode cX12_init 172 = .ok (.putfield 76, 3) := bq_o181 (a := 0) (b := 76) (bq_3 bwX12_init_128 44 (by decide +kernel)) rfl
theorem dX12_init_175 : decode cX12_init 175 = .ok (.aload_n 0, 1) := bq_o42 (bq_of bwX12_init_128 47 (by decide +kernel))
theorem dX12_init_176 : decode cX12_init 176 = .ok (.bipush 10, 2) := bq_o16 (a := 10) (bq_2 bwX12_init_128 48 (by decide +kernel)) (by decide +kernel)
theorem dX12_init_178 : decode cX12_init 178 = .ok (.newarray .int, 2) := by decide +kernel
theorem dX12_init_180 : decode cX12_init 180 = .ok (.putfield 79, 3) := bq_o181 (a := 0) (b := 79) (bq_3 bwX12_init_128 52 (by decide +kernel)) rfl
theorem dX12_init_183 : decode cX12_init 183 = .ok (.aload_n 0, 1) := bq_o42 (bq_of bwX12_init_128 55 (by decide +kernel))
theorem dX12_init_184 : decode cX12_init 184 = .ok (.bipush 10, 2) := bq_o16 (a := 10) (bq_2 bwX12_init_128 56 (by decide +kernel)) (by decide +kernel)
theorem dX12_init_186 : decode cX12_init 186 = .ok (.newarray .int, 2) := by decide +kernel
theorem dX12_init_188 : decode cX12_init 188 = .ok (.putfield 82, 3) := bq_o181 (a := 0) (b := 82) (bq_3 bwX12_init_128 60 (by decide +kernel)) rfl
theorem dX12_init_191 : decode cX12_init 191 = .ok (.return_, 1) := bq_o177 (bq_of bwX12_init_128 63 (by decide +kernel))
theorem dX12_refuse_0 : decode cX12_refuse 0 = .ok (.aload_n 0, 1) := by decide +kernel
theorem dX12_refuse_1 : decode cX12_refuse 1 = .ok (.getfield 37, 3) := by decide +kernel
theorem dX12_refuse_4 : decode cX12_refuse 4 = .ok (.iload_n 1, 1) := by decide +kernel
theorem dX12_refuse_5 : decode cX12_refuse 5 = .ok (.ineg, 1) := by decide +kernel
theorem dX12_refuse_6 : decode cX12_refuse 6 = .ok (.dup2, 1) := by decide +kernel
theorem dX12_refuse_7 : decode cX12_refuse 7 = .ok (.iaload, 1) := by decide +kernel
theorem dX12_refuse_8 : decode cX12_refuse 8 = .ok (.iconst 1, 1) := by decide +kernel
theorem dX12_refuse_9 : decode cX12_refuse 9 = .ok (.iadd, 1) := by decide +kernel
theorem dX12_refuse_10 : decode cX12_refuse 10 = .ok (.iastore, 1) := by decide +kernel
theorem dX12_refuse_11 : decode cX12_refuse 11 = .ok (.iload_n 1, 1) := by decide +kernel
theorem dX12_refuse_12 : decode cX12_refuse 12 = .ok (.ireturn, 1) := by decide +kernel
theorem dX12_in_0 : decode cX12_in 0 = .ok (.lload_n 0, 1) := by decide +kernel
theorem dX12_in_1 : decode cX12_in 1 = .ok (.lload_n 2, 1) := by decide +kernel
theorem dX12_in_2 : decode cX12_in 2 = .ok (.lcmp, 1) := by decide +kernel
theorem dX12_in_3 : decode cX12_in 3 = .ok (.ifCond .lt 14, 3) := by decide +kernel
theorem dX12_in_6 : decode cX12_in 6 = .ok (.lload_n 0, 1) := by decide +kernel
theorem dX12_in_7 : decode cX12_in 7 = .ok (.lload 4, 2) := by decide +kernel
theorem dX12_in_9 : decode cX12_in 9 = .ok (.lcmp, 1) := by decide +kernel
theorem dX12_in_10 : decode cX12_in 10 = .ok (.ifCond .gt 7, 3) := by decide +kernel
theorem dX12_in_13 : decode cX12_in 13 = .ok (.iconst 1, 1) := by decide +kernel
theorem dX12_in_14 : decode cX12_in 14 = .ok (.goto 4, 3) := by decide +kernel
theorem dX12_in_17 : decode cX12_in 17 = .ok (.iconst 0, 1) := by decide +kernel
theorem dX12_in_18 : decode cX12_in 18 = .ok (.ireturn, 1) := by decide +kernel
theorem dX12_isOne_0 : decode cX12_isOne 0 = .ok (.iload_n 1, 1) := by decide +kernel
theorem dX12_isOne_1 : decode cX12_isOne 1 = .ok (.i2l, 1) := by decide +kernel
theorem dX12_isOne_2 : decode cX12_isOne 2 = .ok (.lconst 0, 1) := by decide +kernel
theorem dX12_isOne_3 : decode cX12_isOne 3 = .ok (.aload_n 0, 1) := by decide +kernel
theorem dX12_isOne_4 : decode cX12_isOne 4 = .ok (.getfield 85, 3) := by decide +kernel
theorem dX12_isOne_7 : decode cX12_isOne 7 = .ok (.iconst 1, 1) := by decide +kernel
theorem dX12_isOne_8 : decode cX12_isOne 8 = .ok (.isub, 1) := by decide +kernel
theorem dX12_isOne_9 : decode cX12_isOne 9 = .ok (.i2l, 1) := by decide +kernel
theorem dX12_isOne_10 : decode cX12_isOne 10 = .ok (.invokestatic 88, 3) := by decide +kernel
theorem dX12_isOne_13 : decode cX12_isOne 13 = .ok (.ireturn, 1) := by decide +kernel
theorem dX12_all_0 : decode cX12_all 0 = .ok (.iconst 1, 1) := by decide +kernel
theorem dX12_all_1 : decode cX12_all 1 = .ok (.aload_n 0, 1) := by decide +kernel
theorem dX12_all_2 : decode cX12_all 2 = .ok (.getfield 85, 3) := by decide +kernel
theorem dX12_all_5 : decode cX12_all 5 = .ok (.ishl, 1) := by decide +kernel
theorem dX12_all_6 : decode cX12_all 6 = .ok (.iconst 1, 1) := by decide +kernel
theorem dX12_all_7 : decode cX12_all 7 = .ok (.isub, 1) := by decide +kernel
theorem dX12_all_8 : decode cX12_all 8 = .ok (.ireturn, 1) := by decide +kernel
theorem dX12_isSet_0 : decode cX12_isSet 0 = .ok (.iload_n 1, 1) := by decide +kernel
theorem dX12_isSet_1 : decode cX12_isSet 1 = .ok (.i2l, 1) := by decide +kernel
theorem dX12_isSet_2 : decode cX12_isSet 2 = .ok (.lconst 0, 1) := by decide +kernel
theorem dX12_isSet_3 : decode cX12_isSet 3 = .ok (.aload_n 0, 1) := by decide +kernel
theorem dX12_isSet_4 : decode cX12_isSet 4 = .ok (.invokevirtual 92, 3) := by decide +kernel
theorem dX12_isSet_7 : decode cX12_isSet 7 = .ok (.i2l, 1) := by decide +kernel
theorem dX12_isSet_8 : decode cX12_isSet 8 = .ok (.invokestatic 88, 3) := by decide +kernel
theorem dX12_isSet_11 : decode cX12_isSet 11 = .ok (.ireturn, 1) := by decide +kernel
theorem dX12_has_0 : decode cX12_has 0 = .ok (.iload_n 0, 1) := by decide +kernel
theorem dX12_has_1 : decode cX12_has 1 = .ok (.iload_n 1, 1) := by decide +kernel
theorem dX12_has_2 : decode cX12_has 2 = .ok (.ishr, 1) := by decide +kernel
theorem dX12_has_3 : decode cX12_has 3 = .ok (.iconst 1, 1) := by decide +kernel
theorem dX12_has_4 : decode cX12_has 4 = .ok (.iand, 1) := by decide +kernel
theorem dX12_has_5 : decode cX12_has 5 = .ok (.ifCond .eq 7, 3) := by decide +kernel
theorem dX12_has_8 : decode cX12_has 8 = .ok (.iconst 1, 1) := by decide +kernel
theorem dX12_has_9 : decode cX12_has 9 = .ok (.goto 4, 3) := by decide +kernel
theorem dX12_has_12 : decode cX12_has 12 = .ok (.iconst 0, 1) := by decide +kernel
theorem dX12_has_13 : decode cX12_has 13 = .ok (.ireturn, 1) := by decide +kernel
theorem dX12_bits_0 : decode cX12_bits 0 = .ok (.iconst 0, 1) := by decide +kernel
theorem dX12_bits_1 : decode cX12_bits 1 = .ok (.istore_n 1, 1) := by decide +kernel
theorem dX12_bits_2 : decode cX12_bits 2 = .ok (.iconst 0, 1) := by decide +kernel
theorem dX12_bits_3 : decode cX12_bits 3 = .ok (.istore_n 2, 1) := by decide +kernel
theorem dX12_bits_4 : decode cX12_bits 4 = .ok (.iload_n 2, 1) := by decide +kernel
theorem dX12_bits_5 : decode cX12_bits 5 = .ok (.bipush 8, 2) := by decide +kernel
theorem dX12_bits_7 : decode cX12_bits 7 = .ok (.if_icmp .ge 17, 3) := by decide +kernel
theorem dX12_bits_10 : decode cX12_bits 10 = .ok (.iload_n 1, 1) := by decide +kernel
theorem dX12_bits_11 : decode cX12_bits 11 = .ok (.iload_n 0, 1) := by decide +kernel
theorem dX12_bits_12 : decode cX12_bits 12 = .ok (.iload_n 2, 1) := by decide +kernel
theorem dX12_bits_13 : decode cX12_bits 13 = .ok (.ishr, 1) := by decide +kernel
theorem dX12_bits_14 : decode cX12_bits 14 = .ok (.iconst 1, 1) := by decide +kernel
theorem dX12_bits_15 : decode cX12_bits 15 = .ok (.iand, 1) := by decide +kernel
theorem dX12_bits_16 : decode cX12_bits 16 = .ok (.iadd, 1) := by decide +kernel
theorem dX12_bits_17 : decode cX12_bits 17 = .ok (.istore_n 1, 1) := by decide +kernel
theorem dX12_bits_18 : decode cX12_bits 18 = .ok (.iinc 2 1, 3) := by decide +kernel
theorem dX12_bits_21 : decode cX12_bits 21 = .ok (.goto (-17), 3) := by decide +kernel
theorem dX12_bits_24 : decode cX12_bits 24 = .ok (.iload_n 1, 1) := by decide +kernel
theorem dX12_bits_25 : decode cX12_bits 25 = .ok (.ireturn, 1) := by decide +kernel
def bwX12_row_0l : List Nat := [27, 133, 9, 20, 0, 96, 184, 0, 88, 153, 0, 27, 28, 133, 9, 20, 0, 98, 184, 0, 88, 153, 0, 15, 29, 133, 9, 20, 0, 100, 184, 0, 88, 154, 0, 10, 42, 16, 254, 182, 0, 102, 172, 42, 180, 0, 7, 27, 4, 79, 42, 180, 0, 13, 27, 28, 79, 42, 180, 0, 16, 27, 29, 79, 3, 54]
theorem bwX12_row_0 : ((cX12_row.data.toList.drop 0).take 66).map UInt8.toNat = bwX12_row_0l := by decide +kernel
theorem dX12_row_0 : decode cX12_row 0 = .ok (.iload_n 1, 1) := bq_o27 (bq_of bwX12_row_0 0 (by decide +kernel))
theorem dX12_row_1 : decode cX12_row 1 = .ok (.i2l, 1) := bq_o133 (bq_of bwX12_row_0 1 (by decide +kernel))
theorem dX12_row_2 : decode cX12_row 2 = .ok (.lconst 0, 1) := bq_o9 (bq_of bwX12_row_0 2 (by decide +kernel))
theorem dX12_row_3 : decode cX12_row 3 = .ok (.ldc2_w 96, 3) := bq_o20 (a := 0) (b := 96) (bq_3 bwX12_row_0 3 (by decide +kernel)) rfl
theorem dX12_row_6 : decode cX12_row 6 = .ok (.invokestatic 88, 3) := bq_o184 (a := 0) (b := 88) (bq_3 bwX12_row_0 6 (by decide +kernel)) rfl
theorem dX12_row_9 : decode cX12_row 9 = .ok (.ifCond .eq 27, 3) := bq_o153 (a := 0) (b := 27) (bq_3 bwX12_row_0 9 (by decide +kernel)) (by decide +kernel)
theorem dX12_row_12 : decode cX12_row 12 = .ok (.iload_n 2, 1) := bq_o28 (bq_of bwX12_row_0 12 (by decide +kernel))
theorem dX12_row_13 : decode cX12_row 13 = .ok (.i2l, 1) := bq_o133 (bq_of bwX12_row_0 13 (by decide +kernel))
theorem dX12_row_14 : decode cX12_row 14 = .ok (.lconst 0, 1) := bq_o9 (bq_of bwX12_row_0 14 (by decide +kernel))
theorem dX12_row_15 : decode cX12_row 15 = .ok (.ldc2_w 98, 3) := bq_o20 (a := 0) (b := 98) (bq_3 bwX12_row_0 15 (by decide +kernel)) rfl
theorem dX12_row_18 : decode cX12_row 18 = .ok (.invokestatic 88, 3) := bq_o184 (a := 0) (b := 88) (bq_3 bwX12_row_0 18 (by decide +kernel)) rfl
theorem dX12_row_21 : decode cX12_row 21 = .ok (.ifCond .eq 15, 3) := bq_o153 (a := 0) (b := 15) (bq_3 bwX12_row_0 21 (by decide +kernel)) (by decide +kernel)
theorem dX12_row_24 : decode cX12_row 24 = .ok (.iload_n 3, 1) := bq_o29 (bq_of bwX12_row_0 24 (by decide +kernel))
theorem dX12_row_25 : decode cX12_row 25 = .ok (.i2l, 1) := bq_o133 (bq_of bwX12_row_0 25 (by decide +kernel))
theorem dX12_row_26 : decode cX12_row 26 = .ok (.lconst 0, 1) := bq_o9 (bq_of bwX12_row_0 26 (by decide +kernel))
theorem dX12_row_27 : decode cX12_row 27 = .ok (.ldc2_w 100, 3) := bq_o20 (a := 0) (b := 100) (bq_3 bwX12_row_0 27 (by decide +kernel)) rfl
theorem dX12_row_30 : decode cX12_row 30 = .ok (.invokestatic 88, 3) := bq_o184 (a := 0) (b := 88) (bq_3 bwX12_row_0 30 (by decide +kernel)) rfl
theorem dX12_row_33 : decode cX12_row 33 = .ok (.ifCond .ne 10, 3) := bq_o154 (a := 0) (b := 10) (bq_3 bwX12_row_0 33 (by decide +kernel)) (by decide +kernel)
theorem dX12_row_36 : decode cX12_row 36 = .ok (.aload_n 0, 1) := bq_o42 (bq_of bwX12_row_0 36 (by decide +kernel))
theorem dX12_row_37 : decode cX12_row 37 = .ok (.bipush (-2), 2) := bq_o16 (a := 254) (bq_2 bwX12_row_0 37 (by decide +kernel)) (by decide +kernel)
theorem dX12_row_39 : decode cX12_row 39 = .ok (.invokevirtual 102, 3) := bq_o182 (a := 0) (b := 102) (bq_3 bwX12_row_0 39 (by decide +kernel)) rfl
theorem dX12_row_42 : decode cX12_row 42 = .ok (.ireturn, 1) := bq_o172 (bq_of bwX12_row_0 42 (by decide +kernel))
theorem dX12_row_43 : decode cX12_row 43 = .ok (.aload_n 0, 1) := bq_o42 (bq_of bwX12_row_0 43 (by decide +kernel))
theorem dX12_row_44 : decode cX12_row 44 = .ok (.getfield 7, 3) := bq_o180 (a := 0) (b := 7) (bq_3 bwX12_row_0 44 (by decide +kernel)) rfl
theorem dX12_row_47 : decode cX12_row 47 = .ok (.iload_n 1, 1) := bq_o27 (bq_of bwX12_row_0 47 (by decide +kernel))
theorem dX12_row_48 : decode cX12_row 48 = .ok (.iconst 1, 1) := bq_o4 (bq_of bwX12_row_0 48 (by decide +kernel))
theorem dX12_row_49 : decode cX12_row 49 = .ok (.iastore, 1) := bq_o79 (bq_of bwX12_row_0 49 (by decide +kernel))
theorem dX12_row_50 : decode cX12_row 50 = .ok (.aload_n 0, 1) := bq_o42 (bq_of bwX12_row_0 50 (by decide +kernel))
theorem dX12_row_51 : decode cX12_row 51 = .ok (.getfield 13, 3) := bq_o180 (a := 0) (b := 13) (bq_3 bwX12_row_0 51 (by decide +kernel)) rfl
theorem dX12_row_54 : decode cX12_row 54 = .ok (.iload_n 1, 1) := bq_o27 (bq_of bwX12_row_0 54 (by decide +kernel))
theorem dX12_row_55 : decode cX12_row 55 = .ok (.iload_n 2, 1) := bq_o28 (bq_of bwX12_row_0 55 (by decide +kernel))
theorem dX12_row_56 : decode cX12_row 56 = .ok (.iastore, 1) := bq_o79 (bq_of bwX12_row_0 56 (by decide +kernel))
theorem dX12_row_57 : decode cX12_row 57 = .ok (.aload_n 0, 1) := bq_o42 (bq_of bwX12_row_0 57 (by decide +kernel))
theorem dX12_row_58 : decode cX12_row 58 = .ok (.getfield 16, 3) := bq_o180 (a := 0) (b := 16) (bq_3 bwX12_row_0 58 (by decide +kernel)) rfl
theorem dX12_row_61 : decode cX12_row 61 = .ok (.iload_n 1, 1) := bq_o27 (bq_of bwX12_row_0 61 (by decide +kernel))
theorem dX12_row_62 : decode cX12_row 62 = .ok (.iload_n 3, 1) := bq_o29 (bq_of bwX12_row_0 62 (by decide +kernel))
theorem dX12_row_63 : decode cX12_row 63 = .ok (.iastore, 1) := bq_o79 (bq_of bwX12_row_0 63 (by decide +kernel))
def bwX12_row_64l : List Nat := [3, 54, 4, 21, 4, 16, 40, 162, 0, 19, 42, 180, 0, 21, 27, 50, 21, 4, 9, 80, 132, 4, 1, 167, 255, 236, 4, 172]
theorem bwX12_row_64 : ((cX12_row.data.toList.drop 64).take 28).map UInt8.toNat = bwX12_row_64l := by decide +kernel
theorem dX12_row_64 : decode cX12_row 64 = .ok (.iconst 0, 1) := bq_o3 (bq_of bwX12_row_64 0 (by decide +kernel))
theorem dX12_row_65 : decode cX12_row 65 = .ok (.istore 4, 2) := bq_o54 (a := 4) (bq_2 bwX12_row_64 1 (by decide +kernel)) rfl
theorem dX12_row_67 : decode cX12_row 67 = .ok (.iload 4, 2) := bq_o21 (a := 4) (bq_2 bwX12_row_64 3 (by decide +kernel)) rfl
theorem dX12_row_69 : decode cX12_row 69 = .ok (.bipush 40, 2) := bq_o16 (a := 40) (bq_2 bwX12_row_64 5 (by decide +kernel)) (by decide +kernel)
theorem dX12_row_71 : decode cX12_row 71 = .ok (.if_icmp .ge 19, 3) := bq_o162 (a := 0) (b := 19) (bq_3 bwX12_row_64 7 (by decide +kernel)) (by decide +kernel)
theorem dX12_row_74 : decode cX12_row 74 = .ok (.aload_n 0, 1) := bq_o42 (bq_of bwX12_row_64 10 (by decide +kernel))
theorem dX12_row_75 : decode cX12_row 75 = .ok (.getfield 21, 3) := bq_o180 (a := 0) (b := 21) (bq_3 bwX12_row_64 11 (by decide +kernel)) rfl
theorem dX12_row_78 : decode cX12_row 78 = .ok (.iload_n 1, 1) := bq_o27 (bq_of bwX12_row_64 14 (by decide +kernel))
theorem dX12_row_79 : decode cX12_row 79 = .ok (.aaload, 1) := bq_o50 (bq_of bwX12_row_64 15 (by decide +kernel))
theorem dX12_row_80 : decode cX12_row 80 = .ok (.iload 4, 2) := bq_o21 (a := 4) (bq_2 bwX12_row_64 16 (by decide +kernel)) rfl
theorem dX12_row_82 : decode cX12_row 82 = .ok (.lconst 0, 1) := bq_o9 (bq_of bwX12_row_64 18 (by decide +kernel))
theorem dX12_row_83 : decode cX12_row 83 = .ok (.lastore, 1) := bq_o80 (bq_of bwX12_row_64 19 (by decide +kernel))
theorem dX12_row_84 : decode cX12_row 84 = .ok (.iinc 4 1, 3) := bq_o132 (a := 4) (b := 1) (bq_3 bwX12_row_64 20 (by decide +kernel)) rfl (by decide +kernel)
theorem dX12_row_87 : decode cX12_row 87 = .ok (.goto (-20), 3) := bq_o167 (a := 255) (b := 236) (bq_3 bwX12_row_64 23 (by decide +kernel)) (by decide +kernel)
theorem dX12_row_90 : decode cX12_row 90 = .ok (.iconst 1, 1) := bq_o4 (bq_of bwX12_row_64 26 (by decide +kernel))
theorem dX12_row_91 : decode cX12_row 91 = .ok (.ireturn, 1) := bq_o172 (bq_of bwX12_row_64 27 (by decide +kernel))
def bwX12_fit_0l : List Nat := [26, 170, 0, 0, 0, 0, 0, 47, 0, 0, 0, 0, 0, 0, 0, 3, 0, 0, 0, 31, 0, 0, 0, 36, 0, 0, 0, 41, 0, 0, 0, 45, 31, 136, 145, 133, 173, 31, 136, 147, 133, 173, 31, 136, 133, 173, 31, 173, 31, 9, 148, 153, 0, 7, 10, 167, 0, 4, 9, 173]
theorem bwX12_fit_0 : ((cX12_fit.data.toList.drop 0).take 60).map UInt8.toNat = bwX12_fit_0l := by decide +kernel
theorem dX12_fit_0 : decode cX12_fit 0 = .ok (.iload_n 0, 1) := bq_o26 (bq_of bwX12_fit_0 0 (by decide +kernel))
theorem dX12_fit_1 : decode cX12_fit 1 = .ok (.tableswitch 47 0 3 #[31, 36, 41, 45], 31) := by decide +kernel
theorem dX12_fit_32 : decode cX12_fit 32 = .ok (.lload_n 1, 1) := bq_o31 (bq_of bwX12_fit_0 32 (by decide +kernel))
theorem dX12_fit_33 : decode cX12_fit 33 = .ok (.l2i, 1) := bq_o136 (bq_of bwX12_fit_0 33 (by decide +kernel))
theorem dX12_fit_34 : decode cX12_fit 34 = .ok (.i2b, 1) := bq_o145 (bq_of bwX12_fit_0 34 (by decide +kernel))
theorem dX12_fit_35 : decode cX12_fit 35 = .ok (.i2l, 1) := bq_o133 (bq_of bwX12_fit_0 35 (by decide +kernel))
theorem dX12_fit_36 : decode cX12_fit 36 = .ok (.lreturn, 1) := bq_o173 (bq_of bwX12_fit_0 36 (by decide +kernel))
theorem dX12_fit_37 : decode cX12_fit 37 = .ok (.lload_n 1, 1) := bq_o31 (bq_of bwX12_fit_0 37 (by decide +kernel))
theorem dX12_fit_38 : decode cX12_fit 38 = .ok (.l2i, 1) := bq_o136 (bq_of bwX12_fit_0 38 (by decide +kernel))
theorem dX12_fit_39 : decode cX12_fit 39 = .ok (.i2s, 1) := bq_o147 (bq_of bwX12_fit_0 39 (by decide +kernel))
theorem dX12_fit_40 : decode cX12_fit 40 = .ok (.i2l, 1) := bq_o133 (bq_of bwX12_fit_0 40 (by decide +kernel))
theorem dX12_fit_41 : decode cX12_fit 41 = .ok (.lreturn, 1) := bq_o173 (bq_of bwX12_fit_0 41 (by decide +kernel))
theorem dX12_fit_42 : decode cX12_fit 42 = .ok (.lload_n 1, 1) := bq_o31 (bq_of bwX12_fit_0 42 (by decide +kernel))
theorem dX12_fit_43 : decode cX12_fit 43 = .ok (.l2i, 1) := bq_o136 (bq_of bwX12_fit_0 43 (by decide +kernel))
theorem dX12_fit_44 : decode cX12_fit 44 = .ok (.i2l, 1) := bq_o133 (bq_of bwX12_fit_0 44 (by decide +kernel))
theorem dX12_fit_45 : decode cX12_fit 45 = .ok (.lreturn, 1) := bq_o173 (bq_of bwX12_fit_0 45 (by decide +kernel))
theorem dX12_fit_46 : decode cX12_fit 46 = .ok (.lload_n 1, 1) := bq_o31 (bq_of bwX12_fit_0 46 (by decide +kernel))
theorem dX12_fit_47 : decode cX12_fit 47 = .ok (.lreturn, 1) := bq_o173 (bq_of bwX12_fit_0 47 (by decide +kernel))
theorem dX12_fit_48 : decode cX12_fit 48 = .ok (.lload_n 1, 1) := bq_o31 (bq_of bwX12_fit_0 48 (by decide +kernel))
theorem dX12_fit_49 : decode cX12_fit 49 = .ok (.lconst 0, 1) := bq_o9 (bq_of bwX12_fit_0 49 (by decide +kernel))
theorem dX12_fit_50 : decode cX12_fit 50 = .ok (.lcmp, 1) := bq_o148 (bq_of bwX12_fit_0 50 (by decide +kernel))
theorem dX12_fit_51 : decode cX12_fit 51 = .ok (.ifCond .eq 7, 3) := bq_o153 (a := 0) (b := 7) (bq_3 bwX12_fit_0 51 (by decide +kernel)) (by decide +kernel)
theorem dX12_fit_54 : decode cX12_fit 54 = .ok (.lconst 1, 1) := bq_o10 (bq_of bwX12_fit_0 54 (by decide +kernel))
theorem dX12_fit_55 : decode cX12_fit 55 = .ok (.goto 4, 3) := bq_o167 (a := 0) (b := 4) (bq_3 bwX12_fit_0 55 (by decide +kernel)) (by decide +kernel)
theorem dX12_fit_58 : decode cX12_fit 58 = .ok (.lconst 0, 1) := bq_o9 (bq_of bwX12_fit_0 58 (by decide +kernel))
theorem dX12_fit_59 : decode cX12_fit 59 = .ok (.lreturn, 1) := bq_o173 (bq_of bwX12_fit_0 59 (by decide +kernel))
theorem dX12_noRow_0 : decode cX12_noRow 0 = .ok (.iload_n 1, 1) := by decide +kernel
theorem dX12_noRow_1 : decode cX12_noRow 1 = .ok (.i2l, 1) := by decide +kernel
theorem dX12_noRow_2 : decode cX12_noRow 2 = .ok (.lconst 0, 1) := by decide +kernel
theorem dX12_noRow_3 : decode cX12_noRow 3 = .ok (.ldc2_w 96, 3) := by decide +kernel
theorem dX12_noRow_6 : decode cX12_noRow 6 = .ok (.invokestatic 88, 3) := by decide +kernel
theorem dX12_noRow_9 : decode cX12_noRow 9 = .ok (.ifCond .ne 10, 3) := by decide +kernel
theorem dX12_noRow_12 : decode cX12_noRow 12 = .ok (.aload_n 0, 1) := by decide +kernel
theorem dX12_noRow_13 : decode cX12_noRow 13 = .ok (.bipush (-2), 2) := by decide +kernel
theorem dX12_noRow_15 : decode cX12_noRow 15 = .ok (.invokevirtual 102, 3) := by decide +kernel
theorem dX12_noRow_18 : decode cX12_noRow 18 = .ok (.ireturn, 1) := by decide +kernel
theorem dX12_noRow_19 : decode cX12_noRow 19 = .ok (.aload_n 0, 1) := by decide +kernel
theorem dX12_noRow_20 : decode cX12_noRow 20 = .ok (.getfield 7, 3) := by decide +kernel
theorem dX12_noRow_23 : decode cX12_noRow 23 = .ok (.iload_n 1, 1) := by decide +kernel
theorem dX12_noRow_24 : decode cX12_noRow 24 = .ok (.iaload, 1) := by decide +kernel
theorem dX12_noRow_25 : decode cX12_noRow 25 = .ok (.iconst 2, 1) := by decide +kernel
theorem dX12_noRow_26 : decode cX12_noRow 26 = .ok (.if_icmp .ne 10, 3) := by decide +kernel
theorem dX12_noRow_29 : decode cX12_noRow 29 = .ok (.aload_n 0, 1) := by decide +kernel
theorem dX12_noRow_30 : decode cX12_noRow 30 = .ok (.bipush (-3), 2) := by decide +kernel
theorem dX12_noRow_32 : decode cX12_noRow 32 = .ok (.invokevirtual 102, 3) := by decide +kernel
theorem dX12_noRow_35 : decode cX12_noRow 35 = .ok (.ireturn, 1) := by decide +kernel
theorem dX12_noRow_36 : decode cX12_noRow 36 = .ok (.aload_n 0, 1) := by decide +kernel
theorem dX12_noRow_37 : decode cX12_noRow 37 = .ok (.getfield 7, 3) := by decide +kernel
theorem dX12_noRow_40 : decode cX12_noRow 40 = .ok (.iload_n 1, 1) := by decide +kernel
theorem dX12_noRow_41 : decode cX12_noRow 41 = .ok (.iaload, 1) := by decide +kernel
theorem dX12_noRow_42 : decode cX12_noRow 42 = .ok (.ifCond .ne 12, 3) := by decide +kernel
theorem dX12_noRow_45 : decode cX12_noRow 45 = .ok (.aload_n 0, 1) := by decide +kernel
theorem dX12_noRow_46 : decode cX12_noRow 46 = .ok (.bipush (-4), 2) := by decide +kernel
theorem dX12_noRow_48 : decode cX12_noRow 48 = .ok (.invokevirtual 102, 3) := by decide +kernel
theorem dX12_noRow_51 : decode cX12_noRow 51 = .ok (.goto 4, 3) := by decide +kernel
theorem dX12_noRow_54 : decode cX12_noRow 54 = .ok (.iconst 0, 1) := by decide +kernel
theorem dX12_noRow_55 : decode cX12_noRow 55 = .ok (.ireturn, 1) := by decide +kernel
theorem dX12_noMan_0 : decode cX12_noMan 0 = .ok (.iload_n 1, 1) := by decide +kernel
theorem dX12_noMan_1 : decode cX12_noMan 1 = .ok (.i2l, 1) := by decide +kernel
theorem dX12_noMan_2 : decode cX12_noMan 2 = .ok (.lconst 0, 1) := by decide +kernel
theorem dX12_noMan_3 : decode cX12_noMan 3 = .ok (.ldc2_w 96, 3) := by decide +kernel
theorem dX12_noMan_6 : decode cX12_noMan 6 = .ok (.invokestatic 88, 3) := by decide +kernel
theorem dX12_noMan_9 : decode cX12_noMan 9 = .ok (.ifCond .ne 10, 3) := by decide +kernel
theorem dX12_noMan_12 : decode cX12_noMan 12 = .ok (.aload_n 0, 1) := by decide +kernel
theorem dX12_noMan_13 : decode cX12_noMan 13 = .ok (.bipush (-2), 2) := by decide +kernel
theorem dX12_noMan_15 : decode cX12_noMan 15 = .ok (.invokevirtual 102, 3) := by decide +kernel
theorem dX12_noMan_18 : decode cX12_noMan 18 = .ok (.ireturn, 1) := by decide +kernel
theorem dX12_noMan_19 : decode cX12_noMan 19 = .ok (.aload_n 0, 1) := by decide +kernel
theorem dX12_noMan_20 : decode cX12_noMan 20 = .ok (.getfield 7, 3) := by decide +kernel
theorem dX12_noMan_23 : decode cX12_noMan 23 = .ok (.iload_n 1, 1) := by decide +kernel
theorem dX12_noMan_24 : decode cX12_noMan 24 = .ok (.iaload, 1) := by decide +kernel
theorem dX12_noMan_25 : decode cX12_noMan 25 = .ok (.iconst 1, 1) := by decide +kernel
theorem dX12_noMan_26 : decode cX12_noMan 26 = .ok (.if_icmp .ne 10, 3) := by decide +kernel
theorem dX12_noMan_29 : decode cX12_noMan 29 = .ok (.aload_n 0, 1) := by decide +kernel
theorem dX12_noMan_30 : decode cX12_noMan 30 = .ok (.bipush (-3), 2) := by decide +kernel
theorem dX12_noMan_32 : decode cX12_noMan 32 = .ok (.invokevirtual 102, 3) := by decide +kernel
theorem dX12_noMan_35 : decode cX12_noMan 35 = .ok (.ireturn, 1) := by decide +kernel
theorem dX12_noMan_36 : decode cX12_noMan 36 = .ok (.aload_n 0, 1) := by decide +kernel
theorem dX12_noMan_37 : decode cX12_noMan 37 = .ok (.getfield 7, 3) := by decide +kernel
theorem dX12_noMan_40 : decode cX12_noMan 40 = .ok (.iload_n 1, 1) := by decide +kernel
theorem dX12_noMan_41 : decode cX12_noMan 41 = .ok (.iaload, 1) := by decide +kernel
theorem dX12_noMan_42 : decode cX12_noMan 42 = .ok (.ifCond .ne 12, 3) := by decide +kernel
theorem dX12_noMan_45 : decode cX12_noMan 45 = .ok (.aload_n 0, 1) := by decide +kernel
theorem dX12_noMan_46 : decode cX12_noMan 46 = .ok (.bipush (-4), 2) := by decide +kernel
theorem dX12_noMan_48 : decode cX12_noMan 48 = .ok (.invokevirtual 102, 3) := by decide +kernel
theorem dX12_noMan_51 : decode cX12_noMan 51 = .ok (.goto 4, 3) := by decide +kernel
theorem dX12_noMan_54 : decode cX12_noMan 54 = .ok (.iconst 0, 1) := by decide +kernel
theorem dX12_noMan_55 : decode cX12_noMan 55 = .ok (.ireturn, 1) := by decide +kernel
def bwX12_set_0l : List Nat := [42, 27, 182, 0, 106, 54, 5, 21, 5, 153, 0, 6, 21, 5, 172, 28, 133, 9, 42, 180, 0, 16, 27, 46, 4, 100, 133, 184, 0, 88, 154, 0, 10, 42, 16, 254, 182, 0, 102, 172, 42, 180, 0, 21, 27, 50, 28, 42, 180, 0, 13, 27, 46, 33, 184, 0, 109, 80, 4, 172]
theorem bwX12_set_0 : ((cX12_set.data.toList.drop 0).take 60).map UInt8.toNat = bwX12_set_0l := by decide +kernel
theorem dX12_set_0 : decode cX12_set 0 = .ok (.aload_n 0, 1) := bq_o42 (bq_of bwX12_set_0 0 (by decide +kernel))
theorem dX12_set_1 : decode cX12_set 1 = .ok (.iload_n 1, 1) := bq_o27 (bq_of bwX12_set_0 1 (by decide +kernel))
theorem dX12_set_2 : decode cX12_set 2 = .ok (.invokevirtual 106, 3) := bq_o182 (a := 0) (b := 106) (bq_3 bwX12_set_0 2 (by decide +kernel)) rfl
theorem dX12_set_5 : decode cX12_set 5 = .ok (.istore 5, 2) := bq_o54 (a := 5) (bq_2 bwX12_set_0 5 (by decide +kernel)) rfl
theorem dX12_set_7 : decode cX12_set 7 = .ok (.iload 5, 2) := bq_o21 (a := 5) (bq_2 bwX12_set_0 7 (by decide +kernel)) rfl
theorem dX12_set_9 : decode cX12_set 9 = .ok (.ifCond .eq 6, 3) := bq_o153 (a := 0) (b := 6) (bq_3 bwX12_set_0 9 (by decide +kernel)) (by decide +kernel)
theorem dX12_set_12 : decode cX12_set 12 = .ok (.iload 5, 2) := bq_o21 (a := 5) (bq_2 bwX12_set_0 12 (by decide +kernel)) rfl
theorem dX12_set_14 : decode cX12_set 14 = .ok (.ireturn, 1) := bq_o172 (bq_of bwX12_set_0 14 (by decide +kernel))
theorem dX12_set_15 : decode cX12_set 15 = .ok (.iload_n 2, 1) := bq_o28 (bq_of bwX12_set_0 15 (by decide +kernel))
theorem dX12_set_16 : decode cX12_set 16 = .ok (.i2l, 1) := bq_o133 (bq_of bwX12_set_0 16 (by decide +kernel))
theorem dX12_set_17 : decode cX12_set 17 = .ok (.lconst 0, 1) := bq_o9 (bq_of bwX12_set_0 17 (by decide +kernel))
theorem dX12_set_18 : decode cX12_set 18 = .ok (.aload_n 0, 1) := bq_o42 (bq_of bwX12_set_0 18 (by decide +kernel))
theorem dX12_set_19 : decode cX12_set 19 = .ok (.getfield 16, 3) := bq_o180 (a := 0) (b := 16) (bq_3 bwX12_set_0 19 (by decide +kernel)) rfl
theorem dX12_set_22 : decode cX12_set 22 = .ok (.iload_n 1, 1) := bq_o27 (bq_of bwX12_set_0 22 (by decide +kernel))
theorem dX12_set_23 : decode cX12_set 23 = .ok (.iaload, 1) := bq_o46 (bq_of bwX12_set_0 23 (by decide +kernel))
theorem dX12_set_24 : decode cX12_set 24 = .ok (.iconst 1, 1) := bq_o4 (bq_of bwX12_set_0 24 (by decide +kernel))
theorem dX12_set_25 : decode cX12_set 25 = .ok (.isub, 1) := bq_o100 (bq_of bwX12_set_0 25 (by decide +kernel))
theorem dX12_set_26 : decode cX12_set 26 = .ok (.i2l, 1) := bq_o133 (bq_of bwX12_set_0 26 (by decide +kernel))
theorem dX12_set_27 : decode cX12_set 27 = .ok (.invokestatic 88, 3) := bq_o184 (a := 0) (b := 88) (bq_3 bwX12_set_0 27 (by decide +kernel)) rfl
theorem dX12_set_30 : decode cX12_set 30 = .ok (.ifCond .ne 10, 3) := bq_o154 (a := 0) (b := 10) (bq_3 bwX12_set_0 30 (by decide +kernel)) (by decide +kernel)
theorem dX12_set_33 : decode cX12_set 33 = .ok (.aload_n 0, 1) := bq_o42 (bq_of bwX12_set_0 33 (by decide +kernel))
theorem dX12_set_34 : decode cX12_set 34 = .ok (.bipush (-2), 2) := bq_o16 (a := 254) (bq_2 bwX12_set_0 34 (by decide +kernel)) (by decide +kernel)
theorem dX12_set_36 : decode cX12_set 36 = .ok (.invokevirtual 102, 3) := bq_o182 (a := 0) (b := 102) (bq_3 bwX12_set_0 36 (by decide +kernel)) rfl
theorem dX12_set_39 : decode cX12_set 39 = .ok (.ireturn, 1) := bq_o172 (bq_of bwX12_set_0 39 (by decide +kernel))
theorem dX12_set_40 : decode cX12_set 40 = .ok (.aload_n 0, 1) := bq_o42 (bq_of bwX12_set_0 40 (by decide +kernel))
theorem dX12_set_41 : decode cX12_set 41 = .ok (.getfield 21, 3) := bq_o180 (a := 0) (b := 21) (bq_3 bwX12_set_0 41 (by decide +kernel)) rfl
theorem dX12_set_44 : decode cX12_set 44 = .ok (.iload_n 1, 1) := bq_o27 (bq_of bwX12_set_0 44 (by decide +kernel))
theorem dX12_set_45 : decode cX12_set 45 = .ok (.aaload, 1) := bq_o50 (bq_of bwX12_set_0 45 (by decide +kernel))
theorem dX12_set_46 : decode cX12_set 46 = .ok (.iload_n 2, 1) := bq_o28 (bq_of bwX12_set_0 46 (by decide +kernel))
theorem dX12_set_47 : decode cX12_set 47 = .ok (.aload_n 0, 1) := bq_o42 (bq_of bwX12_set_0 47 (by decide +kernel))
theorem dX12_set_48 : decode cX12_set 48 = .ok (.getfield 13, 3) := bq_o180 (a := 0) (b := 13) (bq_3 bwX12_set_0 48 (by decide +kernel)) rfl
theorem dX12_set_51 : decode cX12_set 51 = .ok (.iload_n 1, 1) := bq_o27 (bq_of bwX12_set_0 51 (by decide +kernel))
theorem dX12_set_52 : decode cX12_set 52 = .ok (.iaload, 1) := bq_o46 (bq_of bwX12_set_0 52 (by decide +kernel))
theorem dX12_set_53 : decode cX12_set 53 = .ok (.lload_n 3, 1) := bq_o33 (bq_of bwX12_set_0 53 (by decide +kernel))
theorem dX12_set_54 : decode cX12_set 54 = .ok (.invokestatic 109, 3) := bq_o184 (a := 0) (b := 109) (bq_3 bwX12_set_0 54 (by decide +kernel)) rfl
theorem dX12_set_57 : decode cX12_set 57 = .ok (.lastore, 1) := bq_o80 (bq_of bwX12_set_0 57 (by decide +kernel))
theorem dX12_set_58 : decode cX12_set 58 = .ok (.iconst 1, 1) := bq_o4 (bq_of bwX12_set_0 58 (by decide +kernel))
theorem dX12_set_59 : decode cX12_set 59 = .ok (.ireturn, 1) := bq_o172 (bq_of bwX12_set_0 59 (by decide +kernel))
def bwX12_copy_0l : List Nat := [27, 133, 9, 20, 0, 96, 184, 0, 88, 153, 0, 15, 28, 133, 9, 20, 0, 96, 184, 0, 88, 154, 0, 10, 42, 16, 254, 182, 0, 102, 172, 42, 180, 0, 7, 27, 46, 5, 159, 0, 48, 42, 180, 0, 7, 28, 46, 5, 159, 0, 38, 42, 180, 0, 7, 27, 46, 4, 160, 0, 35, 42, 180, 0, 7, 28]
theorem bwX12_copy_0 : ((cX12_copy.data.toList.drop 0).take 66).map UInt8.toNat = bwX12_copy_0l := by decide +kernel
theorem dX12_copy_0 : decode cX12_copy 0 = .ok (.iload_n 1, 1) := bq_o27 (bq_of bwX12_copy_0 0 (by decide +kernel))
theorem dX12_copy_1 : decode cX12_copy 1 = .ok (.i2l, 1) := bq_o133 (bq_of bwX12_copy_0 1 (by decide +kernel))
theorem dX12_copy_2 : decode cX12_copy 2 = .ok (.lconst 0, 1) := bq_o9 (bq_of bwX12_copy_0 2 (by decide +kernel))
theorem dX12_copy_3 : decode cX12_copy 3 = .ok (.ldc2_w 96, 3) := bq_o20 (a := 0) (b := 96) (bq_3 bwX12_copy_0 3 (by decide +kernel)) rfl
theorem dX12_copy_6 : decode cX12_copy 6 = .ok (.invokestatic 88, 3) := bq_o184 (a := 0) (b := 88) (bq_3 bwX12_copy_0 6 (by decide +kernel)) rfl
theorem dX12_copy_9 : decode cX12_copy 9 = .ok (.ifCond .eq 15, 3) := bq_o153 (a := 0) (b := 15) (bq_3 bwX12_copy_0 9 (by decide +kernel)) (by decide +kernel)
theorem dX12_copy_12 : decode cX12_copy 12 = .ok (.iload_n 2, 1) := bq_o28 (bq_of bwX12_copy_0 12 (by decide +kernel))
theorem dX12_copy_13 : decode cX12_copy 13 = .ok (.i2l, 1) := bq_o133 (bq_of bwX12_copy_0 13 (by decide +kernel))
theorem dX12_copy_14 : decode cX12_copy 14 = .ok (.lconst 0, 1) := bq_o9 (bq_of bwX12_copy_0 14 (by decide +kernel))
theorem dX12_copy_15 : decode cX12_copy 15 = .ok (.ldc2_w 96, 3) := bq_o20 (a := 0) (b := 96) (bq_3 bwX12_copy_0 15 (by decide +kernel)) rfl
theorem dX12_copy_18 : decode cX12_copy 18 = .ok (.invokestatic 88, 3) := bq_o184 (a := 0) (b := 88) (bq_3 bwX12_copy_0 18 (by decide +kernel)) rfl
theorem dX12_copy_21 : decode cX12_copy 21 = .ok (.ifCond .ne 10, 3) := bq_o154 (a := 0) (b := 10) (bq_3 bwX12_copy_0 21 (by decide +kernel)) (by decide +kernel)
theorem dX12_copy_24 : decode cX12_copy 24 = .ok (.aload_n 0, 1) := bq_o42 (bq_of bwX12_copy_0 24 (by decide +kernel))
theorem dX12_copy_25 : decode cX12_copy 25 = .ok (.bipush (-2), 2) := bq_o16 (a := 254) (bq_2 bwX12_copy_0 25 (by decide +kernel)) (by decide +kernel)
theorem dX12_copy_27 : decode cX12_copy 27 = .ok (.invokevirtual 102, 3) := bq_o182 (a := 0) (b := 102) (bq_3 bwX12_copy_0 27 (by decide +kernel)) rfl
theorem dX12_copy_30 : decode cX12_copy 30 = .ok (.ireturn, 1) := bq_o172 (bq_of bwX12_copy_0 30 (by decide +kernel))
theorem dX12_copy_31 : decode cX12_copy 31 = .ok (.aload_n 0, 1) := bq_o42 (bq_of bwX12_copy_0 31 (by decide +kernel))
theorem dX12_copy_32 : decode cX12_copy 32 = .ok (.getfield 7, 3) := bq_o180 (a := 0) (b := 7) (bq_3 bwX12_copy_0 32 (by decide +kernel)) rfl
theorem dX12_copy_35 : decode cX12_copy 35 = .ok (.iload_n 1, 1) := bq_o27 (bq_of bwX12_copy_0 35 (by decide +kernel))
theorem dX12_copy_36 : decode cX12_copy 36 = .ok (.iaload, 1) := bq_o46 (bq_of bwX12_copy_0 36 (by decide +kernel))
theorem dX12_copy_37 : decode cX12_copy 37 = .ok (.iconst 2, 1) := bq_o5 (bq_of bwX12_copy_0 37 (by decide +kernel))
theorem dX12_copy_38 : decode cX12_copy 38 = .ok (.if_icmp .eq 48, 3) := bq_o159 (a := 0) (b := 48) (bq_3 bwX12_copy_0 38 (by decide +kernel)) (by decide +kernel)
theorem dX12_copy_41 : decode cX12_copy 41 = .ok (.aload_n 0, 1) := bq_o42 (bq_of bwX12_copy_0 41 (by decide +kernel))
theorem dX12_copy_42 : decode cX12_copy 42 = .ok (.getfield 7, 3) := bq_o180 (a := 0) (b := 7) (bq_3 bwX12_copy_0 42 (by decide +kernel)) rfl
theorem dX12_copy_45 : decode cX12_copy 45 = .ok (.iload_n 2, 1) := bq_o28 (bq_of bwX12_copy_0 45 (by decide +kernel))
theorem dX12_copy_46 : decode cX12_copy 46 = .ok (.iaload, 1) := bq_o46 (bq_of bwX12_copy_0 46 (by decide +kernel))
theorem dX12_copy_47 : decode cX12_copy 47 = .ok (.iconst 2, 1) := bq_o5 (bq_of bwX12_copy_0 47 (by decide +kernel))
theorem dX12_copy_48 : decode cX12_copy 48 = .ok (.if_icmp .eq 38, 3) := bq_o159 (a := 0) (b := 38) (bq_3 bwX12_copy_0 48 (by decide +kernel)) (by decide +kernel)
theorem dX12_copy_51 : decode cX12_copy 51 = .ok (.aload_n 0, 1) := bq_o42 (bq_of bwX12_copy_0 51 (by decide +kernel))
theorem dX12_copy_52 : decode cX12_copy 52 = .ok (.getfield 7, 3) := bq_o180 (a := 0) (b := 7) (bq_3 bwX12_copy_0 52 (by decide +kernel)) rfl
theorem dX12_copy_55 : decode cX12_copy 55 = .ok (.iload_n 1, 1) := bq_o27 (bq_of bwX12_copy_0 55 (by decide +kernel))
theorem dX12_copy_56 : decode cX12_copy 56 = .ok (.iaload, 1) := bq_o46 (bq_of bwX12_copy_0 56 (by decide +kernel))
theorem dX12_copy_57 : decode cX12_copy 57 = .ok (.iconst 1, 1) := bq_o4 (bq_of bwX12_copy_0 57 (by decide +kernel))
theorem dX12_copy_58 : decode cX12_copy 58 = .ok (.if_icmp .ne 35, 3) := bq_o160 (a := 0) (b := 35) (bq_3 bwX12_copy_0 58 (by decide +kernel)) (by decide +kernel)
theorem dX12_copy_61 : decode cX12_copy 61 = .ok (.aload_n 0, 1) := bq_o42 (bq_of bwX12_copy_0 61 (by decide +kernel))
theorem dX12_copy_62 : decode cX12_copy 62 = .ok (.getfield 7, 3) := bq_o180 (a := 0) (b := 7) (bq_3 bwX12_copy_0 62 (by decide +kernel)) rfl
def bwX12_copy_64l : List Nat := [7, 28, 46, 4, 160, 0, 25, 42, 180, 0, 13, 27, 46, 42, 180, 0, 13, 28, 46, 159, 0, 10, 42, 16, 253, 182, 0, 102, 172, 42, 180, 0, 7, 27, 46, 153, 0, 12, 42, 180, 0, 7, 28, 46, 154, 0, 10, 42, 16, 252, 182, 0, 102, 172, 21, 5, 155, 0, 61, 29, 155, 0, 57, 21, 4, 155]
theorem bwX12_copy_64 : ((cX12_copy.data.toList.drop 64).take 66).map UInt8.toNat = bwX12_copy_64l := by decide +kernel
theorem dX12_copy_65 : decode cX12_copy 65 = .ok (.iload_n 2, 1) := bq_o28 (bq_of bwX12_copy_64 1 (by decide +kernel))
theorem dX12_copy_66 : decode cX12_copy 66 = .ok (.iaload, 1) := bq_o46 (bq_of bwX12_copy_64 2 (by decide +kernel))
theorem dX12_copy_67 : decode cX12_copy 67 = .ok (.iconst 1, 1) := bq_o4 (bq_of bwX12_copy_64 3 (by decide +kernel))
theorem dX12_copy_68 : decode cX12_copy 68 = .ok (.if_icmp .ne 25, 3) := bq_o160 (a := 0) (b := 25) (bq_3 bwX12_copy_64 4 (by decide +kernel)) (by decide +kernel)
theorem dX12_copy_71 : decode cX12_copy 71 = .ok (.aload_n 0, 1) := bq_o42 (bq_of bwX12_copy_64 7 (by decide +kernel))
theorem dX12_copy_72 : decode cX12_copy 72 = .ok (.getfield 13, 3) := bq_o180 (a := 0) (b := 13) (bq_3 bwX12_copy_64 8 (by decide +kernel)) rfl
theorem dX12_copy_75 : decode cX12_copy 75 = .ok (.iload_n 1, 1) := bq_o27 (bq_of bwX12_copy_64 11 (by decide +kernel))
theorem dX12_copy_76 : decode cX12_copy 76 = .ok (.iaload, 1) := bq_o46 (bq_of bwX12_copy_64 12 (by decide +kernel))
theorem dX12_copy_77 : decode cX12_copy 77 = .ok (.aload_n 0, 1) := bq_o42 (bq_of bwX12_copy_64 13 (by decide +kernel))
theorem dX12_copy_78 : decode cX12_copy 78 = .ok (.getfield 13, 3) := bq_o180 (a := 0) (b := 13) (bq_3 bwX12_copy_64 14 (by decide +kernel)) rfl
theorem dX12_copy_81 : decode cX12_copy 81 = .ok (.iload_n 2, 1) := bq_o28 (bq_of bwX12_copy_64 17 (by decide +kernel))
theorem dX12_copy_82 : decode cX12_copy 82 = .ok (.iaload, 1) := bq_o46 (bq_of bwX12_copy_64 18 (by decide +kernel))
theorem dX12_copy_83 : decode cX12_copy 83 = .ok (.if_icmp .eq 10, 3) := bq_o159 (a := 0) (b := 10) (bq_3 bwX12_copy_64 19 (by decide +kernel)) (by decide +kernel)
theorem dX12_copy_86 : decode cX12_copy 86 = .ok (.aload_n 0, 1) := bq_o42 (bq_of bwX12_copy_64 22 (by decide +kernel))
theorem dX12_copy_87 : decode cX12_copy 87 = .ok (.bipush (-3), 2) := bq_o16 (a := 253) (bq_2 bwX12_copy_64 23 (by decide +kernel)) (by decide +kernel)
theorem dX12_copy_89 : decode cX12_copy 89 = .ok (.invokevirtual 102, 3) := bq_o182 (a := 0) (b := 102) (bq_3 bwX12_copy_64 25 (by decide +kernel)) rfl
theorem dX12_copy_92 : decode cX12_copy 92 = .ok (.ireturn, 1) := bq_o172 (bq_of bwX12_copy_64 28 (by decide +kernel))
theorem dX12_copy_93 : decode cX12_copy 93 = .ok (.aload_n 0, 1) := bq_o42 (bq_of bwX12_copy_64 29 (by decide +kernel))
theorem dX12_copy_94 : decode cX12_copy 94 = .ok (.getfield 7, 3) := bq_o180 (a := 0) (b := 7) (bq_3 bwX12_copy_64 30 (by decide +kernel)) rfl
theorem dX12_copy_97 : decode cX12_copy 97 = .ok (.iload_n 1, 1) := bq_o27 (bq_of bwX12_copy_64 33 (by decide +kernel))
theorem dX12_copy_98 : decode cX12_copy 98 = .ok (.iaload, 1) := bq_o46 (bq_of bwX12_copy_64 34 (by decide +kernel))
theorem dX12_copy_99 : decode cX12_copy 99 = .ok (.ifCond .eq 12, 3) := bq_o153 (a := 0) (b := 12) (bq_3 bwX12_copy_64 35 (by decide +kernel)) (by decide +kernel)
theorem dX12_copy_102 : decode cX12_copy 102 = .ok (.aload_n 0, 1) := bq_o42 (bq_of bwX12_copy_64 38 (by decide +kernel))
theorem dX12_copy_103 : decode cX12_copy 103 = .ok (.getfield 7, 3) := bq_o180 (a := 0) (b := 7) (bq_3 bwX12_copy_64 39 (by decide +kernel)) rfl
theorem dX12_copy_106 : decode cX12_copy 106 = .ok (.iload_n 2, 1) := bq_o28 (bq_of bwX12_copy_64 42 (by decide +kernel))
theorem dX12_copy_107 : decode cX12_copy 107 = .ok (.iaload, 1) := bq_o46 (bq_of bwX12_copy_64 43 (by decide +kernel))
theorem dX12_copy_108 : decode cX12_copy 108 = .ok (.ifCond .ne 10, 3) := bq_o154 (a := 0) (b := 10) (bq_3 bwX12_copy_64 44 (by decide +kernel)) (by decide +kernel)
theorem dX12_copy_111 : decode cX12_copy 111 = .ok (.aload_n 0, 1) := bq_o42 (bq_of bwX12_copy_64 47 (by decide +kernel))
theorem dX12_copy_112 : decode cX12_copy 112 = .ok (.bipush (-4), 2) := bq_o16 (a := 252) (bq_2 bwX12_copy_64 48 (by decide +kernel)) (by decide +kernel)
theorem dX12_copy_114 : decode cX12_copy 114 = .ok (.invokevirtual 102, 3) := bq_o182 (a := 0) (b := 102) (bq_3 bwX12_copy_64 50 (by decide +kernel)) rfl
theorem dX12_copy_117 : decode cX12_copy 117 = .ok (.ireturn, 1) := bq_o172 (bq_of bwX12_copy_64 53 (by decide +kernel))
theorem dX12_copy_118 : decode cX12_copy 118 = .ok (.iload 5, 2) := bq_o21 (a := 5) (bq_2 bwX12_copy_64 54 (by decide +kernel)) rfl
theorem dX12_copy_120 : decode cX12_copy 120 = .ok (.ifCond .lt 61, 3) := bq_o155 (a := 0) (b := 61) (bq_3 bwX12_copy_64 56 (by decide +kernel)) (by decide +kernel)
theorem dX12_copy_123 : decode cX12_copy 123 = .ok (.iload_n 3, 1) := bq_o29 (bq_of bwX12_copy_64 59 (by decide +kernel))
theorem dX12_copy_124 : decode cX12_copy 124 = .ok (.ifCond .lt 57, 3) := bq_o155 (a := 0) (b := 57) (bq_3 bwX12_copy_64 60 (by decide +kernel)) (by decide +kernel)
theorem dX12_copy_127 : decode cX12_copy 127 = .ok (.iload 4, 2) := bq_o21 (a := 4) (bq_2 bwX12_copy_64 63 (by decide +kernel)) rfl
def bwX12_copy_128l : List Nat := [4, 155, 0, 52, 21, 5, 42, 180, 0, 16, 27, 46, 163, 0, 41, 21, 5, 42, 180, 0, 16, 28, 46, 163, 0, 30, 29, 42, 180, 0, 16, 27, 46, 21, 5, 100, 163, 0, 17, 21, 4, 42, 180, 0, 16, 28, 46, 21, 5, 100, 164, 0, 10, 42, 16, 254, 182, 0, 102, 172, 3, 54, 6, 21, 6, 21]
theorem bwX12_copy_128 : ((cX12_copy.data.toList.drop 128).take 66).map UInt8.toNat = bwX12_copy_128l := by decide +kernel
theorem dX12_copy_129 : decode cX12_copy 129 = .ok (.ifCond .lt 52, 3) := bq_o155 (a := 0) (b := 52) (bq_3 bwX12_copy_128 1 (by decide +kernel)) (by decide +kernel)
theorem dX12_copy_132 : decode cX12_copy 132 = .ok (.iload 5, 2) := bq_o21 (a := 5) (bq_2 bwX12_copy_128 4 (by decide +kernel)) rfl
theorem dX12_copy_134 : decode cX12_copy 134 = .ok (.aload_n 0, 1) := bq_o42 (bq_of bwX12_copy_128 6 (by decide +kernel))
theorem dX12_copy_135 : decode cX12_copy 135 = .ok (.getfield 16, 3) := bq_o180 (a := 0) (b := 16) (bq_3 bwX12_copy_128 7 (by decide +kernel)) rfl
theorem dX12_copy_138 : decode cX12_copy 138 = .ok (.iload_n 1, 1) := bq_o27 (bq_of bwX12_copy_128 10 (by decide +kernel))
theorem dX12_copy_139 : decode cX12_copy 139 = .ok (.iaload, 1) := bq_o46 (bq_of bwX12_copy_128 11 (by decide +kernel))
theorem dX12_copy_140 : decode cX12_copy 140 = .ok (.if_icmp .gt 41, 3) := bq_o163 (a := 0) (b := 41) (bq_3 bwX12_copy_128 12 (by decide +kernel)) (by decide +kernel)
theorem dX12_copy_143 : decode cX12_copy 143 = .ok (.iload 5, 2) := bq_o21 (a := 5) (bq_2 bwX12_copy_128 15 (by decide +kernel)) rfl
theorem dX12_copy_145 : decode cX12_copy 145 = .ok (.aload_n 0, 1) := bq_o42 (bq_of bwX12_copy_128 17 (by decide +kernel))
theorem dX12_copy_146 : decode cX12_copy 146 = .ok (.getfield 16, 3) := bq_o180 (a := 0) (b := 16) (bq_3 bwX12_copy_128 18 (by decide +kernel)) rfl
theorem dX12_copy_149 : decode cX12_copy 149 = .ok (.iload_n 2, 1) := bq_o28 (bq_of bwX12_copy_128 21 (by decide +kernel))
theorem dX12_copy_150 : decode cX12_copy 150 = .ok (.iaload, 1) := bq_o46 (bq_of bwX12_copy_128 22 (by decide +kernel))
theorem dX12_copy_151 : decode cX12_copy 151 = .ok (.if_icmp .gt 30, 3) := bq_o163 (a := 0) (b := 30) (bq_3 bwX12_copy_128 23 (by decide +kernel)) (by decide +kernel)
theorem dX12_copy_154 : decode cX12_copy 154 = .ok (.iload_n 3, 1) := bq_o29 (bq_of bwX12_copy_128 26 (by decide +kernel))
theorem dX12_copy_155 : decode cX12_copy 155 = .ok (.aload_n 0, 1) := bq_o42 (bq_of bwX12_copy_128 27 (by decide +kernel))
theorem dX12_copy_156 : decode cX12_copy 156 = .ok (.getfield 16, 3) := bq_o180 (a := 0) (b := 16) (bq_3 bwX12_copy_128 28 (by decide +kernel)) rfl
theorem dX12_copy_159 : decode cX12_copy 159 = .ok (.iload_n 1, 1) := bq_o27 (bq_of bwX12_copy_128 31 (by decide +kernel))
theorem dX12_copy_160 : decode cX12_copy 160 = .ok (.iaload, 1) := bq_o46 (bq_of bwX12_copy_128 32 (by decide +kernel))
theorem dX12_copy_161 : decode cX12_copy 161 = .ok (.iload 5, 2) := bq_o21 (a := 5) (bq_2 bwX12_copy_128 33 (by decide +kernel)) rfl
theorem dX12_copy_163 : decode cX12_copy 163 = .ok (.isub, 1) := bq_o100 (bq_of bwX12_copy_128 35 (by decide +kernel))
theorem dX12_copy_164 : decode cX12_copy 164 = .ok (.if_icmp .gt 17, 3) := bq_o163 (a := 0) (b := 17) (bq_3 bwX12_copy_128 36 (by decide +kernel)) (by decide +kernel)
theorem dX12_copy_167 : decode cX12_copy 167 = .ok (.iload 4, 2) := bq_o21 (a := 4) (bq_2 bwX12_copy_128 39 (by decide +kernel)) rfl
theorem dX12_copy_169 : decode cX12_copy 169 = .ok (.aload_n 0, 1) := bq_o42 (bq_of bwX12_copy_128 41 (by decide +kernel))
theorem dX12_copy_170 : decode cX12_copy 170 = .ok (.getfield 16, 3) := bq_o180 (a := 0) (b := 16) (bq_3 bwX12_copy_128 42 (by decide +kernel)) rfl
theorem dX12_copy_173 : decode cX12_copy 173 = .ok (.iload_n 2, 1) := bq_o28 (bq_of bwX12_copy_128 45 (by decide +kernel))
theorem dX12_copy_174 : decode cX12_copy 174 = .ok (.iaload, 1) := bq_o46 (bq_of bwX12_copy_128 46 (by decide +kernel))
theorem dX12_copy_175 : decode cX12_copy 175 = .ok (.iload 5, 2) := bq_o21 (a := 5) (bq_2 bwX12_copy_128 47 (by decide +kernel)) rfl
theorem dX12_copy_177 : decode cX12_copy 177 = .ok (.isub, 1) := bq_o100 (bq_of bwX12_copy_128 49 (by decide +kernel))
theorem dX12_copy_178 : decode cX12_copy 178 = .ok (.if_icmp .le 10, 3) := bq_o164 (a := 0) (b := 10) (bq_3 bwX12_copy_128 50 (by decide +kernel)) (by decide +kernel)
theorem dX12_copy_181 : decode cX12_copy 181 = .ok (.aload_n 0, 1) := bq_o42 (bq_of bwX12_copy_128 53 (by decide +kernel))
theorem dX12_copy_182 : decode cX12_copy 182 = .ok (.bipush (-2), 2) := bq_o16 (a := 254) (bq_2 bwX12_copy_128 54 (by decide +kernel)) (by decide +kernel)
theorem dX12_copy_184 : decode cX12_copy 184 = .ok (.invokevirtual 102, 3) := bq_o182 (a := 0) (b := 102) (bq_3 bwX12_copy_128 56 (by decide +kernel)) rfl
theorem dX12_copy_187 : decode cX12_copy 187 = .ok (.ireturn, 1) := bq_o172 (bq_of bwX12_copy_128 59 (by decide +kernel))
theorem dX12_copy_188 : decode cX12_copy 188 = .ok (.iconst 0, 1) := bq_o3 (bq_of bwX12_copy_128 60 (by decide +kernel))
theorem dX12_copy_189 : decode cX12_copy 189 = .ok (.istore 6, 2) := bq_o54 (a := 6) (bq_2 bwX12_copy_128 61 (by decide +kernel)) rfl
theorem dX12_copy_191 : decode cX12_copy 191 = .ok (.iload 6, 2) := bq_o21 (a := 6) (bq_2 bwX12_copy_128 63 (by decide +kernel)) rfl
def bwX12_copy_192l : List Nat := [6, 21, 5, 162, 0, 27, 42, 180, 0, 24, 21, 6, 42, 180, 0, 21, 27, 50, 29, 21, 6, 96, 47, 80, 132, 6, 1, 167, 255, 228, 3, 54, 6, 21, 6, 21, 5, 162, 0, 28, 42, 180, 0, 21, 28, 50, 21, 4, 21, 6, 96, 42, 180, 0, 24, 21, 6, 47, 80, 132, 6, 1, 167, 255, 227, 21]
theorem bwX12_copy_192 : ((cX12_copy.data.toList.drop 192).take 66).map UInt8.toNat = bwX12_copy_192l := by decide +kernel
theorem dX12_copy_193 : decode cX12_copy 193 = .ok (.iload 5, 2) := bq_o21 (a := 5) (bq_2 bwX12_copy_192 1 (by decide +kernel)) rfl
theorem dX12_copy_195 : decode cX12_copy 195 = .ok (.if_icmp .ge 27, 3) := bq_o162 (a := 0) (b := 27) (bq_3 bwX12_copy_192 3 (by decide +kernel)) (by decide +kernel)
theorem dX12_copy_198 : decode cX12_copy 198 = .ok (.aload_n 0, 1) := bq_o42 (bq_of bwX12_copy_192 6 (by decide +kernel))
theorem dX12_copy_199 : decode cX12_copy 199 = .ok (.getfield 24, 3) := bq_o180 (a := 0) (b := 24) (bq_3 bwX12_copy_192 7 (by decide +kernel)) rfl
theorem dX12_copy_202 : decode cX12_copy 202 = .ok (.iload 6, 2) := bq_o21 (a := 6) (bq_2 bwX12_copy_192 10 (by decide +kernel)) rfl
theorem dX12_copy_204 : decode cX12_copy 204 = .ok (.aload_n 0, 1) := bq_o42 (bq_of bwX12_copy_192 12 (by decide +kernel))
theorem dX12_copy_205 : decode cX12_copy 205 = .ok (.getfield 21, 3) := bq_o180 (a := 0) (b := 21) (bq_3 bwX12_copy_192 13 (by decide +kernel)) rfl
theorem dX12_copy_208 : decode cX12_copy 208 = .ok (.iload_n 1, 1) := bq_o27 (bq_of bwX12_copy_192 16 (by decide +kernel))
theorem dX12_copy_209 : decode cX12_copy 209 = .ok (.aaload, 1) := bq_o50 (bq_of bwX12_copy_192 17 (by decide +kernel))
theorem dX12_copy_210 : decode cX12_copy 210 = .ok (.iload_n 3, 1) := bq_o29 (bq_of bwX12_copy_192 18 (by decide +kernel))
theorem dX12_copy_211 : decode cX12_copy 211 = .ok (.iload 6, 2) := bq_o21 (a := 6) (bq_2 bwX12_copy_192 19 (by decide +kernel)) rfl
theorem dX12_copy_213 : decode cX12_copy 213 = .ok (.iadd, 1) := bq_o96 (bq_of bwX12_copy_192 21 (by decide +kernel))
theorem dX12_copy_214 : decode cX12_copy 214 = .ok (.laload, 1) := bq_o47 (bq_of bwX12_copy_192 22 (by decide +kernel))
theorem dX12_copy_215 : decode cX12_copy 215 = .ok (.lastore, 1) := bq_o80 (bq_of bwX12_copy_192 23 (by decide +kernel))
theorem dX12_copy_216 : decode cX12_copy 216 = .ok (.iinc 6 1, 3) := bq_o132 (a := 6) (b := 1) (bq_3 bwX12_copy_192 24 (by decide +kernel)) rfl (by decide +kernel)
theorem dX12_copy_219 : decode cX12_copy 219 = .ok (.goto (-28), 3) := bq_o167 (a := 255) (b := 228) (bq_3 bwX12_copy_192 27 (by decide +kernel)) (by decide +kernel)
theorem dX12_copy_222 : decode cX12_copy 222 = .ok (.iconst 0, 1) := bq_o3 (bq_of bwX12_copy_192 30 (by decide +kernel))
theorem dX12_copy_223 : decode cX12_copy 223 = .ok (.istore 6, 2) := bq_o54 (a := 6) (bq_2 bwX12_copy_192 31 (by decide +kernel)) rfl
theorem dX12_copy_225 : decode cX12_copy 225 = .ok (.iload 6, 2) := bq_o21 (a := 6) (bq_2 bwX12_copy_192 33 (by decide +kernel)) rfl
theorem dX12_copy_227 : decode cX12_copy 227 = .ok (.iload 5, 2) := bq_o21 (a := 5) (bq_2 bwX12_copy_192 35 (by decide +kernel)) rfl
theorem dX12_copy_229 : decode cX12_copy 229 = .ok (.if_icmp .ge 28, 3) := bq_o162 (a := 0) (b := 28) (bq_3 bwX12_copy_192 37 (by decide +kernel)) (by decide +kernel)
theorem dX12_copy_232 : decode cX12_copy 232 = .ok (.aload_n 0, 1) := bq_o42 (bq_of bwX12_copy_192 40 (by decide +kernel))
theorem dX12_copy_233 : decode cX12_copy 233 = .ok (.getfield 21, 3) := bq_o180 (a := 0) (b := 21) (bq_3 bwX12_copy_192 41 (by decide +kernel)) rfl
theorem dX12_copy_236 : decode cX12_copy 236 = .ok (.iload_n 2, 1) := bq_o28 (bq_of bwX12_copy_192 44 (by decide +kernel))
theorem dX12_copy_237 : decode cX12_copy 237 = .ok (.aaload, 1) := bq_o50 (bq_of bwX12_copy_192 45 (by decide +kernel))
theorem dX12_copy_238 : decode cX12_copy 238 = .ok (.iload 4, 2) := bq_o21 (a := 4) (bq_2 bwX12_copy_192 46 (by decide +kernel)) rfl
theorem dX12_copy_240 : decode cX12_copy 240 = .ok (.iload 6, 2) := bq_o21 (a := 6) (bq_2 bwX12_copy_192 48 (by decide +kernel)) rfl
theorem dX12_copy_242 : decode cX12_copy 242 = .ok (.iadd, 1) := bq_o96 (bq_of bwX12_copy_192 50 (by decide +kernel))
theorem dX12_copy_243 : decode cX12_copy 243 = .ok (.aload_n 0, 1) := bq_o42 (bq_of bwX12_copy_192 51 (by decide +kernel))
theorem dX12_copy_244 : decode cX12_copy 244 = .ok (.getfield 24, 3) := bq_o180 (a := 0) (b := 24) (bq_3 bwX12_copy_192 52 (by decide +kernel)) rfl
theorem dX12_copy_247 : decode cX12_copy 247 = .ok (.iload 6, 2) := bq_o21 (a := 6) (bq_2 bwX12_copy_192 55 (by decide +kernel)) rfl
theorem dX12_copy_249 : decode cX12_copy 249 = .ok (.laload, 1) := bq_o47 (bq_of bwX12_copy_192 57 (by decide +kernel))
theorem dX12_copy_250 : decode cX12_copy 250 = .ok (.lastore, 1) := bq_o80 (bq_of bwX12_copy_192 58 (by decide +kernel))
theorem dX12_copy_251 : decode cX12_copy 251 = .ok (.iinc 6 1, 3) := bq_o132 (a := 6) (b := 1) (bq_3 bwX12_copy_192 59 (by decide +kernel)) rfl (by decide +kernel)
theorem dX12_copy_254 : decode cX12_copy 254 = .ok (.goto (-29), 3) := bq_o167 (a := 255) (b := 227) (bq_3 bwX12_copy_192 62 (by decide +kernel)) (by decide +kernel)
def bwX12_copy_256l : List Nat := [227, 21, 5, 172]
theorem bwX12_copy_256 : ((cX12_copy.data.toList.drop 256).take 4).map UInt8.toNat = bwX12_copy_256l := by decide +kernel
theorem dX12_copy_257 : decode cX12_copy 257 = .ok (.iload 5, 2) := bq_o21 (a := 5) (bq_2 bwX12_copy_256 1 (by decide +kernel)) rfl
theorem dX12_copy_259 : decode cX12_copy 259 = .ok (.ireturn, 1) := bq_o172 (bq_of bwX12_copy_256 3 (by decide +kernel))
theorem dX12_element_0 : decode cX12_element 0 = .ok (.iload_n 1, 1) := by decide +kernel
theorem dX12_element_1 : decode cX12_element 1 = .ok (.i2l, 1) := by decide +kernel
theorem dX12_element_2 : decode cX12_element 2 = .ok (.lconst 0, 1) := by decide +kernel
theorem dX12_element_3 : decode cX12_element 3 = .ok (.ldc2_w 96, 3) := by decide +kernel
theorem dX12_element_6 : decode cX12_element 6 = .ok (.invokestatic 88, 3) := by decide +kernel
theorem dX12_element_9 : decode cX12_element 9 = .ok (.ifCond .eq 42, 3) := by decide +kernel
theorem dX12_element_12 : decode cX12_element 12 = .ok (.aload_n 0, 1) := by decide +kernel
theorem dX12_element_13 : decode cX12_element 13 = .ok (.getfield 7, 3) := by decide +kernel
theorem dX12_element_16 : decode cX12_element 16 = .ok (.iload_n 1, 1) := by decide +kernel
theorem dX12_element_17 : decode cX12_element 17 = .ok (.iaload, 1) := by decide +kernel
theorem dX12_element_18 : decode cX12_element 18 = .ok (.iconst 1, 1) := by decide +kernel
theorem dX12_element_19 : decode cX12_element 19 = .ok (.if_icmp .ne 32, 3) := by decide +kernel
theorem dX12_element_22 : decode cX12_element 22 = .ok (.iload_n 2, 1) := by decide +kernel
theorem dX12_element_23 : decode cX12_element 23 = .ok (.i2l, 1) := by decide +kernel
theorem dX12_element_24 : decode cX12_element 24 = .ok (.lconst 0, 1) := by decide +kernel
theorem dX12_element_25 : decode cX12_element 25 = .ok (.aload_n 0, 1) := by decide +kernel
theorem dX12_element_26 : decode cX12_element 26 = .ok (.getfield 16, 3) := by decide +kernel
theorem dX12_element_29 : decode cX12_element 29 = .ok (.iload_n 1, 1) := by decide +kernel
theorem dX12_element_30 : decode cX12_element 30 = .ok (.iaload, 1) := by decide +kernel
theorem dX12_element_31 : decode cX12_element 31 = .ok (.iconst 1, 1) := by decide +kernel
theorem dX12_element_32 : decode cX12_element 32 = .ok (.isub, 1) := by decide +kernel
theorem dX12_element_33 : decode cX12_element 33 = .ok (.i2l, 1) := by decide +kernel
theorem dX12_element_34 : decode cX12_element 34 = .ok (.invokestatic 88, 3) := by decide +kernel
theorem dX12_element_37 : decode cX12_element 37 = .ok (.ifCond .eq 14, 3) := by decide +kernel
theorem dX12_element_40 : decode cX12_element 40 = .ok (.aload_n 0, 1) := by decide +kernel
theorem dX12_element_41 : decode cX12_element 41 = .ok (.getfield 21, 3) := by decide +kernel
theorem dX12_element_44 : decode cX12_element 44 = .ok (.iload_n 1, 1) := by decide +kernel
theorem dX12_element_45 : decode cX12_element 45 = .ok (.aaload, 1) := by decide +kernel
theorem dX12_element_46 : decode cX12_element 46 = .ok (.iload_n 2, 1) := by decide +kernel
theorem dX12_element_47 : decode cX12_element 47 = .ok (.laload, 1) := by decide +kernel
theorem dX12_element_48 : decode cX12_element 48 = .ok (.goto 4, 3) := by decide +kernel
theorem dX12_element_51 : decode cX12_element 51 = .ok (.lconst 0, 1) := by decide +kernel
theorem dX12_element_52 : decode cX12_element 52 = .ok (.lreturn, 1) := by decide +kernel
