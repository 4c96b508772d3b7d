theorem dX0_init_0 : decode cX0_init 0 = .ok (.aload_n 0, 1) := by decide +kernel
theorem dX0_init_1 : decode cX0_init 1 = .ok (.invokespecial 3, 3) := by decide +kernel
theorem dX0_init_4 : decode cX0_init 4 = .ok (.aload_n 0, 1) := by decide +kernel
theorem dX0_init_5 : decode cX0_init 5 = .ok (.sipush 1000, 3) := by decide +kernel
theorem dX0_init_8 : decode cX0_init 8 = .ok (.newarray .int, 2) := by decide +kernel
theorem dX0_init_10 : decode cX0_init 10 = .ok (.putfield 9, 3) := by decide +kernel
theorem dX0_init_13 : decode cX0_init 13 = .ok (.aload_n 0, 1) := by decide +kernel
theorem dX0_init_14 : decode cX0_init 14 = .ok (.bipush 64, 2) := by decide +kernel
theorem dX0_init_16 : decode cX0_init 16 = .ok (.newarray .int, 2) := by decide +kernel
theorem dX0_init_18 : decode cX0_init 18 = .ok (.putfield 13, 3) := by decide +kernel
theorem dX0_init_21 : decode cX0_init 21 = .ok (.return_, 1) := by decide +kernel
theorem dX0_canBeSide_0 : decode cX0_canBeSide 0 = .ok (.iload_n 0, 1) := by decide +kernel
theorem dX0_canBeSide_1 : decode cX0_canBeSide 1 = .ok (.iconst 1, 1) := by decide +kernel
theorem dX0_canBeSide_2 : decode cX0_canBeSide 2 = .ok (.if_icmp .lt 13, 3) := by decide +kernel
theorem dX0_canBeSide_5 : decode cX0_canBeSide 5 = .ok (.iload_n 0, 1) := by decide +kernel
theorem dX0_canBeSide_6 : decode cX0_canBeSide 6 = .ok (.bipush 8, 2) := by decide +kernel
theorem dX0_canBeSide_8 : decode cX0_canBeSide 8 = .ok (.if_icmp .gt 7, 3) := by decide +kernel
theorem dX0_canBeSide_11 : decode cX0_canBeSide 11 = .ok (.iconst 1, 1) := by decide +kernel
theorem dX0_canBeSide_12 : decode cX0_canBeSide 12 = .ok (.goto 4, 3) := by decide +kernel
theorem dX0_canBeSide_15 : decode cX0_canBeSide 15 = .ok (.iconst 0, 1) := by decide +kernel
theorem dX0_canBeSide_16 : decode cX0_canBeSide 16 = .ok (.ireturn, 1) := by decide +kernel
theorem dX0_indexOf_0 : decode cX0_indexOf 0 = .ok (.iload_n 2, 1) := by decide +kernel
theorem dX0_indexOf_1 : decode cX0_indexOf 1 = .ok (.iconst 1, 1) := by decide +kernel
theorem dX0_indexOf_2 : decode cX0_indexOf 2 = .ok (.iadd, 1) := by decide +kernel
theorem dX0_indexOf_3 : decode cX0_indexOf 3 = .ok (.bipush 100, 2) := by decide +kernel
theorem dX0_indexOf_5 : decode cX0_indexOf 5 = .ok (.imul, 1) := by decide +kernel
theorem dX0_indexOf_6 : decode cX0_indexOf 6 = .ok (.iload_n 1, 1) := by decide +kernel
theorem dX0_indexOf_7 : decode cX0_indexOf 7 = .ok (.iconst 1, 1) := by decide +kernel
theorem dX0_indexOf_8 : decode cX0_indexOf 8 = .ok (.iadd, 1) := by decide +kernel
theorem dX0_indexOf_9 : decode cX0_indexOf 9 = .ok (.bipush 10, 2) := by decide +kernel
theorem dX0_indexOf_11 : decode cX0_indexOf 11 = .ok (.imul, 1) := by decide +kernel
theorem dX0_indexOf_12 : decode cX0_indexOf 12 = .ok (.iadd, 1) := by decide +kernel
theorem dX0_indexOf_13 : decode cX0_indexOf 13 = .ok (.iload_n 0, 1) := by decide +kernel
theorem dX0_indexOf_14 : decode cX0_indexOf 14 = .ok (.iadd, 1) := by decide +kernel
theorem dX0_indexOf_15 : decode cX0_indexOf 15 = .ok (.iconst 1, 1) := by decide +kernel
theorem dX0_indexOf_16 : decode cX0_indexOf 16 = .ok (.iadd, 1) := by decide +kernel
theorem dX0_indexOf_17 : decode cX0_indexOf 17 = .ok (.ireturn, 1) := by decide +kernel
theorem dX0_begin_0 : decode cX0_begin 0 = .ok (.aload_n 0, 1) := by decide +kernel
theorem dX0_begin_1 : decode cX0_begin 1 = .ok (.iload_n 1, 1) := by decide +kernel
theorem dX0_begin_2 : decode cX0_begin 2 = .ok (.putfield 16, 3) := by decide +kernel
theorem dX0_begin_5 : decode cX0_begin 5 = .ok (.aload_n 0, 1) := by decide +kernel
theorem dX0_begin_6 : decode cX0_begin 6 = .ok (.iload_n 2, 1) := by decide +kernel
theorem dX0_begin_7 : decode cX0_begin 7 = .ok (.putfield 20, 3) := by decide +kernel
theorem dX0_begin_10 : decode cX0_begin 10 = .ok (.aload_n 0, 1) := by decide +kernel
theorem dX0_begin_11 : decode cX0_begin 11 = .ok (.iload_n 3, 1) := by decide +kernel
theorem dX0_begin_12 : decode cX0_begin 12 = .ok (.putfield 23, 3) := by decide +kernel
theorem dX0_begin_15 : decode cX0_begin 15 = .ok (.aload_n 0, 1) := by decide +kernel
theorem dX0_begin_16 : decode cX0_begin 16 = .ok (.getfield 9, 3) := by decide +kernel
theorem dX0_begin_19 : decode cX0_begin 19 = .ok (.iconst 0, 1) := by decide +kernel
theorem dX0_begin_20 : decode cX0_begin 20 = .ok (.invokestatic 26, 3) := by decide +kernel
theorem dX0_begin_23 : decode cX0_begin 23 = .ok (.return_, 1) := by decide +kernel
theorem dX0_copyFrom_0 : decode cX0_copyFrom 0 = .ok (.aload_n 0, 1) := by decide +kernel
theorem dX0_copyFrom_1 : decode cX0_copyFrom 1 = .ok (.aload_n 1, 1) := by decide +kernel
theorem dX0_copyFrom_2 : decode cX0_copyFrom 2 = .ok (.getfield 16, 3) := by decide +kernel
theorem dX0_copyFrom_5 : decode cX0_copyFrom 5 = .ok (.putfield 16, 3) := by decide +kernel
theorem dX0_copyFrom_8 : decode cX0_copyFrom 8 = .ok (.aload_n 0, 1) := by decide +kernel
theorem dX0_copyFrom_9 : decode cX0_copyFrom 9 = .ok (.aload_n 1, 1) := by decide +kernel
theorem dX0_copyFrom_10 : decode cX0_copyFrom 10 = .ok (.getfield 20, 3) := by decide +kernel
theorem dX0_copyFrom_13 : decode cX0_copyFrom 13 = .ok (.putfield 20, 3) := by decide +kernel
theorem dX0_copyFrom_16 : decode cX0_copyFrom 16 = .ok (.aload_n 0, 1) := by decide +kernel
theorem dX0_copyFrom_17 : decode cX0_copyFrom 17 = .ok (.aload_n 1, 1) := by decide +kernel
theorem dX0_copyFrom_18 : decode cX0_copyFrom 18 = .ok (.getfield 23, 3) := by decide +kernel
theorem dX0_copyFrom_21 : decode cX0_copyFrom 21 = .ok (.putfield 23, 3) := by decide +kernel
theorem dX0_copyFrom_24 : decode cX0_copyFrom 24 = .ok (.aload_n 1, 1) := by decide +kernel
theorem dX0_copyFrom_25 : decode cX0_copyFrom 25 = .ok (.getfield 9, 3) := by decide +kernel
theorem dX0_copyFrom_28 : decode cX0_copyFrom 28 = .ok (.iconst 0, 1) := by decide +kernel
theorem dX0_copyFrom_29 : decode cX0_copyFrom 29 = .ok (.aload_n 0, 1) := by decide +kernel
theorem dX0_copyFrom_30 : decode cX0_copyFrom 30 = .ok (.getfield 9, 3) := by decide +kernel
theorem dX0_copyFrom_33 : decode cX0_copyFrom 33 = .ok (.iconst 0, 1) := by decide +kernel
theorem dX0_copyFrom_34 : decode cX0_copyFrom 34 = .ok (.sipush 1000, 3) := by decide +kernel
theorem dX0_copyFrom_37 : decode cX0_copyFrom 37 = .ok (.invokestatic 32, 3) := by decide +kernel
theorem dX0_copyFrom_40 : decode cX0_copyFrom 40 = .ok (.return_, 1) := by decide +kernel
theorem dX0_isThere_0 : decode cX0_isThere 0 = .ok (.aload_n 0, 1) := by decide +kernel
theorem dX0_isThere_1 : decode cX0_isThere 1 = .ok (.getfield 16, 3) := by decide +kernel
theorem dX0_isThere_4 : decode cX0_isThere 4 = .ok (.ifCond .le 7, 3) := by decide +kernel
theorem dX0_isThere_7 : decode cX0_isThere 7 = .ok (.iconst 1, 1) := by decide +kernel
theorem dX0_isThere_8 : decode cX0_isThere 8 = .ok (.goto 4, 3) := by decide +kernel
theorem dX0_isThere_11 : decode cX0_isThere 11 = .ok (.iconst 0, 1) := by decide +kernel
theorem dX0_isThere_12 : decode cX0_isThere 12 = .ok (.ireturn, 1) := by decide +kernel
theorem dX0_areWithin_0 : decode cX0_areWithin 0 = .ok (.aload_n 0, 1) := by decide +kernel
theorem dX0_areWithin_1 : decode cX0_areWithin 1 = .ok (.getfield 16, 3) := by decide +kernel
theorem dX0_areWithin_4 : decode cX0_areWithin 4 = .ok (.ifCond .le 61, 3) := by decide +kernel
theorem dX0_areWithin_7 : decode cX0_areWithin 7 = .ok (.iload_n 1, 1) := by decide +kernel
theorem dX0_areWithin_8 : decode cX0_areWithin 8 = .ok (.iload 4, 2) := by decide +kernel
theorem dX0_areWithin_10 : decode cX0_areWithin 10 = .ok (.ineg, 1) := by decide +kernel
theorem dX0_areWithin_11 : decode cX0_areWithin 11 = .ok (.if_icmp .lt 54, 3) := by decide +kernel
theorem dX0_areWithin_14 : decode cX0_areWithin 14 = .ok (.iload_n 1, 1) := by decide +kernel
theorem dX0_areWithin_15 : decode cX0_areWithin 15 = .ok (.aload_n 0, 1) := by decide +kernel
theorem dX0_areWithin_16 : decode cX0_areWithin 16 = .ok (.getfield 16, 3) := by decide +kernel
theorem dX0_areWithin_19 : decode cX0_areWithin 19 = .ok (.iload 4, 2) := by decide +kernel
theorem dX0_areWithin_21 : decode cX0_areWithin 21 = .ok (.iadd, 1) := by decide +kernel
theorem dX0_areWithin_22 : decode cX0_areWithin 22 = .ok (.if_icmp .ge 43, 3) := by decide +kernel
theorem dX0_areWithin_25 : decode cX0_areWithin 25 = .ok (.iload_n 2, 1) := by decide +kernel
theorem dX0_areWithin_26 : decode cX0_areWithin 26 = .ok (.iload 4, 2) := by decide +kernel
theorem dX0_areWithin_28 : decode cX0_areWithin 28 = .ok (.ineg, 1) := by decide +kernel
theorem dX0_areWithin_29 : decode cX0_areWithin 29 = .ok (.if_icmp .lt 36, 3) := by decide +kernel
theorem dX0_areWithin_32 : decode cX0_areWithin 32 = .ok (.iload_n 2, 1) := by decide +kernel
theorem dX0_areWithin_33 : decode cX0_areWithin 33 = .ok (.aload_n 0, 1) := by decide +kernel
theorem dX0_areWithin_34 : decode cX0_areWithin 34 = .ok (.getfield 20, 3) := by decide +kernel
theorem dX0_areWithin_37 : decode cX0_areWithin 37 = .ok (.iload 4, 2) := by decide +kernel
theorem dX0_areWithin_39 : decode cX0_areWithin 39 = .ok (.iadd, 1) := by decide +kernel
theorem dX0_areWithin_40 : decode cX0_areWithin 40 = .ok (.if_icmp .ge 25, 3) := by decide +kernel
theorem dX0_areWithin_43 : decode cX0_areWithin 43 = .ok (.iload_n 3, 1) := by decide +kernel
theorem dX0_areWithin_44 : decode cX0_areWithin 44 = .ok (.iload 4, 2) := by decide +kernel
theorem dX0_areWithin_46 : decode cX0_areWithin 46 = .ok (.ineg, 1) := by decide +kernel
theorem dX0_areWithin_47 : decode cX0_areWithin 47 = .ok (.if_icmp .lt 18, 3) := by decide +kernel
theorem dX0_areWithin_50 : decode cX0_areWithin 50 = .ok (.iload_n 3, 1) := by decide +kernel
theorem dX0_areWithin_51 : decode cX0_areWithin 51 = .ok (.aload_n 0, 1) := by decide +kernel
theorem dX0_areWithin_52 : decode cX0_areWithin 52 = .ok (.getfield 23, 3) := by decide +kernel
theorem dX0_areWithin_55 : decode cX0_areWithin 55 = .ok (.iload 4, 2) := by decide +kernel
theorem dX0_areWithin_57 : decode cX0_areWithin 57 = .ok (.iadd, 1) := by decide +kernel
theorem dX0_areWithin_58 : decode cX0_areWithin 58 = .ok (.if_icmp .ge 7, 3) := by decide +kernel
theorem dX0_areWithin_61 : decode cX0_areWithin 61 = .ok (.iconst 1, 1) := by decide +kernel
theorem dX0_areWithin_62 : decode cX0_areWithin 62 = .ok (.goto 4, 3) := by decide +kernel
theorem dX0_areWithin_65 : decode cX0_areWithin 65 = .ok (.iconst 0, 1) := by decide +kernel
theorem dX0_areWithin_66 : decode cX0_areWithin 66 = .ok (.ireturn, 1) := by decide +kernel
theorem dX0_isSolid_0 : decode cX0_isSolid 0 = .ok (.iload_n 1, 1) := by decide +kernel
theorem dX0_isSolid_1 : decode cX0_isSolid 1 = .ok (.ifCond .lt 24, 3) := by decide +kernel
theorem dX0_isSolid_4 : decode cX0_isSolid 4 = .ok (.iload_n 1, 1) := by decide +kernel
theorem dX0_isSolid_5 : decode cX0_isSolid 5 = .ok (.sipush 1000, 3) := by decide +kernel
theorem dX0_isSolid_8 : decode cX0_isSolid 8 = .ok (.if_icmp .ge 17, 3) := by decide +kernel
theorem dX0_isSolid_11 : decode cX0_isSolid 11 = .ok (.aload_n 0, 1) := by decide +kernel
theorem dX0_isSolid_12 : decode cX0_isSolid 12 = .ok (.getfield 9, 3) := by decide +kernel
theorem dX0_isSolid_15 : decode cX0_isSolid 15 = .ok (.iload_n 1, 1) := by decide +kernel
theorem dX0_isSolid_16 : decode cX0_isSolid 16 = .ok (.iaload, 1) := by decide +kernel
theorem dX0_isSolid_17 : decode cX0_isSolid 17 = .ok (.iconst 1, 1) := by decide +kernel
theorem dX0_isSolid_18 : decode cX0_isSolid 18 = .ok (.if_icmp .ne 7, 3) := by decide +kernel
theorem dX0_isSolid_21 : decode cX0_isSolid 21 = .ok (.iconst 1, 1) := by decide +kernel
theorem dX0_isSolid_22 : decode cX0_isSolid 22 = .ok (.goto 4, 3) := by decide +kernel
theorem dX0_isSolid_25 : decode cX0_isSolid 25 = .ok (.iconst 0, 1) := by decide +kernel
theorem dX0_isSolid_26 : decode cX0_isSolid 26 = .ok (.ireturn, 1) := by decide +kernel
theorem dX0_countSolid_0 : decode cX0_countSolid 0 = .ok (.iconst 0, 1) := by decide +kernel
theorem dX0_countSolid_1 : decode cX0_countSolid 1 = .ok (.istore_n 1, 1) := by decide +kernel
theorem dX0_countSolid_2 : decode cX0_countSolid 2 = .ok (.iconst 0, 1) := by decide +kernel
theorem dX0_countSolid_3 : decode cX0_countSolid 3 = .ok (.istore_n 2, 1) := by decide +kernel
theorem dX0_countSolid_4 : decode cX0_countSolid 4 = .ok (.iload_n 2, 1) := by decide +kernel
theorem dX0_countSolid_5 : decode cX0_countSolid 5 = .ok (.sipush 1000, 3) := by decide +kernel
theorem dX0_countSolid_8 : decode cX0_countSolid 8 = .ok (.if_icmp .ge 18, 3) := by decide +kernel
theorem dX0_countSolid_11 : decode cX0_countSolid 11 = .ok (.iload_n 1, 1) := by decide +kernel
theorem dX0_countSolid_12 : decode cX0_countSolid 12 = .ok (.aload_n 0, 1) := by decide +kernel
theorem dX0_countSolid_13 : decode cX0_countSolid 13 = .ok (.getfield 9, 3) := by decide +kernel
theorem dX0_countSolid_16 : decode cX0_countSolid 16 = .ok (.iload_n 2, 1) := by decide +kernel
theorem dX0_countSolid_17 : decode cX0_countSolid 17 = .ok (.iaload, 1) := by decide +kernel
theorem dX0_countSolid_18 : decode cX0_countSolid 18 = .ok (.iadd, 1) := by decide +kernel
theorem dX0_countSolid_19 : decode cX0_countSolid 19 = .ok (.istore_n 1, 1) := by decide +kernel
theorem dX0_countSolid_20 : decode cX0_countSolid 20 = .ok (.iinc 2 1, 3) := by decide +kernel
theorem dX0_countSolid_23 : decode cX0_countSolid 23 = .ok (.goto (-19), 3) := by decide +kernel
theorem dX0_countSolid_26 : decode cX0_countSolid 26 = .ok (.iload_n 1, 1) := by decide +kernel
theorem dX0_countSolid_27 : decode cX0_countSolid 27 = .ok (.ireturn, 1) := by decide +kernel
theorem dX0_fillBlock_0 : decode cX0_fillBlock 0 = .ok (.aload_n 1, 1) := by decide +kernel
theorem dX0_fillBlock_1 : decode cX0_fillBlock 1 = .ok (.arraylength, 1) := by decide +kernel
theorem dX0_fillBlock_2 : decode cX0_fillBlock 2 = .ok (.bipush 6, 2) := by decide +kernel
theorem dX0_fillBlock_4 : decode cX0_fillBlock 4 = .ok (.if_icmp .ge 4, 3) := by decide +kernel
theorem dX0_fillBlock_7 : decode cX0_fillBlock 7 = .ok (.return_, 1) := by decide +kernel
theorem dX0_fillBlock_8 : decode cX0_fillBlock 8 = .ok (.aload_n 0, 1) := by decide +kernel
theorem dX0_fillBlock_9 : decode cX0_fillBlock 9 = .ok (.getfield 16, 3) := by decide +kernel
theorem dX0_fillBlock_12 : decode cX0_fillBlock 12 = .ok (.aload_n 1, 1) := by decide +kernel
theorem dX0_fillBlock_13 : decode cX0_fillBlock 13 = .ok (.iconst 0, 1) := by decide +kernel
theorem dX0_fillBlock_14 : decode cX0_fillBlock 14 = .ok (.iaload, 1) := by decide +kernel
theorem dX0_fillBlock_15 : decode cX0_fillBlock 15 = .ok (.aload_n 1, 1) := by decide +kernel
theorem dX0_fillBlock_16 : decode cX0_fillBlock 16 = .ok (.iconst 3, 1) := by decide +kernel
theorem dX0_fillBlock_17 : decode cX0_fillBlock 17 = .ok (.iaload, 1) := by decide +kernel
theorem dX0_fillBlock_18 : decode cX0_fillBlock 18 = .ok (.iadd, 1) := by decide +kernel
theorem dX0_fillBlock_19 : decode cX0_fillBlock 19 = .ok (.invokestatic 38, 3) := by decide +kernel
theorem dX0_fillBlock_22 : decode cX0_fillBlock 22 = .ok (.istore_n 3, 1) := by decide +kernel
theorem dX0_fillBlock_23 : decode cX0_fillBlock 23 = .ok (.aload_n 0, 1) := by decide +kernel
theorem dX0_fillBlock_24 : decode cX0_fillBlock 24 = .ok (.getfield 20, 3) := by decide +kernel
theorem dX0_fillBlock_27 : decode cX0_fillBlock 27 = .ok (.aload_n 1, 1) := by decide +kernel
theorem dX0_fillBlock_28 : decode cX0_fillBlock 28 = .ok (.iconst 1, 1) := by decide +kernel
theorem dX0_fillBlock_29 : decode cX0_fillBlock 29 = .ok (.iaload, 1) := by decide +kernel
theorem dX0_fillBlock_30 : decode cX0_fillBlock 30 = .ok (.aload_n 1, 1) := by decide +kernel
theorem dX0_fillBlock_31 : decode cX0_fillBlock 31 = .ok (.iconst 4, 1) := by decide +kernel
theorem dX0_fillBlock_32 : decode cX0_fillBlock 32 = .ok (.iaload, 1) := by decide +kernel
theorem dX0_fillBlock_33 : decode cX0_fillBlock 33 = .ok (.iadd, 1) := by decide +kernel
theorem dX0_fillBlock_34 : decode cX0_fillBlock 34 = .ok (.invokestatic 38, 3) := by decide +kernel
theorem dX0_fillBlock_37 : decode cX0_fillBlock 37 = .ok (.istore 4, 2) := by decide +kernel
theorem dX0_fillBlock_39 : decode cX0_fillBlock 39 = .ok (.aload_n 0, 1) := by decide +kernel
theorem dX0_fillBlock_40 : decode cX0_fillBlock 40 = .ok (.getfield 23, 3) := by decide +kernel
theorem dX0_fillBlock_43 : decode cX0_fillBlock 43 = .ok (.aload_n 1, 1) := by decide +kernel
theorem dX0_fillBlock_44 : decode cX0_fillBlock 44 = .ok (.iconst 2, 1) := by decide +kernel
theorem dX0_fillBlock_45 : decode cX0_fillBlock 45 = .ok (.iaload, 1) := by decide +kernel
theorem dX0_fillBlock_46 : decode cX0_fillBlock 46 = .ok (.aload_n 1, 1) := by decide +kernel
theorem dX0_fillBlock_47 : decode cX0_fillBlock 47 = .ok (.iconst 5, 1) := by decide +kernel
theorem dX0_fillBlock_48 : decode cX0_fillBlock 48 = .ok (.iaload, 1) := by decide +kernel
theorem dX0_fillBlock_49 : decode cX0_fillBlock 49 = .ok (.iadd, 1) := by decide +kernel
theorem dX0_fillBlock_50 : decode cX0_fillBlock 50 = .ok (.invokestatic 38, 3) := by decide +kernel
theorem dX0_fillBlock_53 : decode cX0_fillBlock 53 = .ok (.istore 5, 2) := by decide +kernel
theorem dX0_fillBlock_55 : decode cX0_fillBlock 55 = .ok (.aload_n 1, 1) := by decide +kernel
theorem dX0_fillBlock_56 : decode cX0_fillBlock 56 = .ok (.iconst 2, 1) := by decide +kernel
theorem dX0_fillBlock_57 : decode cX0_fillBlock 57 = .ok (.iaload, 1) := by decide +kernel
theorem dX0_fillBlock_58 : decode cX0_fillBlock 58 = .ok (.istore 6, 2) := by decide +kernel
theorem dX0_fillBlock_60 : decode cX0_fillBlock 60 = .ok (.iload 6, 2) := by decide +kernel
theorem dX0_fillBlock_62 : decode cX0_fillBlock 62 = .ok (.iload 5, 2) := by decide +kernel
theorem dX0_fillBlock_64 : decode cX0_fillBlock 64 = .ok (.if_icmp .ge 55, 3) := by decide +kernel
theorem dX0_fillBlock_67 : decode cX0_fillBlock 67 = .ok (.aload_n 1, 1) := by decide +kernel
theorem dX0_fillBlock_68 : decode cX0_fillBlock 68 = .ok (.iconst 1, 1) := by decide +kernel
theorem dX0_fillBlock_69 : decode cX0_fillBlock 69 = .ok (.iaload, 1) := by decide +kernel
theorem dX0_fillBlock_70 : decode cX0_fillBlock 70 = .ok (.istore 7, 2) := by decide +kernel
theorem dX0_fillBlock_72 : decode cX0_fillBlock 72 = .ok (.iload 7, 2) := by decide +kernel
theorem dX0_fillBlock_74 : decode cX0_fillBlock 74 = .ok (.iload 4, 2) := by decide +kernel
theorem dX0_fillBlock_76 : decode cX0_fillBlock 76 = .ok (.if_icmp .ge 37, 3) := by decide +kernel
theorem dX0_fillBlock_79 : decode cX0_fillBlock 79 = .ok (.aload_n 1, 1) := by decide +kernel
theorem dX0_fillBlock_80 : decode cX0_fillBlock 80 = .ok (.iconst 0, 1) := by decide +kernel
theorem dX0_fillBlock_81 : decode cX0_fillBlock 81 = .ok (.iaload, 1) := by decide +kernel
theorem dX0_fillBlock_82 : decode cX0_fillBlock 82 = .ok (.istore 8, 2) := by decide +kernel
theorem dX0_fillBlock_84 : decode cX0_fillBlock 84 = .ok (.iload 8, 2) := by decide +kernel
theorem dX0_fillBlock_86 : decode cX0_fillBlock 86 = .ok (.iload_n 3, 1) := by decide +kernel
theorem dX0_fillBlock_87 : decode cX0_fillBlock 87 = .ok (.if_icmp .ge 20, 3) := by decide +kernel
theorem dX0_fillBlock_90 : decode cX0_fillBlock 90 = .ok (.aload_n 0, 1) := by decide +kernel
theorem dX0_fillBlock_91 : decode cX0_fillBlock 91 = .ok (.iload 8, 2) := by decide +kernel
theorem dX0_fillBlock_93 : decode cX0_fillBlock 93 = .ok (.iload 7, 2) := by decide +kernel
theorem dX0_fillBlock_95 : decode cX0_fillBlock 95 = .ok (.iload 6, 2) := by decide +kernel
theorem dX0_fillBlock_97 : decode cX0_fillBlock 97 = .ok (.iload_n 2, 1) := by decide +kernel
theorem dX0_fillBlock_98 : decode cX0_fillBlock 98 = .ok (.invokevirtual 44, 3) := by decide +kernel
theorem dX0_fillBlock_101 : decode cX0_fillBlock 101 = .ok (.iinc 8 1, 3) := by decide +kernel
theorem dX0_fillBlock_104 : decode cX0_fillBlock 104 = .ok (.goto (-20), 3) := by decide +kernel
theorem dX0_fillBlock_107 : decode cX0_fillBlock 107 = .ok (.iinc 7 1, 3) := by decide +kernel
theorem dX0_fillBlock_110 : decode cX0_fillBlock 110 = .ok (.goto (-38), 3) := by decide +kernel
theorem dX0_fillBlock_113 : decode cX0_fillBlock 113 = .ok (.iinc 6 1, 3) := by decide +kernel
theorem dX0_fillBlock_116 : decode cX0_fillBlock 116 = .ok (.goto (-56), 3) := by decide +kernel
theorem dX0_fillBlock_119 : decode cX0_fillBlock 119 = .ok (.return_, 1) := by decide +kernel
theorem dX0_mirrorAcross_0 : decode cX0_mirrorAcross 0 = .ok (.iconst 0, 1) := by decide +kernel
theorem dX0_mirrorAcross_1 : decode cX0_mirrorAcross 1 = .ok (.istore_n 2, 1) := by decide +kernel
theorem dX0_mirrorAcross_2 : decode cX0_mirrorAcross 2 = .ok (.iload_n 2, 1) := by decide +kernel
theorem dX0_mirrorAcross_3 : decode cX0_mirrorAcross 3 = .ok (.aload_n 0, 1) := by decide +kernel
theorem dX0_mirrorAcross_4 : decode cX0_mirrorAcross 4 = .ok (.getfield 23, 3) := by decide +kernel
theorem dX0_mirrorAcross_7 : decode cX0_mirrorAcross 7 = .ok (.if_icmp .ge 114, 3) := by decide +kernel
theorem dX0_mirrorAcross_10 : decode cX0_mirrorAcross 10 = .ok (.iconst 0, 1) := by decide +kernel
theorem dX0_mirrorAcross_11 : decode cX0_mirrorAcross 11 = .ok (.istore_n 3, 1) := by decide +kernel
theorem dX0_mirrorAcross_12 : decode cX0_mirrorAcross 12 = .ok (.iload_n 3, 1) := by decide +kernel
theorem dX0_mirrorAcross_13 : decode cX0_mirrorAcross 13 = .ok (.aload_n 0, 1) := by decide +kernel
theorem dX0_mirrorAcross_14 : decode cX0_mirrorAcross 14 = .ok (.getfield 20, 3) := by decide +kernel
theorem dX0_mirrorAcross_17 : decode cX0_mirrorAcross 17 = .ok (.if_icmp .ge 98, 3) := by decide +kernel
theorem dX0_mirrorAcross_20 : decode cX0_mirrorAcross 20 = .ok (.iconst 0, 1) := by decide +kernel
theorem dX0_mirrorAcross_21 : decode cX0_mirrorAcross 21 = .ok (.istore 4, 2) := by decide +kernel
theorem dX0_mirrorAcross_23 : decode cX0_mirrorAcross 23 = .ok (.iload 4, 2) := by decide +kernel
theorem dX0_mirrorAcross_25 : decode cX0_mirrorAcross 25 = .ok (.aload_n 0, 1) := by decide +kernel
theorem dX0_mirrorAcross_26 : decode cX0_mirrorAcross 26 = .ok (.getfield 16, 3) := by decide +kernel
theorem dX0_mirrorAcross_29 : decode cX0_mirrorAcross 29 = .ok (.if_icmp .ge 80, 3) := by decide +kernel
theorem dX0_mirrorAcross_32 : decode cX0_mirrorAcross 32 = .ok (.aload_n 0, 1) := by decide +kernel
theorem dX0_mirrorAcross_33 : decode cX0_mirrorAcross 33 = .ok (.iload 4, 2) := by decide +kernel
theorem dX0_mirrorAcross_35 : decode cX0_mirrorAcross 35 = .ok (.iload_n 3, 1) := by decide +kernel
theorem dX0_mirrorAcross_36 : decode cX0_mirrorAcross 36 = .ok (.iload_n 2, 1) := by decide +kernel
theorem dX0_mirrorAcross_37 : decode cX0_mirrorAcross 37 = .ok (.invokestatic 48, 3) := by decide +kernel
theorem dX0_mirrorAcross_40 : decode cX0_mirrorAcross 40 = .ok (.invokevirtual 52, 3) := by decide +kernel
theorem dX0_mirrorAcross_43 : decode cX0_mirrorAcross 43 = .ok (.ifCond .eq 60, 3) := by decide +kernel
theorem dX0_mirrorAcross_46 : decode cX0_mirrorAcross 46 = .ok (.aload_n 0, 1) := by decide +kernel
theorem dX0_mirrorAcross_47 : decode cX0_mirrorAcross 47 = .ok (.iload_n 1, 1) := by decide +kernel
theorem dX0_mirrorAcross_48 : decode cX0_mirrorAcross 48 = .ok (.ifCond .ne 15, 3) := by decide +kernel
theorem dX0_mirrorAcross_51 : decode cX0_mirrorAcross 51 = .ok (.aload_n 0, 1) := by decide +kernel
theorem dX0_mirrorAcross_52 : decode cX0_mirrorAcross 52 = .ok (.getfield 16, 3) := by decide +kernel
theorem dX0_mirrorAcross_55 : decode cX0_mirrorAcross 55 = .ok (.iconst 1, 1) := by decide +kernel
theorem dX0_mirrorAcross_56 : decode cX0_mirrorAcross 56 = .ok (.isub, 1) := by decide +kernel
theorem dX0_mirrorAcross_57 : decode cX0_mirrorAcross 57 = .ok (.iload 4, 2) := by decide +kernel
theorem dX0_mirrorAcross_59 : decode cX0_mirrorAcross 59 = .ok (.isub, 1) := by decide +kernel
theorem dX0_mirrorAcross_60 : decode cX0_mirrorAcross 60 = .ok (.goto 5, 3) := by decide +kernel
theorem dX0_mirrorAcross_63 : decode cX0_mirrorAcross 63 = .ok (.iload 4, 2) := by decide +kernel
theorem dX0_mirrorAcross_65 : decode cX0_mirrorAcross 65 = .ok (.iload_n 1, 1) := by decide +kernel
theorem dX0_mirrorAcross_66 : decode cX0_mirrorAcross 66 = .ok (.iconst 1, 1) := by decide +kernel
theorem dX0_mirrorAcross_67 : decode cX0_mirrorAcross 67 = .ok (.if_icmp .ne 14, 3) := by decide +kernel
theorem dX0_mirrorAcross_70 : decode cX0_mirrorAcross 70 = .ok (.aload_n 0, 1) := by decide +kernel
theorem dX0_mirrorAcross_71 : decode cX0_mirrorAcross 71 = .ok (.getfield 20, 3) := by decide +kernel
theorem dX0_mirrorAcross_74 : decode cX0_mirrorAcross 74 = .ok (.iconst 1, 1) := by decide +kernel
theorem dX0_mirrorAcross_75 : decode cX0_mirrorAcross 75 = .ok (.isub, 1) := by decide +kernel
theorem dX0_mirrorAcross_76 : decode cX0_mirrorAcross 76 = .ok (.iload_n 3, 1) := by decide +kernel
theorem dX0_mirrorAcross_77 : decode cX0_mirrorAcross 77 = .ok (.isub, 1) := by decide +kernel
theorem dX0_mirrorAcross_78 : decode cX0_mirrorAcross 78 = .ok (.goto 4, 3) := by decide +kernel
theorem dX0_mirrorAcross_81 : decode cX0_mirrorAcross 81 = .ok (.iload_n 3, 1) := by decide +kernel
theorem dX0_mirrorAcross_82 : decode cX0_mirrorAcross 82 = .ok (.iload_n 1, 1) := by decide +kernel
theorem dX0_mirrorAcross_83 : decode cX0_mirrorAcross 83 = .ok (.iconst 2, 1) := by decide +kernel
theorem dX0_mirrorAcross_84 : decode cX0_mirrorAcross 84 = .ok (.if_icmp .ne 14, 3) := by decide +kernel
theorem dX0_mirrorAcross_87 : decode cX0_mirrorAcross 87 = .ok (.aload_n 0, 1) := by decide +kernel
theorem dX0_mirrorAcross_88 : decode cX0_mirrorAcross 88 = .ok (.getfield 23, 3) := by decide +kernel
theorem dX0_mirrorAcross_91 : decode cX0_mirrorAcross 91 = .ok (.iconst 1, 1) := by decide +kernel
theorem dX0_mirrorAcross_92 : decode cX0_mirrorAcross 92 = .ok (.isub, 1) := by decide +kernel
theorem dX0_mirrorAcross_93 : decode cX0_mirrorAcross 93 = .ok (.iload_n 2, 1) := by decide +kernel
theorem dX0_mirrorAcross_94 : decode cX0_mirrorAcross 94 = .ok (.isub, 1) := by decide +kernel
theorem dX0_mirrorAcross_95 : decode cX0_mirrorAcross 95 = .ok (.goto 4, 3) := by decide +kernel
theorem dX0_mirrorAcross_98 : decode cX0_mirrorAcross 98 = .ok (.iload_n 2, 1) := by decide +kernel
theorem dX0_mirrorAcross_99 : decode cX0_mirrorAcross 99 = .ok (.iconst 1, 1) := by decide +kernel
theorem dX0_mirrorAcross_100 : decode cX0_mirrorAcross 100 = .ok (.invokevirtual 44, 3) := by decide +kernel
theorem dX0_mirrorAcross_103 : decode cX0_mirrorAcross 103 = .ok (.iinc 4 1, 3) := by decide +kernel
theorem dX0_mirrorAcross_106 : decode cX0_mirrorAcross 106 = .ok (.goto (-83), 3) := by decide +kernel
theorem dX0_mirrorAcross_109 : decode cX0_mirrorAcross 109 = .ok (.iinc 3 1, 3) := by decide +kernel
theorem dX0_mirrorAcross_112 : decode cX0_mirrorAcross 112 = .ok (.goto (-100), 3) := by decide +kernel
theorem dX0_mirrorAcross_115 : decode cX0_mirrorAcross 115 = .ok (.iinc 2 1, 3) := by decide +kernel
theorem dX0_mirrorAcross_118 : decode cX0_mirrorAcross 118 = .ok (.goto (-116), 3) := by decide +kernel
theorem dX0_mirrorAcross_121 : decode cX0_mirrorAcross 121 = .ok (.return_, 1) := by decide +kernel
theorem dX0_canTurn_0 : decode cX0_canTurn 0 = .ok (.aload_n 0, 1) := by decide +kernel
theorem dX0_canTurn_1 : decode cX0_canTurn 1 = .ok (.getfield 16, 3) := by decide +kernel
theorem dX0_canTurn_4 : decode cX0_canTurn 4 = .ok (.aload_n 0, 1) := by decide +kernel
theorem dX0_canTurn_5 : decode cX0_canTurn 5 = .ok (.getfield 20, 3) := by decide +kernel
theorem dX0_canTurn_8 : decode cX0_canTurn 8 = .ok (.if_icmp .ne 7, 3) := by decide +kernel
theorem dX0_canTurn_11 : decode cX0_canTurn 11 = .ok (.iconst 1, 1) := by decide +kernel
theorem dX0_canTurn_12 : decode cX0_canTurn 12 = .ok (.goto 4, 3) := by decide +kernel
theorem dX0_canTurn_15 : decode cX0_canTurn 15 = .ok (.iconst 0, 1) := by decide +kernel
theorem dX0_canTurn_16 : decode cX0_canTurn 16 = .ok (.ireturn, 1) := by decide +kernel
theorem dX0_turnOnce_0 : decode cX0_turnOnce 0 = .ok (.iconst 0, 1) := by decide +kernel
theorem dX0_turnOnce_1 : decode cX0_turnOnce 1 = .ok (.istore_n 1, 1) := by decide +kernel
theorem dX0_turnOnce_2 : decode cX0_turnOnce 2 = .ok (.iload_n 1, 1) := by decide +kernel
theorem dX0_turnOnce_3 : decode cX0_turnOnce 3 = .ok (.aload_n 0, 1) := by decide +kernel
theorem dX0_turnOnce_4 : decode cX0_turnOnce 4 = .ok (.getfield 23, 3) := by decide +kernel
theorem dX0_turnOnce_7 : decode cX0_turnOnce 7 = .ok (.if_icmp .ge 90, 3) := by decide +kernel
theorem dX0_turnOnce_10 : decode cX0_turnOnce 10 = .ok (.aload_n 0, 1) := by decide +kernel
theorem dX0_turnOnce_11 : decode cX0_turnOnce 11 = .ok (.invokevirtual 56, 3) := by decide +kernel
theorem dX0_turnOnce_14 : decode cX0_turnOnce 14 = .ok (.ifCond .eq 83, 3) := by decide +kernel
theorem dX0_turnOnce_17 : decode cX0_turnOnce 17 = .ok (.aload_n 0, 1) := by decide +kernel
theorem dX0_turnOnce_18 : decode cX0_turnOnce 18 = .ok (.iload_n 1, 1) := by decide +kernel
theorem dX0_turnOnce_19 : decode cX0_turnOnce 19 = .ok (.invokevirtual 60, 3) := by decide +kernel
theorem dX0_turnOnce_22 : decode cX0_turnOnce 22 = .ok (.iconst 0, 1) := by decide +kernel
theorem dX0_turnOnce_23 : decode cX0_turnOnce 23 = .ok (.istore_n 2, 1) := by decide +kernel
theorem dX0_turnOnce_24 : decode cX0_turnOnce 24 = .ok (.iload_n 2, 1) := by decide +kernel
theorem dX0_turnOnce_25 : decode cX0_turnOnce 25 = .ok (.aload_n 0, 1) := by decide +kernel
theorem dX0_turnOnce_26 : decode cX0_turnOnce 26 = .ok (.getfield 20, 3) := by decide +kernel
theorem dX0_turnOnce_29 : decode cX0_turnOnce 29 = .ok (.if_icmp .ge 62, 3) := by decide +kernel
theorem dX0_turnOnce_32 : decode cX0_turnOnce 32 = .ok (.iload_n 2, 1) := by decide +kernel
theorem dX0_turnOnce_33 : decode cX0_turnOnce 33 = .ok (.bipush 8, 2) := by decide +kernel
theorem dX0_turnOnce_35 : decode cX0_turnOnce 35 = .ok (.if_icmp .ge 56, 3) := by decide +kernel
theorem dX0_turnOnce_38 : decode cX0_turnOnce 38 = .ok (.iconst 0, 1) := by decide +kernel
theorem dX0_turnOnce_39 : decode cX0_turnOnce 39 = .ok (.istore_n 3, 1) := by decide +kernel
theorem dX0_turnOnce_40 : decode cX0_turnOnce 40 = .ok (.iload_n 3, 1) := by decide +kernel
theorem dX0_turnOnce_41 : decode cX0_turnOnce 41 = .ok (.aload_n 0, 1) := by decide +kernel
theorem dX0_turnOnce_42 : decode cX0_turnOnce 42 = .ok (.getfield 16, 3) := by decide +kernel
theorem dX0_turnOnce_45 : decode cX0_turnOnce 45 = .ok (.if_icmp .ge 40, 3) := by decide +kernel
theorem dX0_turnOnce_48 : decode cX0_turnOnce 48 = .ok (.iload_n 3, 1) := by decide +kernel
theorem dX0_turnOnce_49 : decode cX0_turnOnce 49 = .ok (.bipush 8, 2) := by decide +kernel
theorem dX0_turnOnce_51 : decode cX0_turnOnce 51 = .ok (.if_icmp .ge 34, 3) := by decide +kernel
theorem dX0_turnOnce_54 : decode cX0_turnOnce 54 = .ok (.aload_n 0, 1) := by decide +kernel
theorem dX0_turnOnce_55 : decode cX0_turnOnce 55 = .ok (.iload_n 2, 1) := by decide +kernel
theorem dX0_turnOnce_56 : decode cX0_turnOnce 56 = .ok (.aload_n 0, 1) := by decide +kernel
theorem dX0_turnOnce_57 : decode cX0_turnOnce 57 = .ok (.getfield 16, 3) := by decide +kernel
theorem dX0_turnOnce_60 : decode cX0_turnOnce 60 = .ok (.iconst 1, 1) := by decide +kernel
theorem dX0_turnOnce_61 : decode cX0_turnOnce 61 = .ok (.isub, 1) := by decide +kernel
theorem dX0_turnOnce_62 : decode cX0_turnOnce 62 = .ok (.iload_n 3, 1) := by decide +kernel
theorem dX0_turnOnce_63 : decode cX0_turnOnce 63 = .ok (.isub, 1) := by decide +kernel
theorem dX0_turnOnce_64 : decode cX0_turnOnce 64 = .ok (.iload_n 1, 1) := by decide +kernel
theorem dX0_turnOnce_65 : decode cX0_turnOnce 65 = .ok (.aload_n 0, 1) := by decide +kernel
theorem dX0_turnOnce_66 : decode cX0_turnOnce 66 = .ok (.getfield 13, 3) := by decide +kernel
theorem dX0_turnOnce_69 : decode cX0_turnOnce 69 = .ok (.iload_n 2, 1) := by decide +kernel
theorem dX0_turnOnce_70 : decode cX0_turnOnce 70 = .ok (.bipush 8, 2) := by decide +kernel
theorem dX0_turnOnce_72 : decode cX0_turnOnce 72 = .ok (.imul, 1) := by decide +kernel
theorem dX0_turnOnce_73 : decode cX0_turnOnce 73 = .ok (.iload_n 3, 1) := by decide +kernel
theorem dX0_turnOnce_74 : decode cX0_turnOnce 74 = .ok (.iadd, 1) := by decide +kernel
theorem dX0_turnOnce_75 : decode cX0_turnOnce 75 = .ok (.iaload, 1) := by decide +kernel
theorem dX0_turnOnce_76 : decode cX0_turnOnce 76 = .ok (.invokevirtual 44, 3) := by decide +kernel
theorem dX0_turnOnce_79 : decode cX0_turnOnce 79 = .ok (.iinc 3 1, 3) := by decide +kernel
theorem dX0_turnOnce_82 : decode cX0_turnOnce 82 = .ok (.goto (-42), 3) := by decide +kernel
theorem dX0_turnOnce_85 : decode cX0_turnOnce 85 = .ok (.iinc 2 1, 3) := by decide +kernel
theorem dX0_turnOnce_88 : decode cX0_turnOnce 88 = .ok (.goto (-64), 3) := by decide +kernel
theorem dX0_turnOnce_91 : decode cX0_turnOnce 91 = .ok (.iinc 1 1, 3) := by decide +kernel
theorem dX0_turnOnce_94 : decode cX0_turnOnce 94 = .ok (.goto (-92), 3) := by decide +kernel
theorem dX0_turnOnce_97 : decode cX0_turnOnce 97 = .ok (.return_, 1) := by decide +kernel
theorem dX0_keepLayer_0 : decode cX0_keepLayer 0 = .ok (.iconst 0, 1) := by decide +kernel
theorem dX0_keepLayer_1 : decode cX0_keepLayer 1 = .ok (.istore_n 2, 1) := by decide +kernel
theorem dX0_keepLayer_2 : decode cX0_keepLayer 2 = .ok (.iload_n 2, 1) := by decide +kernel
theorem dX0_keepLayer_3 : decode cX0_keepLayer 3 = .ok (.aload_n 0, 1) := by decide +kernel
theorem dX0_keepLayer_4 : decode cX0_keepLayer 4 = .ok (.getfield 20, 3) := by decide +kernel
theorem dX0_keepLayer_7 : decode cX0_keepLayer 7 = .ok (.if_icmp .ge 66, 3) := by decide +kernel
theorem dX0_keepLayer_10 : decode cX0_keepLayer 10 = .ok (.iload_n 2, 1) := by decide +kernel
theorem dX0_keepLayer_11 : decode cX0_keepLayer 11 = .ok (.bipush 8, 2) := by decide +kernel
theorem dX0_keepLayer_13 : decode cX0_keepLayer 13 = .ok (.if_icmp .ge 60, 3) := by decide +kernel
theorem dX0_keepLayer_16 : decode cX0_keepLayer 16 = .ok (.iconst 0, 1) := by decide +kernel
theorem dX0_keepLayer_17 : decode cX0_keepLayer 17 = .ok (.istore_n 3, 1) := by decide +kernel
theorem dX0_keepLayer_18 : decode cX0_keepLayer 18 = .ok (.iload_n 3, 1) := by decide +kernel
theorem dX0_keepLayer_19 : decode cX0_keepLayer 19 = .ok (.aload_n 0, 1) := by decide +kernel
theorem dX0_keepLayer_20 : decode cX0_keepLayer 20 = .ok (.getfield 16, 3) := by decide +kernel
theorem dX0_keepLayer_23 : decode cX0_keepLayer 23 = .ok (.if_icmp .ge 44, 3) := by decide +kernel
theorem dX0_keepLayer_26 : decode cX0_keepLayer 26 = .ok (.iload_n 3, 1) := by decide +kernel
theorem dX0_keepLayer_27 : decode cX0_keepLayer 27 = .ok (.bipush 8, 2) := by decide +kernel
theorem dX0_keepLayer_29 : decode cX0_keepLayer 29 = .ok (.if_icmp .ge 38, 3) := by decide +kernel
theorem dX0_keepLayer_32 : decode cX0_keepLayer 32 = .ok (.aload_n 0, 1) := by decide +kernel
theorem dX0_keepLayer_33 : decode cX0_keepLayer 33 = .ok (.getfield 13, 3) := by decide +kernel
theorem dX0_keepLayer_36 : decode cX0_keepLayer 36 = .ok (.iload_n 2, 1) := by decide +kernel
theorem dX0_keepLayer_37 : decode cX0_keepLayer 37 = .ok (.bipush 8, 2) := by decide +kernel
theorem dX0_keepLayer_39 : decode cX0_keepLayer 39 = .ok (.imul, 1) := by decide +kernel
theorem dX0_keepLayer_40 : decode cX0_keepLayer 40 = .ok (.iload_n 3, 1) := by decide +kernel
theorem dX0_keepLayer_41 : decode cX0_keepLayer 41 = .ok (.iadd, 1) := by decide +kernel
theorem dX0_keepLayer_42 : decode cX0_keepLayer 42 = .ok (.aload_n 0, 1) := by decide +kernel
theorem dX0_keepLayer_43 : decode cX0_keepLayer 43 = .ok (.iload_n 3, 1) := by decide +kernel
theorem dX0_keepLayer_44 : decode cX0_keepLayer 44 = .ok (.iload_n 2, 1) := by decide +kernel
theorem dX0_keepLayer_45 : decode cX0_keepLayer 45 = .ok (.iload_n 1, 1) := by decide +kernel
theorem dX0_keepLayer_46 : decode cX0_keepLayer 46 = .ok (.invokestatic 48, 3) := by decide +kernel
theorem dX0_keepLayer_49 : decode cX0_keepLayer 49 = .ok (.invokevirtual 52, 3) := by decide +kernel
theorem dX0_keepLayer_52 : decode cX0_keepLayer 52 = .ok (.ifCond .eq 7, 3) := by decide +kernel
theorem dX0_keepLayer_55 : decode cX0_keepLayer 55 = .ok (.iconst 1, 1) := by decide +kernel
theorem dX0_keepLayer_56 : decode cX0_keepLayer 56 = .ok (.goto 4, 3) := by decide +kernel
theorem dX0_keepLayer_59 : decode cX0_keepLayer 59 = .ok (.iconst 0, 1) := by decide +kernel
theorem dX0_keepLayer_60 : decode cX0_keepLayer 60 = .ok (.iastore, 1) := by decide +kernel
theorem dX0_keepLayer_61 : decode cX0_keepLayer 61 = .ok (.iinc 3 1, 3) := by decide +kernel
theorem dX0_keepLayer_64 : decode cX0_keepLayer 64 = .ok (.goto (-46), 3) := by decide +kernel
theorem dX0_keepLayer_67 : decode cX0_keepLayer 67 = .ok (.iinc 2 1, 3) := by decide +kernel
theorem dX0_keepLayer_70 : decode cX0_keepLayer 70 = .ok (.goto (-68), 3) := by decide +kernel
theorem dX0_keepLayer_73 : decode cX0_keepLayer 73 = .ok (.return_, 1) := by decide +kernel
theorem dX0_put_0 : decode cX0_put 0 = .ok (.aload_n 0, 1) := by decide +kernel
theorem dX0_put_1 : decode cX0_put 1 = .ok (.iload_n 1, 1) := by decide +kernel
theorem dX0_put_2 : decode cX0_put 2 = .ok (.iload_n 2, 1) := by decide +kernel
theorem dX0_put_3 : decode cX0_put 3 = .ok (.iload_n 3, 1) := by decide +kernel
theorem dX0_put_4 : decode cX0_put 4 = .ok (.iconst 0, 1) := by decide +kernel
theorem dX0_put_5 : decode cX0_put 5 = .ok (.invokevirtual 64, 3) := by decide +kernel
theorem dX0_put_8 : decode cX0_put 8 = .ok (.ifCond .eq 16, 3) := by decide +kernel
theorem dX0_put_11 : decode cX0_put 11 = .ok (.aload_n 0, 1) := by decide +kernel
theorem dX0_put_12 : decode cX0_put 12 = .ok (.getfield 9, 3) := by decide +kernel
theorem dX0_put_15 : decode cX0_put 15 = .ok (.iload_n 1, 1) := by decide +kernel
theorem dX0_put_16 : decode cX0_put 16 = .ok (.iload_n 2, 1) := by decide +kernel
theorem dX0_put_17 : decode cX0_put 17 = .ok (.iload_n 3, 1) := by decide +kernel
theorem dX0_put_18 : decode cX0_put 18 = .ok (.invokestatic 48, 3) := by decide +kernel
theorem dX0_put_21 : decode cX0_put 21 = .ok (.iload 4, 2) := by decide +kernel
theorem dX0_put_23 : decode cX0_put 23 = .ok (.iastore, 1) := by decide +kernel
theorem dX0_put_24 : decode cX0_put 24 = .ok (.return_, 1) := by decide +kernel
theorem dX1_init_0 : decode cX1_init 0 = .ok (.aload_n 0, 1) := by decide +kernel
theorem dX1_init_1 : decode cX1_init 1 = .ok (.invokespecial 5, 3) := by decide +kernel
theorem dX1_init_4 : decode cX1_init 4 = .ok (.aload_n 0, 1) := by decide +kernel
theorem dX1_init_5 : decode cX1_init 5 = .ok (.bipush 6, 2) := by decide +kernel
theorem dX1_init_7 : decode cX1_init 7 = .ok (.newarray .int, 2) := by decide +kernel
theorem dX1_init_9 : decode cX1_init 9 = .ok (.putfield 11, 3) := by decide +kernel
theorem dX1_init_12 : decode cX1_init 12 = .ok (.aload_n 0, 1) := by decide +kernel
theorem dX1_init_13 : decode cX1_init 13 = .ok (.bipush 64, 2) := by decide +kernel
theorem dX1_init_15 : decode cX1_init 15 = .ok (.newarray .int, 2) := by decide +kernel
theorem dX1_init_17 : decode cX1_init 17 = .ok (.putfield 17, 3) := by decide +kernel
theorem dX1_init_20 : decode cX1_init 20 = .ok (.aload_n 0, 1) := by decide +kernel
theorem dX1_init_21 : decode cX1_init 21 = .ok (.bipush 64, 2) := by decide +kernel
theorem dX1_init_23 : decode cX1_init 23 = .ok (.newarray .int, 2) := by decide +kernel
theorem dX1_init_25 : decode cX1_init 25 = .ok (.putfield 20, 3) := by decide +kernel
theorem dX1_init_28 : decode cX1_init 28 = .ok (.aload_n 0, 1) := by decide +kernel
theorem dX1_init_29 : decode cX1_init 29 = .ok (.bipush 64, 2) := by decide +kernel
theorem dX1_init_31 : decode cX1_init 31 = .ok (.newarray .int, 2) := by decide +kernel
theorem dX1_init_33 : decode cX1_init 33 = .ok (.putfield 23, 3) := by decide +kernel
theorem dX1_init_36 : decode cX1_init 36 = .ok (.aload_n 0, 1) := by decide +kernel
theorem dX1_init_37 : decode cX1_init 37 = .ok (.aload_n 1, 1) := by decide +kernel
theorem dX1_init_38 : decode cX1_init 38 = .ok (.putfield 26, 3) := by decide +kernel
theorem dX1_init_41 : decode cX1_init 41 = .ok (.aload_n 0, 1) := by decide +kernel
theorem dX1_init_42 : decode cX1_init 42 = .ok (.aload_n 2, 1) := by decide +kernel
theorem dX1_init_43 : decode cX1_init 43 = .ok (.putfield 30, 3) := by decide +kernel
theorem dX1_init_46 : decode cX1_init 46 = .ok (.aload_n 0, 1) := by decide +kernel
theorem dX1_init_47 : decode cX1_init 47 = .ok (.new 34, 3) := by decide +kernel
theorem dX1_init_50 : decode cX1_init 50 = .ok (.dup, 1) := by decide +kernel
theorem dX1_init_51 : decode cX1_init 51 = .ok (.aload_n 1, 1) := by decide +kernel
theorem dX1_init_52 : decode cX1_init 52 = .ok (.invokespecial 36, 3) := by decide +kernel
theorem dX1_init_55 : decode cX1_init 55 = .ok (.putfield 39, 3) := by decide +kernel
theorem dX1_init_58 : decode cX1_init 58 = .ok (.return_, 1) := by decide +kernel
theorem dX1_forget_0 : decode cX1_forget 0 = .ok (.aload_n 0, 1) := by decide +kernel
theorem dX1_forget_1 : decode cX1_forget 1 = .ok (.iconst 0, 1) := by decide +kernel
theorem dX1_forget_2 : decode cX1_forget 2 = .ok (.putfield 43, 3) := by decide +kernel
theorem dX1_forget_5 : decode cX1_forget 5 = .ok (.aload_n 0, 1) := by decide +kernel
theorem dX1_forget_6 : decode cX1_forget 6 = .ok (.getfield 30, 3) := by decide +kernel
theorem dX1_forget_9 : decode cX1_forget 9 = .ok (.invokevirtual 47, 3) := by decide +kernel
theorem dX1_forget_12 : decode cX1_forget 12 = .ok (.return_, 1) := by decide +kernel
theorem dX1_find_0 : decode cX1_find 0 = .ok (.aload_n 0, 1) := by decide +kernel
theorem dX1_find_1 : decode cX1_find 1 = .ok (.getfield 43, 3) := by decide +kernel
theorem dX1_find_4 : decode cX1_find 4 = .ok (.ifCond .le 12, 3) := by decide +kernel
theorem dX1_find_7 : decode cX1_find 7 = .ok (.aload_n 0, 1) := by decide +kernel
theorem dX1_find_8 : decode cX1_find 8 = .ok (.getfield 30, 3) := by decide +kernel
theorem dX1_find_11 : decode cX1_find 11 = .ok (.invokevirtual 52, 3) := by decide +kernel
theorem dX1_find_14 : decode cX1_find 14 = .ok (.iconst 1, 1) := by decide +kernel
theorem dX1_find_15 : decode cX1_find 15 = .ok (.ireturn, 1) := by decide +kernel
theorem dX1_find_16 : decode cX1_find 16 = .ok (.aload_n 0, 1) := by decide +kernel
theorem dX1_find_17 : decode cX1_find 17 = .ok (.invokevirtual 55, 3) := by decide +kernel
theorem dX1_find_20 : decode cX1_find 20 = .ok (.aload_n 0, 1) := by decide +kernel
theorem dX1_find_21 : decode cX1_find 21 = .ok (.invokevirtual 58, 3) := by decide +kernel
theorem dX1_find_24 : decode cX1_find 24 = .ok (.istore_n 1, 1) := by decide +kernel
theorem dX1_find_25 : decode cX1_find 25 = .ok (.iload_n 1, 1) := by decide +kernel
theorem dX1_find_26 : decode cX1_find 26 = .ok (.iconst (-1), 1) := by decide +kernel
theorem dX1_find_27 : decode cX1_find 27 = .ok (.if_icmp .ne 5, 3) := by decide +kernel
theorem dX1_find_30 : decode cX1_find 30 = .ok (.iconst 0, 1) := by decide +kernel
theorem dX1_find_31 : decode cX1_find 31 = .ok (.ireturn, 1) := by decide +kernel
theorem dX1_find_32 : decode cX1_find 32 = .ok (.aload_n 0, 1) := by decide +kernel
theorem dX1_find_33 : decode cX1_find 33 = .ok (.iload_n 1, 1) := by decide +kernel
theorem dX1_find_34 : decode cX1_find 34 = .ok (.invokevirtual 62, 3) := by decide +kernel
theorem dX1_find_37 : decode cX1_find 37 = .ok (.aload_n 0, 1) := by decide +kernel
theorem dX1_find_38 : decode cX1_find 38 = .ok (.iload_n 1, 1) := by decide +kernel
theorem dX1_find_39 : decode cX1_find 39 = .ok (.invokevirtual 66, 3) := by decide +kernel
theorem dX1_find_42 : decode cX1_find 42 = .ok (.aload_n 0, 1) := by decide +kernel
theorem dX1_find_43 : decode cX1_find 43 = .ok (.getfield 30, 3) := by decide +kernel
theorem dX1_find_46 : decode cX1_find 46 = .ok (.aload_n 0, 1) := by decide +kernel
theorem dX1_find_47 : decode cX1_find 47 = .ok (.getfield 26, 3) := by decide +kernel
theorem dX1_find_50 : decode cX1_find 50 = .ok (.aload_n 0, 1) := by decide +kernel
theorem dX1_find_51 : decode cX1_find 51 = .ok (.getfield 39, 3) := by decide +kernel
theorem dX1_find_54 : decode cX1_find 54 = .ok (.invokevirtual 69, 3) := by decide +kernel
theorem dX1_find_57 : decode cX1_find 57 = .ok (.iconst 1, 1) := by decide +kernel
theorem dX1_find_58 : decode cX1_find 58 = .ok (.ireturn, 1) := by decide +kernel
theorem dX1_wayNumber_0 : decode cX1_wayNumber 0 = .ok (.iload_n 1, 1) := by decide +kernel
theorem dX1_wayNumber_1 : decode cX1_wayNumber 1 = .ok (.ifCond .lt 20, 3) := by decide +kernel
theorem dX1_wayNumber_4 : decode cX1_wayNumber 4 = .ok (.iload_n 1, 1) := by decide +kernel
theorem dX1_wayNumber_5 : decode cX1_wayNumber 5 = .ok (.aload_n 0, 1) := by decide +kernel
theorem dX1_wayNumber_6 : decode cX1_wayNumber 6 = .ok (.getfield 43, 3) := by decide +kernel
theorem dX1_wayNumber_9 : decode cX1_wayNumber 9 = .ok (.if_icmp .ge 12, 3) := by decide +kernel
theorem dX1_wayNumber_12 : decode cX1_wayNumber 12 = .ok (.aload_n 0, 1) := by decide +kernel
theorem dX1_wayNumber_13 : decode cX1_wayNumber 13 = .ok (.getfield 11, 3) := by decide +kernel
theorem dX1_wayNumber_16 : decode cX1_wayNumber 16 = .ok (.iload_n 1, 1) := by decide +kernel
theorem dX1_wayNumber_17 : decode cX1_wayNumber 17 = .ok (.iaload, 1) := by decide +kernel
theorem dX1_wayNumber_18 : decode cX1_wayNumber 18 = .ok (.goto 4, 3) := by decide +kernel
theorem dX1_wayNumber_21 : decode cX1_wayNumber 21 = .ok (.iconst (-1), 1) := by decide +kernel
theorem dX1_wayNumber_22 : decode cX1_wayNumber 22 = .ok (.ireturn, 1) := by decide +kernel
theorem dX1_pieceOfCell_0 : decode cX1_pieceOfCell 0 = .ok (.aload_n 0, 1) := by decide +kernel
theorem dX1_pieceOfCell_1 : decode cX1_pieceOfCell 1 = .ok (.getfield 43, 3) := by decide +kernel
theorem dX1_pieceOfCell_4 : decode cX1_pieceOfCell 4 = .ok (.ifCond .le 14, 3) := by decide +kernel
theorem dX1_pieceOfCell_7 : decode cX1_pieceOfCell 7 = .ok (.aload_n 0, 1) := by decide +kernel
theorem dX1_pieceOfCell_8 : decode cX1_pieceOfCell 8 = .ok (.getfield 39, 3) := by decide +kernel
theorem dX1_pieceOfCell_11 : decode cX1_pieceOfCell 11 = .ok (.iload_n 1, 1) := by decide +kernel
theorem dX1_pieceOfCell_12 : decode cX1_pieceOfCell 12 = .ok (.invokevirtual 73, 3) := by decide +kernel
theorem dX1_pieceOfCell_15 : decode cX1_pieceOfCell 15 = .ok (.goto 4, 3) := by decide +kernel
theorem dX1_pieceOfCell_18 : decode cX1_pieceOfCell 18 = .ok (.iconst (-1), 1) := by decide +kernel
theorem dX1_pieceOfCell_19 : decode cX1_pieceOfCell 19 = .ok (.ireturn, 1) := by decide +kernel
theorem dX1_noteFreedoms_0 : decode cX1_noteFreedoms 0 = .ok (.aload_n 0, 1) := by decide +kernel
theorem dX1_noteFreedoms_1 : decode cX1_noteFreedoms 1 = .ok (.getfield 23, 3) := by decide +kernel
theorem dX1_noteFreedoms_4 : decode cX1_noteFreedoms 4 = .ok (.iconst 0, 1) := by decide +kernel
theorem dX1_noteFreedoms_5 : decode cX1_noteFreedoms 5 = .ok (.invokestatic 77, 3) := by decide +kernel
theorem dX1_noteFreedoms_8 : decode cX1_noteFreedoms 8 = .ok (.iconst 0, 1) := by decide +kernel
theorem dX1_noteFreedoms_9 : decode cX1_noteFreedoms 9 = .ok (.istore_n 1, 1) := by decide +kernel
theorem dX1_noteFreedoms_10 : decode cX1_noteFreedoms 10 = .ok (.iload_n 1, 1) := by decide +kernel
theorem dX1_noteFreedoms_11 : decode cX1_noteFreedoms 11 = .ok (.aload_n 0, 1) := by decide +kernel
theorem dX1_noteFreedoms_12 : decode cX1_noteFreedoms 12 = .ok (.getfield 26, 3) := by decide +kernel
theorem dX1_noteFreedoms_15 : decode cX1_noteFreedoms 15 = .ok (.invokevirtual 83, 3) := by decide +kernel
theorem dX1_noteFreedoms_18 : decode cX1_noteFreedoms 18 = .ok (.if_icmp .ge 36, 3) := by decide +kernel
theorem dX1_noteFreedoms_21 : decode cX1_noteFreedoms 21 = .ok (.aload_n 0, 1) := by decide +kernel
theorem dX1_noteFreedoms_22 : decode cX1_noteFreedoms 22 = .ok (.getfield 23, 3) := by decide +kernel
theorem dX1_noteFreedoms_25 : decode cX1_noteFreedoms 25 = .ok (.aload_n 0, 1) := by decide +kernel
theorem dX1_noteFreedoms_26 : decode cX1_noteFreedoms 26 = .ok (.getfield 26, 3) := by decide +kernel
theorem dX1_noteFreedoms_29 : decode cX1_noteFreedoms 29 = .ok (.aload_n 0, 1) := by decide +kernel
theorem dX1_noteFreedoms_30 : decode cX1_noteFreedoms 30 = .ok (.getfield 26, 3) := by decide +kernel
theorem dX1_noteFreedoms_33 : decode cX1_noteFreedoms 33 = .ok (.iload_n 1, 1) := by decide +kernel
theorem dX1_noteFreedoms_34 : decode cX1_noteFreedoms 34 = .ok (.invokevirtual 86, 3) := by decide +kernel
theorem dX1_noteFreedoms_37 : decode cX1_noteFreedoms 37 = .ok (.invokevirtual 89, 3) := by decide +kernel
theorem dX1_noteFreedoms_40 : decode cX1_noteFreedoms 40 = .ok (.bipush 63, 2) := by decide +kernel
theorem dX1_noteFreedoms_42 : decode cX1_noteFreedoms 42 = .ok (.iand, 1) := by decide +kernel
theorem dX1_noteFreedoms_43 : decode cX1_noteFreedoms 43 = .ok (.dup2, 1) := by decide +kernel
theorem dX1_noteFreedoms_44 : decode cX1_noteFreedoms 44 = .ok (.iaload, 1) := by decide +kernel
theorem dX1_noteFreedoms_45 : decode cX1_noteFreedoms 45 = .ok (.iconst 1, 1) := by decide +kernel
theorem dX1_noteFreedoms_46 : decode cX1_noteFreedoms 46 = .ok (.iadd, 1) := by decide +kernel
theorem dX1_noteFreedoms_47 : decode cX1_noteFreedoms 47 = .ok (.iastore, 1) := by decide +kernel
theorem dX1_noteFreedoms_48 : decode cX1_noteFreedoms 48 = .ok (.iinc 1 1, 3) := by decide +kernel
theorem dX1_noteFreedoms_51 : decode cX1_noteFreedoms 51 = .ok (.goto (-41), 3) := by decide +kernel
theorem dX1_noteFreedoms_54 : decode cX1_noteFreedoms 54 = .ok (.return_, 1) := by decide +kernel
theorem dX1_frees_0 : decode cX1_frees 0 = .ok (.iconst 0, 1) := by decide +kernel
theorem dX1_frees_1 : decode cX1_frees 1 = .ok (.istore_n 2, 1) := by decide +kernel
theorem dX1_frees_2 : decode cX1_frees 2 = .ok (.iload_n 2, 1) := by decide +kernel
theorem dX1_frees_3 : decode cX1_frees 3 = .ok (.bipush 64, 2) := by decide +kernel
theorem dX1_frees_5 : decode cX1_frees 5 = .ok (.if_icmp .ge 26, 3) := by decide +kernel
theorem dX1_frees_8 : decode cX1_frees 8 = .ok (.aload_n 0, 1) := by decide +kernel
theorem dX1_frees_9 : decode cX1_frees 9 = .ok (.getfield 23, 3) := by decide +kernel
theorem dX1_frees_12 : decode cX1_frees 12 = .ok (.iload_n 2, 1) := by decide +kernel
theorem dX1_frees_13 : decode cX1_frees 13 = .ok (.iaload, 1) := by decide +kernel
theorem dX1_frees_14 : decode cX1_frees 14 = .ok (.ifCond .le 11, 3) := by decide +kernel
theorem dX1_frees_17 : decode cX1_frees 17 = .ok (.iload_n 2, 1) := by decide +kernel
theorem dX1_frees_18 : decode cX1_frees 18 = .ok (.iload_n 1, 1) := by decide +kernel
theorem dX1_frees_19 : decode cX1_frees 19 = .ok (.iand, 1) := by decide +kernel
theorem dX1_frees_20 : decode cX1_frees 20 = .ok (.ifCond .ne 5, 3) := by decide +kernel
theorem dX1_frees_23 : decode cX1_frees 23 = .ok (.iconst 0, 1) := by decide +kernel
theorem dX1_frees_24 : decode cX1_frees 24 = .ok (.ireturn, 1) := by decide +kernel
theorem dX1_frees_25 : decode cX1_frees 25 = .ok (.iinc 2 1, 3) := by decide +kernel
theorem dX1_frees_28 : decode cX1_frees 28 = .ok (.goto (-26), 3) := by decide +kernel
theorem dX1_frees_31 : decode cX1_frees 31 = .ok (.iconst 1, 1) := by decide +kernel
theorem dX1_frees_32 : decode cX1_frees 32 = .ok (.ireturn, 1) := by decide +kernel
theorem dX1_fewestWays_0 : decode cX1_fewestWays 0 = .ok (.iconst (-1), 1) := by decide +kernel
theorem dX1_fewestWays_1 : decode cX1_fewestWays 1 = .ok (.istore_n 1, 1) := by decide +kernel
theorem dX1_fewestWays_2 : decode cX1_fewestWays 2 = .ok (.iconst 1, 1) := by decide +kernel
theorem dX1_fewestWays_3 : decode cX1_fewestWays 3 = .ok (.istore_n 2, 1) := by decide +kernel
theorem dX1_fewestWays_4 : decode cX1_fewestWays 4 = .ok (.iload_n 2, 1) := by decide +kernel
theorem dX1_fewestWays_5 : decode cX1_fewestWays 5 = .ok (.bipush 64, 2) := by decide +kernel
theorem dX1_fewestWays_7 : decode cX1_fewestWays 7 = .ok (.if_icmp .ge 34, 3) := by decide +kernel
theorem dX1_fewestWays_10 : decode cX1_fewestWays 10 = .ok (.iload_n 2, 1) := by decide +kernel
theorem dX1_fewestWays_11 : decode cX1_fewestWays 11 = .ok (.invokestatic 92, 3) := by decide +kernel
theorem dX1_fewestWays_14 : decode cX1_fewestWays 14 = .ok (.istore_n 3, 1) := by decide +kernel
theorem dX1_fewestWays_15 : decode cX1_fewestWays 15 = .ok (.iload_n 1, 1) := by decide +kernel
theorem dX1_fewestWays_16 : decode cX1_fewestWays 16 = .ok (.iconst (-1), 1) := by decide +kernel
theorem dX1_fewestWays_17 : decode cX1_fewestWays 17 = .ok (.if_icmp .eq 8, 3) := by decide +kernel
theorem dX1_fewestWays_20 : decode cX1_fewestWays 20 = .ok (.iload_n 3, 1) := by decide +kernel
theorem dX1_fewestWays_21 : decode cX1_fewestWays 21 = .ok (.iload_n 1, 1) := by decide +kernel
theorem dX1_fewestWays_22 : decode cX1_fewestWays 22 = .ok (.if_icmp .ge 13, 3) := by decide +kernel
theorem dX1_fewestWays_25 : decode cX1_fewestWays 25 = .ok (.aload_n 0, 1) := by decide +kernel
theorem dX1_fewestWays_26 : decode cX1_fewestWays 26 = .ok (.iload_n 2, 1) := by decide +kernel
theorem dX1_fewestWays_27 : decode cX1_fewestWays 27 = .ok (.invokevirtual 97, 3) := by decide +kernel
theorem dX1_fewestWays_30 : decode cX1_fewestWays 30 = .ok (.ifCond .eq 5, 3) := by decide +kernel
theorem dX1_fewestWays_33 : decode cX1_fewestWays 33 = .ok (.iload_n 3, 1) := by decide +kernel
theorem dX1_fewestWays_34 : decode cX1_fewestWays 34 = .ok (.istore_n 1, 1) := by decide +kernel
theorem dX1_fewestWays_35 : decode cX1_fewestWays 35 = .ok (.iinc 2 1, 3) := by decide +kernel
theorem dX1_fewestWays_38 : decode cX1_fewestWays 38 = .ok (.goto (-34), 3) := by decide +kernel
theorem dX1_fewestWays_41 : decode cX1_fewestWays 41 = .ok (.iload_n 1, 1) := by decide +kernel
theorem dX1_fewestWays_42 : decode cX1_fewestWays 42 = .ok (.ireturn, 1) := by decide +kernel
theorem dX1_weighSets_0 : decode cX1_weighSets 0 = .ok (.bipush 63, 2) := by decide +kernel
theorem dX1_weighSets_2 : decode cX1_weighSets 2 = .ok (.istore_n 2, 1) := by decide +kernel
theorem dX1_weighSets_3 : decode cX1_weighSets 3 = .ok (.iload_n 2, 1) := by decide +kernel
theorem dX1_weighSets_4 : decode cX1_weighSets 4 = .ok (.ifCond .lt 56, 3) := by decide +kernel
theorem dX1_weighSets_7 : decode cX1_weighSets 7 = .ok (.iload_n 2, 1) := by decide +kernel
theorem dX1_weighSets_8 : decode cX1_weighSets 8 = .ok (.invokestatic 92, 3) := by decide +kernel
theorem dX1_weighSets_11 : decode cX1_weighSets 11 = .ok (.istore_n 3, 1) := by decide +kernel
theorem dX1_weighSets_12 : decode cX1_weighSets 12 = .ok (.aload_n 0, 1) := by decide +kernel
theorem dX1_weighSets_13 : decode cX1_weighSets 13 = .ok (.getfield 17, 3) := by decide +kernel
theorem dX1_weighSets_16 : decode cX1_weighSets 16 = .ok (.iload_n 2, 1) := by decide +kernel
theorem dX1_weighSets_17 : decode cX1_weighSets 17 = .ok (.iload_n 3, 1) := by decide +kernel
theorem dX1_weighSets_18 : decode cX1_weighSets 18 = .ok (.iload_n 1, 1) := by decide +kernel
theorem dX1_weighSets_19 : decode cX1_weighSets 19 = .ok (.if_icmp .ne 15, 3) := by decide +kernel
theorem dX1_weighSets_22 : decode cX1_weighSets 22 = .ok (.aload_n 0, 1) := by decide +kernel
theorem dX1_weighSets_23 : decode cX1_weighSets 23 = .ok (.iload_n 2, 1) := by decide +kernel
theorem dX1_weighSets_24 : decode cX1_weighSets 24 = .ok (.invokevirtual 97, 3) := by decide +kernel
theorem dX1_weighSets_27 : decode cX1_weighSets 27 = .ok (.ifCond .eq 7, 3) := by decide +kernel
theorem dX1_weighSets_30 : decode cX1_weighSets 30 = .ok (.iconst 0, 1) := by decide +kernel
theorem dX1_weighSets_31 : decode cX1_weighSets 31 = .ok (.goto 5, 3) := by decide +kernel
theorem dX1_weighSets_34 : decode cX1_weighSets 34 = .ok (.ldc 101, 2) := by decide +kernel
theorem dX1_weighSets_36 : decode cX1_weighSets 36 = .ok (.iastore, 1) := by decide +kernel
theorem dX1_weighSets_37 : decode cX1_weighSets 37 = .ok (.aload_n 0, 1) := by decide +kernel
theorem dX1_weighSets_38 : decode cX1_weighSets 38 = .ok (.getfield 20, 3) := by decide +kernel
theorem dX1_weighSets_41 : decode cX1_weighSets 41 = .ok (.iload_n 2, 1) := by decide +kernel
theorem dX1_weighSets_42 : decode cX1_weighSets 42 = .ok (.iconst (-1), 1) := by decide +kernel
theorem dX1_weighSets_43 : decode cX1_weighSets 43 = .ok (.iastore, 1) := by decide +kernel
theorem dX1_weighSets_44 : decode cX1_weighSets 44 = .ok (.iload_n 3, 1) := by decide +kernel
theorem dX1_weighSets_45 : decode cX1_weighSets 45 = .ok (.iload_n 1, 1) := by decide +kernel
theorem dX1_weighSets_46 : decode cX1_weighSets 46 = .ok (.if_icmp .ge 8, 3) := by decide +kernel
theorem dX1_weighSets_49 : decode cX1_weighSets 49 = .ok (.aload_n 0, 1) := by decide +kernel
theorem dX1_weighSets_50 : decode cX1_weighSets 50 = .ok (.iload_n 2, 1) := by decide +kernel
theorem dX1_weighSets_51 : decode cX1_weighSets 51 = .ok (.invokevirtual 102, 3) := by decide +kernel
theorem dX1_weighSets_54 : decode cX1_weighSets 54 = .ok (.iinc 2 (-1), 3) := by decide +kernel
theorem dX1_weighSets_57 : decode cX1_weighSets 57 = .ok (.goto (-54), 3) := by decide +kernel
theorem dX1_weighSets_60 : decode cX1_weighSets 60 = .ok (.return_, 1) := by decide +kernel
theorem dX1_weighWays_0 : decode cX1_weighWays 0 = .ok (.iconst 0, 1) := by decide +kernel
theorem dX1_weighWays_1 : decode cX1_weighWays 1 = .ok (.istore_n 2, 1) := by decide +kernel
theorem dX1_weighWays_2 : decode cX1_weighWays 2 = .ok (.iload_n 2, 1) := by decide +kernel
theorem dX1_weighWays_3 : decode cX1_weighWays 3 = .ok (.bipush 6, 2) := by decide +kernel
theorem dX1_weighWays_5 : decode cX1_weighWays 5 = .ok (.if_icmp .ge 82, 3) := by decide +kernel
theorem dX1_weighWays_8 : decode cX1_weighWays 8 = .ok (.iload_n 1, 1) := by decide +kernel
theorem dX1_weighWays_9 : decode cX1_weighWays 9 = .ok (.iconst 1, 1) := by decide +kernel
theorem dX1_weighWays_10 : decode cX1_weighWays 10 = .ok (.iload_n 2, 1) := by decide +kernel
theorem dX1_weighWays_11 : decode cX1_weighWays 11 = .ok (.ishl, 1) := by decide +kernel
theorem dX1_weighWays_12 : decode cX1_weighWays 12 = .ok (.ior, 1) := by decide +kernel
theorem dX1_weighWays_13 : decode cX1_weighWays 13 = .ok (.istore_n 3, 1) := by decide +kernel
theorem dX1_weighWays_14 : decode cX1_weighWays 14 = .ok (.iload_n 3, 1) := by decide +kernel
theorem dX1_weighWays_15 : decode cX1_weighWays 15 = .ok (.iload_n 1, 1) := by decide +kernel
theorem dX1_weighWays_16 : decode cX1_weighWays 16 = .ok (.if_icmp .eq 65, 3) := by decide +kernel
theorem dX1_weighWays_19 : decode cX1_weighWays 19 = .ok (.aload_n 0, 1) := by decide +kernel
theorem dX1_weighWays_20 : decode cX1_weighWays 20 = .ok (.getfield 17, 3) := by decide +kernel
theorem dX1_weighWays_23 : decode cX1_weighWays 23 = .ok (.iload_n 3, 1) := by decide +kernel
theorem dX1_weighWays_24 : decode cX1_weighWays 24 = .ok (.iaload, 1) := by decide +kernel
theorem dX1_weighWays_25 : decode cX1_weighWays 25 = .ok (.iconst 1, 1) := by decide +kernel
theorem dX1_weighWays_26 : decode cX1_weighWays 26 = .ok (.iadd, 1) := by decide +kernel
theorem dX1_weighWays_27 : decode cX1_weighWays 27 = .ok (.aload_n 0, 1) := by decide +kernel
theorem dX1_weighWays_28 : decode cX1_weighWays 28 = .ok (.getfield 17, 3) := by decide +kernel
theorem dX1_weighWays_31 : decode cX1_weighWays 31 = .ok (.iload_n 1, 1) := by decide +kernel
theorem dX1_weighWays_32 : decode cX1_weighWays 32 = .ok (.iaload, 1) := by decide +kernel
theorem dX1_weighWays_33 : decode cX1_weighWays 33 = .ok (.if_icmp .ge 48, 3) := by decide +kernel
theorem dX1_weighWays_36 : decode cX1_weighWays 36 = .ok (.aload_n 0, 1) := by decide +kernel
theorem dX1_weighWays_37 : decode cX1_weighWays 37 = .ok (.getfield 39, 3) := by decide +kernel
theorem dX1_weighWays_40 : decode cX1_weighWays 40 = .ok (.iload_n 2, 1) := by decide +kernel
theorem dX1_weighWays_41 : decode cX1_weighWays 41 = .ok (.iload_n 1, 1) := by decide +kernel
theorem dX1_weighWays_42 : decode cX1_weighWays 42 = .ok (.iconst 0, 1) := by decide +kernel
theorem dX1_weighWays_43 : decode cX1_weighWays 43 = .ok (.invokevirtual 105, 3) := by decide +kernel
theorem dX1_weighWays_46 : decode cX1_weighWays 46 = .ok (.aload_n 0, 1) := by decide +kernel
theorem dX1_weighWays_47 : decode cX1_weighWays 47 = .ok (.getfield 17, 3) := by decide +kernel
theorem dX1_weighWays_50 : decode cX1_weighWays 50 = .ok (.iload_n 3, 1) := by decide +kernel
theorem dX1_weighWays_51 : decode cX1_weighWays 51 = .ok (.iaload, 1) := by decide +kernel
theorem dX1_weighWays_52 : decode cX1_weighWays 52 = .ok (.iadd, 1) := by decide +kernel
theorem dX1_weighWays_53 : decode cX1_weighWays 53 = .ok (.istore 4, 2) := by decide +kernel
theorem dX1_weighWays_55 : decode cX1_weighWays 55 = .ok (.iload 4, 2) := by decide +kernel
theorem dX1_weighWays_57 : decode cX1_weighWays 57 = .ok (.aload_n 0, 1) := by decide +kernel
theorem dX1_weighWays_58 : decode cX1_weighWays 58 = .ok (.getfield 17, 3) := by decide +kernel
theorem dX1_weighWays_61 : decode cX1_weighWays 61 = .ok (.iload_n 1, 1) := by decide +kernel
theorem dX1_weighWays_62 : decode cX1_weighWays 62 = .ok (.iaload, 1) := by decide +kernel
theorem dX1_weighWays_63 : decode cX1_weighWays 63 = .ok (.if_icmp .ge 18, 3) := by decide +kernel
theorem dX1_weighWays_66 : decode cX1_weighWays 66 = .ok (.aload_n 0, 1) := by decide +kernel
theorem dX1_weighWays_67 : decode cX1_weighWays 67 = .ok (.getfield 17, 3) := by decide +kernel
theorem dX1_weighWays_70 : decode cX1_weighWays 70 = .ok (.iload_n 1, 1) := by decide +kernel
theorem dX1_weighWays_71 : decode cX1_weighWays 71 = .ok (.iload 4, 2) := by decide +kernel
theorem dX1_weighWays_73 : decode cX1_weighWays 73 = .ok (.iastore, 1) := by decide +kernel
theorem dX1_weighWays_74 : decode cX1_weighWays 74 = .ok (.aload_n 0, 1) := by decide +kernel
theorem dX1_weighWays_75 : decode cX1_weighWays 75 = .ok (.getfield 20, 3) := by decide +kernel
theorem dX1_weighWays_78 : decode cX1_weighWays 78 = .ok (.iload_n 1, 1) := by decide +kernel
theorem dX1_weighWays_79 : decode cX1_weighWays 79 = .ok (.iload_n 2, 1) := by decide +kernel
theorem dX1_weighWays_80 : decode cX1_weighWays 80 = .ok (.iastore, 1) := by decide +kernel
theorem dX1_weighWays_81 : decode cX1_weighWays 81 = .ok (.iinc 2 1, 3) := by decide +kernel
theorem dX1_weighWays_84 : decode cX1_weighWays 84 = .ok (.goto (-82), 3) := by decide +kernel
theorem dX1_weighWays_87 : decode cX1_weighWays 87 = .ok (.return_, 1) := by decide +kernel
theorem dX1_keepBest_0 : decode cX1_keepBest 0 = .ok (.iconst 0, 1) := by decide +kernel
theorem dX1_keepBest_1 : decode cX1_keepBest 1 = .ok (.istore_n 2, 1) := by decide +kernel
theorem dX1_keepBest_2 : decode cX1_keepBest 2 = .ok (.iconst 0, 1) := by decide +kernel
theorem dX1_keepBest_3 : decode cX1_keepBest 3 = .ok (.istore_n 3, 1) := by decide +kernel
theorem dX1_keepBest_4 : decode cX1_keepBest 4 = .ok (.iload_n 3, 1) := by decide +kernel
theorem dX1_keepBest_5 : decode cX1_keepBest 5 = .ok (.iload_n 1, 1) := by decide +kernel
theorem dX1_keepBest_6 : decode cX1_keepBest 6 = .ok (.if_icmp .ge 81, 3) := by decide +kernel
theorem dX1_keepBest_9 : decode cX1_keepBest 9 = .ok (.iload_n 3, 1) := by decide +kernel
theorem dX1_keepBest_10 : decode cX1_keepBest 10 = .ok (.bipush 6, 2) := by decide +kernel
theorem dX1_keepBest_12 : decode cX1_keepBest 12 = .ok (.if_icmp .ge 75, 3) := by decide +kernel
theorem dX1_keepBest_15 : decode cX1_keepBest 15 = .ok (.aload_n 0, 1) := by decide +kernel
theorem dX1_keepBest_16 : decode cX1_keepBest 16 = .ok (.getfield 20, 3) := by decide +kernel
theorem dX1_keepBest_19 : decode cX1_keepBest 19 = .ok (.iload_n 2, 1) := by decide +kernel
theorem dX1_keepBest_20 : decode cX1_keepBest 20 = .ok (.iaload, 1) := by decide +kernel
theorem dX1_keepBest_21 : decode cX1_keepBest 21 = .ok (.iconst (-1), 1) := by decide +kernel
theorem dX1_keepBest_22 : decode cX1_keepBest 22 = .ok (.if_icmp .eq 65, 3) := by decide +kernel
theorem dX1_keepBest_25 : decode cX1_keepBest 25 = .ok (.aload_n 0, 1) := by decide +kernel
theorem dX1_keepBest_26 : decode cX1_keepBest 26 = .ok (.getfield 20, 3) := by decide +kernel
theorem dX1_keepBest_29 : decode cX1_keepBest 29 = .ok (.iload_n 2, 1) := by decide +kernel
theorem dX1_keepBest_30 : decode cX1_keepBest 30 = .ok (.iaload, 1) := by decide +kernel
theorem dX1_keepBest_31 : decode cX1_keepBest 31 = .ok (.istore 4, 2) := by decide +kernel
theorem dX1_keepBest_33 : decode cX1_keepBest 33 = .ok (.aload_n 0, 1) := by decide +kernel
theorem dX1_keepBest_34 : decode cX1_keepBest 34 = .ok (.getfield 11, 3) := by decide +kernel
theorem dX1_keepBest_37 : decode cX1_keepBest 37 = .ok (.iload_n 3, 1) := by decide +kernel
theorem dX1_keepBest_38 : decode cX1_keepBest 38 = .ok (.iload 4, 2) := by decide +kernel
theorem dX1_keepBest_40 : decode cX1_keepBest 40 = .ok (.iastore, 1) := by decide +kernel
theorem dX1_keepBest_41 : decode cX1_keepBest 41 = .ok (.aload_n 0, 1) := by decide +kernel
theorem dX1_keepBest_42 : decode cX1_keepBest 42 = .ok (.iload_n 3, 1) := by decide +kernel
theorem dX1_keepBest_43 : decode cX1_keepBest 43 = .ok (.iconst 1, 1) := by decide +kernel
theorem dX1_keepBest_44 : decode cX1_keepBest 44 = .ok (.iadd, 1) := by decide +kernel
theorem dX1_keepBest_45 : decode cX1_keepBest 45 = .ok (.putfield 43, 3) := by decide +kernel
theorem dX1_keepBest_48 : decode cX1_keepBest 48 = .ok (.aload_n 0, 1) := by decide +kernel
theorem dX1_keepBest_49 : decode cX1_keepBest 49 = .ok (.getfield 30, 3) := by decide +kernel
theorem dX1_keepBest_52 : decode cX1_keepBest 52 = .ok (.iload 4, 2) := by decide +kernel
theorem dX1_keepBest_54 : decode cX1_keepBest 54 = .ok (.aload_n 0, 1) := by decide +kernel
theorem dX1_keepBest_55 : decode cX1_keepBest 55 = .ok (.getfield 39, 3) := by decide +kernel
theorem dX1_keepBest_58 : decode cX1_keepBest 58 = .ok (.iload 4, 2) := by decide +kernel
theorem dX1_keepBest_60 : decode cX1_keepBest 60 = .ok (.iload_n 2, 1) := by decide +kernel
theorem dX1_keepBest_61 : decode cX1_keepBest 61 = .ok (.aload_n 0, 1) := by decide +kernel
theorem dX1_keepBest_62 : decode cX1_keepBest 62 = .ok (.getfield 30, 3) := by decide +kernel
theorem dX1_keepBest_65 : decode cX1_keepBest 65 = .ok (.invokevirtual 109, 3) := by decide +kernel
theorem dX1_keepBest_68 : decode cX1_keepBest 68 = .ok (.invokevirtual 105, 3) := by decide +kernel
theorem dX1_keepBest_71 : decode cX1_keepBest 71 = .ok (.invokevirtual 112, 3) := by decide +kernel
theorem dX1_keepBest_74 : decode cX1_keepBest 74 = .ok (.iload_n 2, 1) := by decide +kernel
theorem dX1_keepBest_75 : decode cX1_keepBest 75 = .ok (.iconst 1, 1) := by decide +kernel
theorem dX1_keepBest_76 : decode cX1_keepBest 76 = .ok (.iload 4, 2) := by decide +kernel
theorem dX1_keepBest_78 : decode cX1_keepBest 78 = .ok (.ishl, 1) := by decide +kernel
theorem dX1_keepBest_79 : decode cX1_keepBest 79 = .ok (.ior, 1) := by decide +kernel
theorem dX1_keepBest_80 : decode cX1_keepBest 80 = .ok (.istore_n 2, 1) := by decide +kernel
theorem dX1_keepBest_81 : decode cX1_keepBest 81 = .ok (.iinc 3 1, 3) := by decide +kernel
theorem dX1_keepBest_84 : decode cX1_keepBest 84 = .ok (.goto (-80), 3) := by decide +kernel
theorem dX1_keepBest_87 : decode cX1_keepBest 87 = .ok (.return_, 1) := by decide +kernel
theorem dX2_init_0 : decode cX2_init 0 = .ok (.aload_n 0, 1) := by decide +kernel
theorem dX2_init_1 : decode cX2_init 1 = .ok (.invokespecial 3, 3) := by decide +kernel
theorem dX2_init_4 : decode cX2_init 4 = .ok (.aload_n 0, 1) := by decide +kernel
theorem dX2_init_5 : decode cX2_init 5 = .ok (.bipush 12, 2) := by decide +kernel
theorem dX2_init_7 : decode cX2_init 7 = .ok (.newarray .int, 2) := by decide +kernel
theorem dX2_init_9 : decode cX2_init 9 = .ok (.putfield 11, 3) := by decide +kernel
theorem dX2_init_12 : decode cX2_init 12 = .ok (.aload_n 0, 1) := by decide +kernel
theorem dX2_init_13 : decode cX2_init 13 = .ok (.bipush 12, 2) := by decide +kernel
theorem dX2_init_15 : decode cX2_init 15 = .ok (.newarray .int, 2) := by decide +kernel
theorem dX2_init_17 : decode cX2_init 17 = .ok (.putfield 15, 3) := by decide +kernel
theorem dX2_init_20 : decode cX2_init 20 = .ok (.aload_n 0, 1) := by decide +kernel
theorem dX2_init_21 : decode cX2_init 21 = .ok (.sipush 990, 3) := by decide +kernel
theorem dX2_init_24 : decode cX2_init 24 = .ok (.putfield 18, 3) := by decide +kernel
theorem dX2_init_27 : decode cX2_init 27 = .ok (.aload_n 0, 1) := by decide +kernel
theorem dX2_init_28 : decode cX2_init 28 = .ok (.sipush 950, 3) := by decide +kernel
theorem dX2_init_31 : decode cX2_init 31 = .ok (.putfield 22, 3) := by decide +kernel
theorem dX2_init_34 : decode cX2_init 34 = .ok (.aload_n 0, 1) := by decide +kernel
theorem dX2_init_35 : decode cX2_init 35 = .ok (.bipush 50, 2) := by decide +kernel
theorem dX2_init_37 : decode cX2_init 37 = .ok (.putfield 25, 3) := by decide +kernel
theorem dX2_init_40 : decode cX2_init 40 = .ok (.return_, 1) := by decide +kernel
theorem dX2_has_0 : decode cX2_has 0 = .ok (.iload_n 1, 1) := by decide +kernel
theorem dX2_has_1 : decode cX2_has 1 = .ok (.ifCond .lt 22, 3) := by decide +kernel
theorem dX2_has_4 : decode cX2_has 4 = .ok (.iload_n 1, 1) := by decide +kernel
theorem dX2_has_5 : decode cX2_has 5 = .ok (.bipush 12, 2) := by decide +kernel
theorem dX2_has_7 : decode cX2_has 7 = .ok (.if_icmp .ge 16, 3) := by decide +kernel
theorem dX2_has_10 : decode cX2_has 10 = .ok (.aload_n 0, 1) := by decide +kernel
theorem dX2_has_11 : decode cX2_has 11 = .ok (.getfield 11, 3) := by decide +kernel
theorem dX2_has_14 : decode cX2_has 14 = .ok (.iload_n 1, 1) := by decide +kernel
theorem dX2_has_15 : decode cX2_has 15 = .ok (.iaload, 1) := by decide +kernel
theorem dX2_has_16 : decode cX2_has 16 = .ok (.ifCond .le 7, 3) := by decide +kernel
theorem dX2_has_19 : decode cX2_has 19 = .ok (.iconst 1, 1) := by decide +kernel
theorem dX2_has_20 : decode cX2_has 20 = .ok (.goto 4, 3) := by decide +kernel
theorem dX2_has_23 : decode cX2_has 23 = .ok (.iconst 0, 1) := by decide +kernel
theorem dX2_has_24 : decode cX2_has 24 = .ok (.ireturn, 1) := by decide +kernel
theorem dX2_set_0 : decode cX2_set 0 = .ok (.iload_n 1, 1) := by decide +kernel
theorem dX2_set_1 : decode cX2_set 1 = .ok (.ifCond .lt 19, 3) := by decide +kernel
theorem dX2_set_4 : decode cX2_set 4 = .ok (.iload_n 1, 1) := by decide +kernel
theorem dX2_set_5 : decode cX2_set 5 = .ok (.bipush 12, 2) := by decide +kernel
theorem dX2_set_7 : decode cX2_set 7 = .ok (.if_icmp .ge 13, 3) := by decide +kernel
theorem dX2_set_10 : decode cX2_set 10 = .ok (.iload_n 2, 1) := by decide +kernel
theorem dX2_set_11 : decode cX2_set 11 = .ok (.ifCond .lt 9, 3) := by decide +kernel
theorem dX2_set_14 : decode cX2_set 14 = .ok (.iload_n 2, 1) := by decide +kernel
theorem dX2_set_15 : decode cX2_set 15 = .ok (.ldc 28, 2) := by decide +kernel
theorem dX2_set_17 : decode cX2_set 17 = .ok (.if_icmp .le 5, 3) := by decide +kernel
theorem dX2_set_20 : decode cX2_set 20 = .ok (.iconst 0, 1) := by decide +kernel
theorem dX2_set_21 : decode cX2_set 21 = .ok (.ireturn, 1) := by decide +kernel
theorem dX2_set_22 : decode cX2_set 22 = .ok (.iload_n 2, 1) := by decide +kernel
theorem dX2_set_23 : decode cX2_set 23 = .ok (.ifCond .le 16, 3) := by decide +kernel
theorem dX2_set_26 : decode cX2_set 26 = .ok (.iload_n 3, 1) := by decide +kernel
theorem dX2_set_27 : decode cX2_set 27 = .ok (.ifCond .lt 10, 3) := by decide +kernel
theorem dX2_set_30 : decode cX2_set 30 = .ok (.iload_n 3, 1) := by decide +kernel
theorem dX2_set_31 : decode cX2_set 31 = .ok (.sipush 1000, 3) := by decide +kernel
theorem dX2_set_34 : decode cX2_set 34 = .ok (.if_icmp .le 5, 3) := by decide +kernel
theorem dX2_set_37 : decode cX2_set 37 = .ok (.iconst 0, 1) := by decide +kernel
theorem dX2_set_38 : decode cX2_set 38 = .ok (.ireturn, 1) := by decide +kernel
theorem dX2_set_39 : decode cX2_set 39 = .ok (.aload_n 0, 1) := by decide +kernel
theorem dX2_set_40 : decode cX2_set 40 = .ok (.getfield 11, 3) := by decide +kernel
theorem dX2_set_43 : decode cX2_set 43 = .ok (.iload_n 1, 1) := by decide +kernel
theorem dX2_set_44 : decode cX2_set 44 = .ok (.iload_n 2, 1) := by decide +kernel
theorem dX2_set_45 : decode cX2_set 45 = .ok (.iastore, 1) := by decide +kernel
theorem dX2_set_46 : decode cX2_set 46 = .ok (.aload_n 0, 1) := by decide +kernel
theorem dX2_set_47 : decode cX2_set 47 = .ok (.getfield 15, 3) := by decide +kernel
theorem dX2_set_50 : decode cX2_set 50 = .ok (.iload_n 1, 1) := by decide +kernel
theorem dX2_set_51 : decode cX2_set 51 = .ok (.iload_n 2, 1) := by decide +kernel
theorem dX2_set_52 : decode cX2_set 52 = .ok (.ifCond .le 7, 3) := by decide +kernel
theorem dX2_set_55 : decode cX2_set 55 = .ok (.iload_n 3, 1) := by decide +kernel
theorem dX2_set_56 : decode cX2_set 56 = .ok (.goto 4, 3) := by decide +kernel
theorem dX2_set_59 : decode cX2_set 59 = .ok (.iconst 0, 1) := by decide +kernel
theorem dX2_set_60 : decode cX2_set 60 = .ok (.iastore, 1) := by decide +kernel
theorem dX2_set_61 : decode cX2_set 61 = .ok (.iconst 1, 1) := by decide +kernel
theorem dX2_set_62 : decode cX2_set 62 = .ok (.ireturn, 1) := by decide +kernel
theorem dX2_setCopying_0 : decode cX2_setCopying 0 = .ok (.iload_n 1, 1) := by decide +kernel
theorem dX2_setCopying_1 : decode cX2_setCopying 1 = .ok (.sipush 900, 3) := by decide +kernel
theorem dX2_setCopying_4 : decode cX2_setCopying 4 = .ok (.if_icmp .lt 31, 3) := by decide +kernel
theorem dX2_setCopying_7 : decode cX2_setCopying 7 = .ok (.iload_n 1, 1) := by decide +kernel
theorem dX2_setCopying_8 : decode cX2_setCopying 8 = .ok (.sipush 1000, 3) := by decide +kernel
theorem dX2_setCopying_11 : decode cX2_setCopying 11 = .ok (.if_icmp .gt 24, 3) := by decide +kernel
theorem dX2_setCopying_14 : decode cX2_setCopying 14 = .ok (.iload_n 2, 1) := by decide +kernel
theorem dX2_setCopying_15 : decode cX2_setCopying 15 = .ok (.ifCond .lt 20, 3) := by decide +kernel
theorem dX2_setCopying_18 : decode cX2_setCopying 18 = .ok (.iload_n 2, 1) := by decide +kernel
theorem dX2_setCopying_19 : decode cX2_setCopying 19 = .ok (.sipush 1000, 3) := by decide +kernel
theorem dX2_setCopying_22 : decode cX2_setCopying 22 = .ok (.if_icmp .gt 13, 3) := by decide +kernel
theorem dX2_setCopying_25 : decode cX2_setCopying 25 = .ok (.iload_n 3, 1) := by decide +kernel
theorem dX2_setCopying_26 : decode cX2_setCopying 26 = .ok (.ifCond .lt 9, 3) := by decide +kernel
theorem dX2_setCopying_29 : decode cX2_setCopying 29 = .ok (.iload_n 3, 1) := by decide +kernel
theorem dX2_setCopying_30 : decode cX2_setCopying 30 = .ok (.ldc 28, 2) := by decide +kernel
theorem dX2_setCopying_32 : decode cX2_setCopying 32 = .ok (.if_icmp .le 5, 3) := by decide +kernel
theorem dX2_setCopying_35 : decode cX2_setCopying 35 = .ok (.iconst 0, 1) := by decide +kernel
theorem dX2_setCopying_36 : decode cX2_setCopying 36 = .ok (.ireturn, 1) := by decide +kernel
theorem dX2_setCopying_37 : decode cX2_setCopying 37 = .ok (.aload_n 0, 1) := by decide +kernel
theorem dX2_setCopying_38 : decode cX2_setCopying 38 = .ok (.iload_n 1, 1) := by decide +kernel
theorem dX2_setCopying_39 : decode cX2_setCopying 39 = .ok (.putfield 18, 3) := by decide +kernel
theorem dX2_setCopying_42 : decode cX2_setCopying 42 = .ok (.aload_n 0, 1) := by decide +kernel
theorem dX2_setCopying_43 : decode cX2_setCopying 43 = .ok (.iload_n 2, 1) := by decide +kernel
theorem dX2_setCopying_44 : decode cX2_setCopying 44 = .ok (.putfield 22, 3) := by decide +kernel
theorem dX2_setCopying_47 : decode cX2_setCopying 47 = .ok (.aload_n 0, 1) := by decide +kernel
theorem dX2_setCopying_48 : decode cX2_setCopying 48 = .ok (.iload_n 3, 1) := by decide +kernel
theorem dX2_setCopying_49 : decode cX2_setCopying 49 = .ok (.putfield 25, 3) := by decide +kernel
theorem dX2_setCopying_52 : decode cX2_setCopying 52 = .ok (.iconst 1, 1) := by decide +kernel
theorem dX2_setCopying_53 : decode cX2_setCopying 53 = .ok (.ireturn, 1) := by decide +kernel
theorem dX2_motherOf_0 : decode cX2_motherOf 0 = .ok (.iconst (-1), 1) := by decide +kernel
theorem dX2_motherOf_1 : decode cX2_motherOf 1 = .ok (.istore_n 2, 1) := by decide +kernel
theorem dX2_motherOf_2 : decode cX2_motherOf 2 = .ok (.aload_n 0, 1) := by decide +kernel
theorem dX2_motherOf_3 : decode cX2_motherOf 3 = .ok (.getfield 25, 3) := by decide +kernel
theorem dX2_motherOf_6 : decode cX2_motherOf 6 = .ok (.iconst 1, 1) := by decide +kernel
theorem dX2_motherOf_7 : decode cX2_motherOf 7 = .ok (.iadd, 1) := by decide +kernel
theorem dX2_motherOf_8 : decode cX2_motherOf 8 = .ok (.istore_n 3, 1) := by decide +kernel
theorem dX2_motherOf_9 : decode cX2_motherOf 9 = .ok (.iconst 0, 1) := by decide +kernel
theorem dX2_motherOf_10 : decode cX2_motherOf 10 = .ok (.istore 4, 2) := by decide +kernel
theorem dX2_motherOf_12 : decode cX2_motherOf 12 = .ok (.iload 4, 2) := by decide +kernel
theorem dX2_motherOf_14 : decode cX2_motherOf 14 = .ok (.bipush 12, 2) := by decide +kernel
theorem dX2_motherOf_16 : decode cX2_motherOf 16 = .ok (.if_icmp .ge 40, 3) := by decide +kernel
theorem dX2_motherOf_19 : decode cX2_motherOf 19 = .ok (.aload_n 0, 1) := by decide +kernel
theorem dX2_motherOf_20 : decode cX2_motherOf 20 = .ok (.iload 4, 2) := by decide +kernel
theorem dX2_motherOf_22 : decode cX2_motherOf 22 = .ok (.iload_n 1, 1) := by decide +kernel
theorem dX2_motherOf_23 : decode cX2_motherOf 23 = .ok (.invokevirtual 29, 3) := by decide +kernel
theorem dX2_motherOf_26 : decode cX2_motherOf 26 = .ok (.ifCond .eq 24, 3) := by decide +kernel
theorem dX2_motherOf_29 : decode cX2_motherOf 29 = .ok (.aload_n 0, 1) := by decide +kernel
theorem dX2_motherOf_30 : decode cX2_motherOf 30 = .ok (.iload_n 1, 1) := by decide +kernel
theorem dX2_motherOf_31 : decode cX2_motherOf 31 = .ok (.iload 4, 2) := by decide +kernel
theorem dX2_motherOf_33 : decode cX2_motherOf 33 = .ok (.invokevirtual 33, 3) := by decide +kernel
theorem dX2_motherOf_36 : decode cX2_motherOf 36 = .ok (.istore 5, 2) := by decide +kernel
theorem dX2_motherOf_38 : decode cX2_motherOf 38 = .ok (.iload 5, 2) := by decide +kernel
theorem dX2_motherOf_40 : decode cX2_motherOf 40 = .ok (.iload_n 3, 1) := by decide +kernel
theorem dX2_motherOf_41 : decode cX2_motherOf 41 = .ok (.if_icmp .ge 9, 3) := by decide +kernel
theorem dX2_motherOf_44 : decode cX2_motherOf 44 = .ok (.iload 5, 2) := by decide +kernel
theorem dX2_motherOf_46 : decode cX2_motherOf 46 = .ok (.istore_n 3, 1) := by decide +kernel
theorem dX2_motherOf_47 : decode cX2_motherOf 47 = .ok (.iload 4, 2) := by decide +kernel
theorem dX2_motherOf_49 : decode cX2_motherOf 49 = .ok (.istore_n 2, 1) := by decide +kernel
theorem dX2_motherOf_50 : decode cX2_motherOf 50 = .ok (.iinc 4 1, 3) := by decide +kernel
theorem dX2_motherOf_53 : decode cX2_motherOf 53 = .ok (.goto (-41), 3) := by decide +kernel
theorem dX2_motherOf_56 : decode cX2_motherOf 56 = .ok (.iload_n 2, 1) := by decide +kernel
theorem dX2_motherOf_57 : decode cX2_motherOf 57 = .ok (.ireturn, 1) := by decide +kernel
theorem dX2_stepsFrom_0 : decode cX2_stepsFrom 0 = .ok (.iconst 0, 1) := by decide +kernel
theorem dX2_stepsFrom_1 : decode cX2_stepsFrom 1 = .ok (.istore_n 2, 1) := by decide +kernel
theorem dX2_stepsFrom_2 : decode cX2_stepsFrom 2 = .ok (.aload_n 0, 1) := by decide +kernel
theorem dX2_stepsFrom_3 : decode cX2_stepsFrom 3 = .ok (.iload_n 1, 1) := by decide +kernel
theorem dX2_stepsFrom_4 : decode cX2_stepsFrom 4 = .ok (.invokevirtual 37, 3) := by decide +kernel
theorem dX2_stepsFrom_7 : decode cX2_stepsFrom 7 = .ok (.istore_n 3, 1) := by decide +kernel
theorem dX2_stepsFrom_8 : decode cX2_stepsFrom 8 = .ok (.iconst 0, 1) := by decide +kernel
theorem dX2_stepsFrom_9 : decode cX2_stepsFrom 9 = .ok (.istore 4, 2) := by decide +kernel
theorem dX2_stepsFrom_11 : decode cX2_stepsFrom 11 = .ok (.iload 4, 2) := by decide +kernel
theorem dX2_stepsFrom_13 : decode cX2_stepsFrom 13 = .ok (.bipush 12, 2) := by decide +kernel
theorem dX2_stepsFrom_15 : decode cX2_stepsFrom 15 = .ok (.if_icmp .ge 23, 3) := by decide +kernel
theorem dX2_stepsFrom_18 : decode cX2_stepsFrom 18 = .ok (.iload_n 3, 1) := by decide +kernel
theorem dX2_stepsFrom_19 : decode cX2_stepsFrom 19 = .ok (.iconst (-1), 1) := by decide +kernel
theorem dX2_stepsFrom_20 : decode cX2_stepsFrom 20 = .ok (.if_icmp .eq 18, 3) := by decide +kernel
theorem dX2_stepsFrom_23 : decode cX2_stepsFrom 23 = .ok (.iinc 2 1, 3) := by decide +kernel
theorem dX2_stepsFrom_26 : decode cX2_stepsFrom 26 = .ok (.aload_n 0, 1) := by decide +kernel
theorem dX2_stepsFrom_27 : decode cX2_stepsFrom 27 = .ok (.iload_n 3, 1) := by decide +kernel
theorem dX2_stepsFrom_28 : decode cX2_stepsFrom 28 = .ok (.invokevirtual 37, 3) := by decide +kernel
theorem dX2_stepsFrom_31 : decode cX2_stepsFrom 31 = .ok (.istore_n 3, 1) := by decide +kernel
theorem dX2_stepsFrom_32 : decode cX2_stepsFrom 32 = .ok (.iinc 4 1, 3) := by decide +kernel
theorem dX2_stepsFrom_35 : decode cX2_stepsFrom 35 = .ok (.goto (-24), 3) := by decide +kernel
theorem dX2_stepsFrom_38 : decode cX2_stepsFrom 38 = .ok (.iload_n 2, 1) := by decide +kernel
theorem dX2_stepsFrom_39 : decode cX2_stepsFrom 39 = .ok (.ireturn, 1) := by decide +kernel
theorem dX2_countMotherless_0 : decode cX2_countMotherless 0 = .ok (.iconst 0, 1) := by decide +kernel
theorem dX2_countMotherless_1 : decode cX2_countMotherless 1 = .ok (.istore_n 1, 1) := by decide +kernel
theorem dX2_countMotherless_2 : decode cX2_countMotherless 2 = .ok (.iconst 0, 1) := by decide +kernel
theorem dX2_countMotherless_3 : decode cX2_countMotherless 3 = .ok (.istore_n 2, 1) := by decide +kernel
theorem dX2_countMotherless_4 : decode cX2_countMotherless 4 = .ok (.iload_n 2, 1) := by decide +kernel
theorem dX2_countMotherless_5 : decode cX2_countMotherless 5 = .ok (.bipush 12, 2) := by decide +kernel
theorem dX2_countMotherless_7 : decode cX2_countMotherless 7 = .ok (.if_icmp .ge 34, 3) := by decide +kernel
theorem dX2_countMotherless_10 : decode cX2_countMotherless 10 = .ok (.iload_n 1, 1) := by decide +kernel
theorem dX2_countMotherless_11 : decode cX2_countMotherless 11 = .ok (.aload_n 0, 1) := by decide +kernel
theorem dX2_countMotherless_12 : decode cX2_countMotherless 12 = .ok (.iload_n 2, 1) := by decide +kernel
theorem dX2_countMotherless_13 : decode cX2_countMotherless 13 = .ok (.invokevirtual 41, 3) := by decide +kernel
theorem dX2_countMotherless_16 : decode cX2_countMotherless 16 = .ok (.ifCond .eq 16, 3) := by decide +kernel
theorem dX2_countMotherless_19 : decode cX2_countMotherless 19 = .ok (.aload_n 0, 1) := by decide +kernel
theorem dX2_countMotherless_20 : decode cX2_countMotherless 20 = .ok (.iload_n 2, 1) := by decide +kernel
theorem dX2_countMotherless_21 : decode cX2_countMotherless 21 = .ok (.invokevirtual 37, 3) := by decide +kernel
theorem dX2_countMotherless_24 : decode cX2_countMotherless 24 = .ok (.iconst (-1), 1) := by decide +kernel
theorem dX2_countMotherless_25 : decode cX2_countMotherless 25 = .ok (.if_icmp .ne 7, 3) := by decide +kernel
theorem dX2_countMotherless_28 : decode cX2_countMotherless 28 = .ok (.iconst 1, 1) := by decide +kernel
theorem dX2_countMotherless_29 : decode cX2_countMotherless 29 = .ok (.goto 4, 3) := by decide +kernel
theorem dX2_countMotherless_32 : decode cX2_countMotherless 32 = .ok (.iconst 0, 1) := by decide +kernel
theorem dX2_countMotherless_33 : decode cX2_countMotherless 33 = .ok (.iadd, 1) := by decide +kernel
theorem dX2_countMotherless_34 : decode cX2_countMotherless 34 = .ok (.istore_n 1, 1) := by decide +kernel
theorem dX2_countMotherless_35 : decode cX2_countMotherless 35 = .ok (.iinc 2 1, 3) := by decide +kernel
theorem dX2_countMotherless_38 : decode cX2_countMotherless 38 = .ok (.goto (-34), 3) := by decide +kernel
theorem dX2_countMotherless_41 : decode cX2_countMotherless 41 = .ok (.iload_n 1, 1) := by decide +kernel
theorem dX2_countMotherless_42 : decode cX2_countMotherless 42 = .ok (.ireturn, 1) := by decide +kernel
theorem dX2_sumQuarrels_0 : decode cX2_sumQuarrels 0 = .ok (.iconst 0, 1) := by decide +kernel
theorem dX2_sumQuarrels_1 : decode cX2_sumQuarrels 1 = .ok (.istore_n 1, 1) := by decide +kernel
theorem dX2_sumQuarrels_2 : decode cX2_sumQuarrels 2 = .ok (.iconst 0, 1) := by decide +kernel
theorem dX2_sumQuarrels_3 : decode cX2_sumQuarrels 3 = .ok (.istore_n 2, 1) := by decide +kernel
theorem dX2_sumQuarrels_4 : decode cX2_sumQuarrels 4 = .ok (.iload_n 2, 1) := by decide +kernel
theorem dX2_sumQuarrels_5 : decode cX2_sumQuarrels 5 = .ok (.bipush 12, 2) := by decide +kernel
theorem dX2_sumQuarrels_7 : decode cX2_sumQuarrels 7 = .ok (.if_icmp .ge 33, 3) := by decide +kernel
theorem dX2_sumQuarrels_10 : decode cX2_sumQuarrels 10 = .ok (.aload_n 0, 1) := by decide +kernel
theorem dX2_sumQuarrels_11 : decode cX2_sumQuarrels 11 = .ok (.iload_n 2, 1) := by decide +kernel
theorem dX2_sumQuarrels_12 : decode cX2_sumQuarrels 12 = .ok (.invokevirtual 37, 3) := by decide +kernel
theorem dX2_sumQuarrels_15 : decode cX2_sumQuarrels 15 = .ok (.istore_n 3, 1) := by decide +kernel
theorem dX2_sumQuarrels_16 : decode cX2_sumQuarrels 16 = .ok (.iload_n 1, 1) := by decide +kernel
theorem dX2_sumQuarrels_17 : decode cX2_sumQuarrels 17 = .ok (.iload_n 3, 1) := by decide +kernel
theorem dX2_sumQuarrels_18 : decode cX2_sumQuarrels 18 = .ok (.iconst (-1), 1) := by decide +kernel
theorem dX2_sumQuarrels_19 : decode cX2_sumQuarrels 19 = .ok (.if_icmp .ne 7, 3) := by decide +kernel
theorem dX2_sumQuarrels_22 : decode cX2_sumQuarrels 22 = .ok (.iconst 0, 1) := by decide +kernel
theorem dX2_sumQuarrels_23 : decode cX2_sumQuarrels 23 = .ok (.goto 9, 3) := by decide +kernel
theorem dX2_sumQuarrels_26 : decode cX2_sumQuarrels 26 = .ok (.aload_n 0, 1) := by decide +kernel
theorem dX2_sumQuarrels_27 : decode cX2_sumQuarrels 27 = .ok (.iload_n 2, 1) := by decide +kernel
theorem dX2_sumQuarrels_28 : decode cX2_sumQuarrels 28 = .ok (.iload_n 3, 1) := by decide +kernel
theorem dX2_sumQuarrels_29 : decode cX2_sumQuarrels 29 = .ok (.invokevirtual 33, 3) := by decide +kernel
theorem dX2_sumQuarrels_32 : decode cX2_sumQuarrels 32 = .ok (.iadd, 1) := by decide +kernel
theorem dX2_sumQuarrels_33 : decode cX2_sumQuarrels 33 = .ok (.istore_n 1, 1) := by decide +kernel
theorem dX2_sumQuarrels_34 : decode cX2_sumQuarrels 34 = .ok (.iinc 2 1, 3) := by decide +kernel
theorem dX2_sumQuarrels_37 : decode cX2_sumQuarrels 37 = .ok (.goto (-33), 3) := by decide +kernel
theorem dX2_sumQuarrels_40 : decode cX2_sumQuarrels 40 = .ok (.iload_n 1, 1) := by decide +kernel
theorem dX2_sumQuarrels_41 : decode cX2_sumQuarrels 41 = .ok (.ireturn, 1) := by decide +kernel
theorem dX2_canBeMother_0 : decode cX2_canBeMother 0 = .ok (.aload_n 0, 1) := by decide +kernel
theorem dX2_canBeMother_1 : decode cX2_canBeMother 1 = .ok (.iload_n 1, 1) := by decide +kernel
theorem dX2_canBeMother_2 : decode cX2_canBeMother 2 = .ok (.invokevirtual 41, 3) := by decide +kernel
theorem dX2_canBeMother_5 : decode cX2_canBeMother 5 = .ok (.ifCond .eq 60, 3) := by decide +kernel
theorem dX2_canBeMother_8 : decode cX2_canBeMother 8 = .ok (.aload_n 0, 1) := by decide +kernel
theorem dX2_canBeMother_9 : decode cX2_canBeMother 9 = .ok (.iload_n 2, 1) := by decide +kernel
theorem dX2_canBeMother_10 : decode cX2_canBeMother 10 = .ok (.invokevirtual 41, 3) := by decide +kernel
theorem dX2_canBeMother_13 : decode cX2_canBeMother 13 = .ok (.ifCond .eq 52, 3) := by decide +kernel
theorem dX2_canBeMother_16 : decode cX2_canBeMother 16 = .ok (.aload_n 0, 1) := by decide +kernel
theorem dX2_canBeMother_17 : decode cX2_canBeMother 17 = .ok (.getfield 11, 3) := by decide +kernel
theorem dX2_canBeMother_20 : decode cX2_canBeMother 20 = .ok (.iload_n 1, 1) := by decide +kernel
theorem dX2_canBeMother_21 : decode cX2_canBeMother 21 = .ok (.iaload, 1) := by decide +kernel
theorem dX2_canBeMother_22 : decode cX2_canBeMother 22 = .ok (.aload_n 0, 1) := by decide +kernel
theorem dX2_canBeMother_23 : decode cX2_canBeMother 23 = .ok (.getfield 11, 3) := by decide +kernel
theorem dX2_canBeMother_26 : decode cX2_canBeMother 26 = .ok (.iload_n 2, 1) := by decide +kernel
theorem dX2_canBeMother_27 : decode cX2_canBeMother 27 = .ok (.iaload, 1) := by decide +kernel
theorem dX2_canBeMother_28 : decode cX2_canBeMother 28 = .ok (.if_icmp .gt 33, 3) := by decide +kernel
theorem dX2_canBeMother_31 : decode cX2_canBeMother 31 = .ok (.aload_n 0, 1) := by decide +kernel
theorem dX2_canBeMother_32 : decode cX2_canBeMother 32 = .ok (.getfield 11, 3) := by decide +kernel
theorem dX2_canBeMother_35 : decode cX2_canBeMother 35 = .ok (.iload_n 1, 1) := by decide +kernel
theorem dX2_canBeMother_36 : decode cX2_canBeMother 36 = .ok (.iaload, 1) := by decide +kernel
theorem dX2_canBeMother_37 : decode cX2_canBeMother 37 = .ok (.aload_n 0, 1) := by decide +kernel
theorem dX2_canBeMother_38 : decode cX2_canBeMother 38 = .ok (.getfield 11, 3) := by decide +kernel
theorem dX2_canBeMother_41 : decode cX2_canBeMother 41 = .ok (.iload_n 2, 1) := by decide +kernel
theorem dX2_canBeMother_42 : decode cX2_canBeMother 42 = .ok (.iaload, 1) := by decide +kernel
theorem dX2_canBeMother_43 : decode cX2_canBeMother 43 = .ok (.if_icmp .ne 22, 3) := by decide +kernel
theorem dX2_canBeMother_46 : decode cX2_canBeMother 46 = .ok (.aload_n 0, 1) := by decide +kernel
theorem dX2_canBeMother_47 : decode cX2_canBeMother 47 = .ok (.getfield 15, 3) := by decide +kernel
theorem dX2_canBeMother_50 : decode cX2_canBeMother 50 = .ok (.iload_n 1, 1) := by decide +kernel
theorem dX2_canBeMother_51 : decode cX2_canBeMother 51 = .ok (.iaload, 1) := by decide +kernel
theorem dX2_canBeMother_52 : decode cX2_canBeMother 52 = .ok (.aload_n 0, 1) := by decide +kernel
theorem dX2_canBeMother_53 : decode cX2_canBeMother 53 = .ok (.getfield 15, 3) := by decide +kernel
theorem dX2_canBeMother_56 : decode cX2_canBeMother 56 = .ok (.iload_n 2, 1) := by decide +kernel
theorem dX2_canBeMother_57 : decode cX2_canBeMother 57 = .ok (.iaload, 1) := by decide +kernel
theorem dX2_canBeMother_58 : decode cX2_canBeMother 58 = .ok (.if_icmp .le 7, 3) := by decide +kernel
theorem dX2_canBeMother_61 : decode cX2_canBeMother 61 = .ok (.iconst 1, 1) := by decide +kernel
theorem dX2_canBeMother_62 : decode cX2_canBeMother 62 = .ok (.goto 4, 3) := by decide +kernel
theorem dX2_canBeMother_65 : decode cX2_canBeMother 65 = .ok (.iconst 0, 1) := by decide +kernel
theorem dX2_canBeMother_66 : decode cX2_canBeMother 66 = .ok (.ireturn, 1) := by decide +kernel
theorem dX2_quarrelOf_0 : decode cX2_quarrelOf 0 = .ok (.aload_n 0, 1) := by decide +kernel
theorem dX2_quarrelOf_1 : decode cX2_quarrelOf 1 = .ok (.iload_n 1, 1) := by decide +kernel
theorem dX2_quarrelOf_2 : decode cX2_quarrelOf 2 = .ok (.invokevirtual 41, 3) := by decide +kernel
theorem dX2_quarrelOf_5 : decode cX2_quarrelOf 5 = .ok (.ifCond .eq 11, 3) := by decide +kernel
theorem dX2_quarrelOf_8 : decode cX2_quarrelOf 8 = .ok (.aload_n 0, 1) := by decide +kernel
theorem dX2_quarrelOf_9 : decode cX2_quarrelOf 9 = .ok (.iload_n 2, 1) := by decide +kernel
theorem dX2_quarrelOf_10 : decode cX2_quarrelOf 10 = .ok (.invokevirtual 41, 3) := by decide +kernel
theorem dX2_quarrelOf_13 : decode cX2_quarrelOf 13 = .ok (.ifCond .ne 5, 3) := by decide +kernel
theorem dX2_quarrelOf_16 : decode cX2_quarrelOf 16 = .ok (.iconst 0, 1) := by decide +kernel
theorem dX2_quarrelOf_17 : decode cX2_quarrelOf 17 = .ok (.ireturn, 1) := by decide +kernel
theorem dX2_quarrelOf_18 : decode cX2_quarrelOf 18 = .ok (.aload_n 0, 1) := by decide +kernel
theorem dX2_quarrelOf_19 : decode cX2_quarrelOf 19 = .ok (.getfield 11, 3) := by decide +kernel
theorem dX2_quarrelOf_22 : decode cX2_quarrelOf 22 = .ok (.iload_n 1, 1) := by decide +kernel
theorem dX2_quarrelOf_23 : decode cX2_quarrelOf 23 = .ok (.iaload, 1) := by decide +kernel
theorem dX2_quarrelOf_24 : decode cX2_quarrelOf 24 = .ok (.aload_n 0, 1) := by decide +kernel
theorem dX2_quarrelOf_25 : decode cX2_quarrelOf 25 = .ok (.getfield 11, 3) := by decide +kernel
theorem dX2_quarrelOf_28 : decode cX2_quarrelOf 28 = .ok (.iload_n 2, 1) := by decide +kernel
theorem dX2_quarrelOf_29 : decode cX2_quarrelOf 29 = .ok (.iaload, 1) := by decide +kernel
theorem dX2_quarrelOf_30 : decode cX2_quarrelOf 30 = .ok (.aload_n 0, 1) := by decide +kernel
theorem dX2_quarrelOf_31 : decode cX2_quarrelOf 31 = .ok (.getfield 18, 3) := by decide +kernel
theorem dX2_quarrelOf_34 : decode cX2_quarrelOf 34 = .ok (.imul, 1) := by decide +kernel
theorem dX2_quarrelOf_35 : decode cX2_quarrelOf 35 = .ok (.sipush 1000, 3) := by decide +kernel
theorem dX2_quarrelOf_38 : decode cX2_quarrelOf 38 = .ok (.idiv, 1) := by decide +kernel
theorem dX2_quarrelOf_39 : decode cX2_quarrelOf 39 = .ok (.isub, 1) := by decide +kernel
theorem dX2_quarrelOf_40 : decode cX2_quarrelOf 40 = .ok (.invokestatic 45, 3) := by decide +kernel
theorem dX2_quarrelOf_43 : decode cX2_quarrelOf 43 = .ok (.istore_n 3, 1) := by decide +kernel
theorem dX2_quarrelOf_44 : decode cX2_quarrelOf 44 = .ok (.aload_n 0, 1) := by decide +kernel
theorem dX2_quarrelOf_45 : decode cX2_quarrelOf 45 = .ok (.getfield 15, 3) := by decide +kernel
theorem dX2_quarrelOf_48 : decode cX2_quarrelOf 48 = .ok (.iload_n 1, 1) := by decide +kernel
theorem dX2_quarrelOf_49 : decode cX2_quarrelOf 49 = .ok (.iaload, 1) := by decide +kernel
theorem dX2_quarrelOf_50 : decode cX2_quarrelOf 50 = .ok (.aload_n 0, 1) := by decide +kernel
theorem dX2_quarrelOf_51 : decode cX2_quarrelOf 51 = .ok (.getfield 15, 3) := by decide +kernel
theorem dX2_quarrelOf_54 : decode cX2_quarrelOf 54 = .ok (.iload_n 2, 1) := by decide +kernel
theorem dX2_quarrelOf_55 : decode cX2_quarrelOf 55 = .ok (.iaload, 1) := by decide +kernel
theorem dX2_quarrelOf_56 : decode cX2_quarrelOf 56 = .ok (.aload_n 0, 1) := by decide +kernel
theorem dX2_quarrelOf_57 : decode cX2_quarrelOf 57 = .ok (.getfield 22, 3) := by decide +kernel
theorem dX2_quarrelOf_60 : decode cX2_quarrelOf 60 = .ok (.imul, 1) := by decide +kernel
theorem dX2_quarrelOf_61 : decode cX2_quarrelOf 61 = .ok (.sipush 1000, 3) := by decide +kernel
theorem dX2_quarrelOf_64 : decode cX2_quarrelOf 64 = .ok (.idiv, 1) := by decide +kernel
theorem dX2_quarrelOf_65 : decode cX2_quarrelOf 65 = .ok (.isub, 1) := by decide +kernel
theorem dX2_quarrelOf_66 : decode cX2_quarrelOf 66 = .ok (.invokestatic 45, 3) := by decide +kernel
theorem dX2_quarrelOf_69 : decode cX2_quarrelOf 69 = .ok (.istore 4, 2) := by decide +kernel
theorem dX2_quarrelOf_71 : decode cX2_quarrelOf 71 = .ok (.iload_n 3, 1) := by decide +kernel
theorem dX2_quarrelOf_72 : decode cX2_quarrelOf 72 = .ok (.iload 4, 2) := by decide +kernel
theorem dX2_quarrelOf_74 : decode cX2_quarrelOf 74 = .ok (.iadd, 1) := by decide +kernel
theorem dX2_quarrelOf_75 : decode cX2_quarrelOf 75 = .ok (.ireturn, 1) := by decide +kernel
theorem dX3_init_0 : decode cX3_init 0 = .ok (.aload_n 0, 1) := by decide +kernel
theorem dX3_init_1 : decode cX3_init 1 = .ok (.invokespecial 3, 3) := by decide +kernel
theorem dX3_init_4 : decode cX3_init 4 = .ok (.aload_n 0, 1) := by decide +kernel
theorem dX3_init_5 : decode cX3_init 5 = .ok (.sipush 1000, 3) := by decide +kernel
theorem dX3_init_8 : decode cX3_init 8 = .ok (.newarray .int, 2) := by decide +kernel
theorem dX3_init_10 : decode cX3_init 10 = .ok (.putfield 11, 3) := by decide +kernel
theorem dX3_init_13 : decode cX3_init 13 = .ok (.aload_n 0, 1) := by decide +kernel
theorem dX3_init_14 : decode cX3_init 14 = .ok (.sipush 1000, 3) := by decide +kernel
theorem dX3_init_17 : decode cX3_init 17 = .ok (.newarray .int, 2) := by decide +kernel
theorem dX3_init_19 : decode cX3_init 19 = .ok (.putfield 17, 3) := by decide +kernel
theorem dX3_init_22 : decode cX3_init 22 = .ok (.aload_n 0, 1) := by decide +kernel
theorem dX3_init_23 : decode cX3_init 23 = .ok (.aload_n 1, 1) := by decide +kernel
theorem dX3_init_24 : decode cX3_init 24 = .ok (.putfield 20, 3) := by decide +kernel
theorem dX3_init_27 : decode cX3_init 27 = .ok (.return_, 1) := by decide +kernel
theorem dX3_makeAnew_0 : decode cX3_makeAnew 0 = .ok (.aload_n 0, 1) := by decide +kernel
theorem dX3_makeAnew_1 : decode cX3_makeAnew 1 = .ok (.getfield 17, 3) := by decide +kernel
theorem dX3_makeAnew_4 : decode cX3_makeAnew 4 = .ok (.iconst 0, 1) := by decide +kernel
theorem dX3_makeAnew_5 : decode cX3_makeAnew 5 = .ok (.invokestatic 24, 3) := by decide +kernel
theorem dX3_makeAnew_8 : decode cX3_makeAnew 8 = .ok (.aload_n 0, 1) := by decide +kernel
theorem dX3_makeAnew_9 : decode cX3_makeAnew 9 = .ok (.iconst 0, 1) := by decide +kernel
theorem dX3_makeAnew_10 : decode cX3_makeAnew 10 = .ok (.putfield 30, 3) := by decide +kernel
theorem dX3_makeAnew_13 : decode cX3_makeAnew 13 = .ok (.iconst (-1), 1) := by decide +kernel
theorem dX3_makeAnew_14 : decode cX3_makeAnew 14 = .ok (.istore_n 1, 1) := by decide +kernel
theorem dX3_makeAnew_15 : decode cX3_makeAnew 15 = .ok (.iload_n 1, 1) := by decide +kernel
theorem dX3_makeAnew_16 : decode cX3_makeAnew 16 = .ok (.aload_n 0, 1) := by decide +kernel
theorem dX3_makeAnew_17 : decode cX3_makeAnew 17 = .ok (.getfield 20, 3) := by decide +kernel
theorem dX3_makeAnew_20 : decode cX3_makeAnew 20 = .ok (.getfield 34, 3) := by decide +kernel
theorem dX3_makeAnew_23 : decode cX3_makeAnew 23 = .ok (.if_icmp .gt 58, 3) := by decide +kernel
theorem dX3_makeAnew_26 : decode cX3_makeAnew 26 = .ok (.iconst (-1), 1) := by decide +kernel
theorem dX3_makeAnew_27 : decode cX3_makeAnew 27 = .ok (.istore_n 2, 1) := by decide +kernel
theorem dX3_makeAnew_28 : decode cX3_makeAnew 28 = .ok (.iload_n 2, 1) := by decide +kernel
theorem dX3_makeAnew_29 : decode cX3_makeAnew 29 = .ok (.aload_n 0, 1) := by decide +kernel
theorem dX3_makeAnew_30 : decode cX3_makeAnew 30 = .ok (.getfield 20, 3) := by decide +kernel
theorem dX3_makeAnew_33 : decode cX3_makeAnew 33 = .ok (.getfield 37, 3) := by decide +kernel
theorem dX3_makeAnew_36 : decode cX3_makeAnew 36 = .ok (.if_icmp .gt 39, 3) := by decide +kernel
theorem dX3_makeAnew_39 : decode cX3_makeAnew 39 = .ok (.iconst (-1), 1) := by decide +kernel
theorem dX3_makeAnew_40 : decode cX3_makeAnew 40 = .ok (.istore_n 3, 1) := by decide +kernel
theorem dX3_makeAnew_41 : decode cX3_makeAnew 41 = .ok (.iload_n 3, 1) := by decide +kernel
theorem dX3_makeAnew_42 : decode cX3_makeAnew 42 = .ok (.aload_n 0, 1) := by decide +kernel
theorem dX3_makeAnew_43 : decode cX3_makeAnew 43 = .ok (.getfield 20, 3) := by decide +kernel
theorem dX3_makeAnew_46 : decode cX3_makeAnew 46 = .ok (.getfield 40, 3) := by decide +kernel
theorem dX3_makeAnew_49 : decode cX3_makeAnew 49 = .ok (.if_icmp .gt 20, 3) := by decide +kernel
theorem dX3_makeAnew_52 : decode cX3_makeAnew 52 = .ok (.aload_n 0, 1) := by decide +kernel
theorem dX3_makeAnew_53 : decode cX3_makeAnew 53 = .ok (.aload_n 0, 1) := by decide +kernel
theorem dX3_makeAnew_54 : decode cX3_makeAnew 54 = .ok (.iload_n 3, 1) := by decide +kernel
theorem dX3_makeAnew_55 : decode cX3_makeAnew 55 = .ok (.iload_n 2, 1) := by decide +kernel
theorem dX3_makeAnew_56 : decode cX3_makeAnew 56 = .ok (.iload_n 1, 1) := by decide +kernel
theorem dX3_makeAnew_57 : decode cX3_makeAnew 57 = .ok (.invokevirtual 43, 3) := by decide +kernel
theorem dX3_makeAnew_60 : decode cX3_makeAnew 60 = .ok (.invokevirtual 47, 3) := by decide +kernel
theorem dX3_makeAnew_63 : decode cX3_makeAnew 63 = .ok (.iinc 3 1, 3) := by decide +kernel
theorem dX3_makeAnew_66 : decode cX3_makeAnew 66 = .ok (.goto (-25), 3) := by decide +kernel
theorem dX3_makeAnew_69 : decode cX3_makeAnew 69 = .ok (.iinc 2 1, 3) := by decide +kernel
theorem dX3_makeAnew_72 : decode cX3_makeAnew 72 = .ok (.goto (-44), 3) := by decide +kernel
theorem dX3_makeAnew_75 : decode cX3_makeAnew 75 = .ok (.iinc 1 1, 3) := by decide +kernel
theorem dX3_makeAnew_78 : decode cX3_makeAnew 78 = .ok (.goto (-63), 3) := by decide +kernel
theorem dX3_makeAnew_81 : decode cX3_makeAnew 81 = .ok (.iconst 0, 1) := by decide +kernel
theorem dX3_makeAnew_82 : decode cX3_makeAnew 82 = .ok (.istore_n 1, 1) := by decide +kernel
theorem dX3_makeAnew_83 : decode cX3_makeAnew 83 = .ok (.iload_n 1, 1) := by decide +kernel
theorem dX3_makeAnew_84 : decode cX3_makeAnew 84 = .ok (.aload_n 0, 1) := by decide +kernel
theorem dX3_makeAnew_85 : decode cX3_makeAnew 85 = .ok (.getfield 30, 3) := by decide +kernel
theorem dX3_makeAnew_88 : decode cX3_makeAnew 88 = .ok (.if_icmp .ge 19, 3) := by decide +kernel
theorem dX3_makeAnew_91 : decode cX3_makeAnew 91 = .ok (.aload_n 0, 1) := by decide +kernel
theorem dX3_makeAnew_92 : decode cX3_makeAnew 92 = .ok (.aload_n 0, 1) := by decide +kernel
theorem dX3_makeAnew_93 : decode cX3_makeAnew 93 = .ok (.getfield 11, 3) := by decide +kernel
theorem dX3_makeAnew_96 : decode cX3_makeAnew 96 = .ok (.iload_n 1, 1) := by decide +kernel
theorem dX3_makeAnew_97 : decode cX3_makeAnew 97 = .ok (.iaload, 1) := by decide +kernel
theorem dX3_makeAnew_98 : decode cX3_makeAnew 98 = .ok (.invokevirtual 51, 3) := by decide +kernel
theorem dX3_makeAnew_101 : decode cX3_makeAnew 101 = .ok (.iinc 1 1, 3) := by decide +kernel
theorem dX3_makeAnew_104 : decode cX3_makeAnew 104 = .ok (.goto (-21), 3) := by decide +kernel
theorem dX3_makeAnew_107 : decode cX3_makeAnew 107 = .ok (.return_, 1) := by decide +kernel
theorem dX3_size_0 : decode cX3_size 0 = .ok (.aload_n 0, 1) := by decide +kernel
theorem dX3_size_1 : decode cX3_size 1 = .ok (.getfield 30, 3) := by decide +kernel
theorem dX3_size_4 : decode cX3_size 4 = .ok (.ireturn, 1) := by decide +kernel
theorem dX3_member_0 : decode cX3_member 0 = .ok (.iload_n 1, 1) := by decide +kernel
theorem dX3_member_1 : decode cX3_member 1 = .ok (.ifCond .lt 20, 3) := by decide +kernel
theorem dX3_member_4 : decode cX3_member 4 = .ok (.iload_n 1, 1) := by decide +kernel
theorem dX3_member_5 : decode cX3_member 5 = .ok (.aload_n 0, 1) := by decide +kernel
theorem dX3_member_6 : decode cX3_member 6 = .ok (.getfield 30, 3) := by decide +kernel
theorem dX3_member_9 : decode cX3_member 9 = .ok (.if_icmp .ge 12, 3) := by decide +kernel
theorem dX3_member_12 : decode cX3_member 12 = .ok (.aload_n 0, 1) := by decide +kernel
theorem dX3_member_13 : decode cX3_member 13 = .ok (.getfield 11, 3) := by decide +kernel
theorem dX3_member_16 : decode cX3_member 16 = .ok (.iload_n 1, 1) := by decide +kernel
theorem dX3_member_17 : decode cX3_member 17 = .ok (.iaload, 1) := by decide +kernel
theorem dX3_member_18 : decode cX3_member 18 = .ok (.goto 4, 3) := by decide +kernel
theorem dX3_member_21 : decode cX3_member 21 = .ok (.iconst (-1), 1) := by decide +kernel
theorem dX3_member_22 : decode cX3_member 22 = .ok (.ireturn, 1) := by decide +kernel
theorem dX3_cellAt_0 : decode cX3_cellAt 0 = .ok (.aload_n 0, 1) := by decide +kernel
theorem dX3_cellAt_1 : decode cX3_cellAt 1 = .ok (.getfield 20, 3) := by decide +kernel
theorem dX3_cellAt_4 : decode cX3_cellAt 4 = .ok (.iload_n 1, 1) := by decide +kernel
theorem dX3_cellAt_5 : decode cX3_cellAt 5 = .ok (.iload_n 2, 1) := by decide +kernel
theorem dX3_cellAt_6 : decode cX3_cellAt 6 = .ok (.iload_n 3, 1) := by decide +kernel
theorem dX3_cellAt_7 : decode cX3_cellAt 7 = .ok (.iconst 1, 1) := by decide +kernel
theorem dX3_cellAt_8 : decode cX3_cellAt 8 = .ok (.invokevirtual 54, 3) := by decide +kernel
theorem dX3_cellAt_11 : decode cX3_cellAt 11 = .ok (.ifCond .ne 5, 3) := by decide +kernel
theorem dX3_cellAt_14 : decode cX3_cellAt 14 = .ok (.iconst (-1), 1) := by decide +kernel
theorem dX3_cellAt_15 : decode cX3_cellAt 15 = .ok (.ireturn, 1) := by decide +kernel
theorem dX3_cellAt_16 : decode cX3_cellAt 16 = .ok (.iload_n 1, 1) := by decide +kernel
theorem dX3_cellAt_17 : decode cX3_cellAt 17 = .ok (.iload_n 2, 1) := by decide +kernel
theorem dX3_cellAt_18 : decode cX3_cellAt 18 = .ok (.iload_n 3, 1) := by decide +kernel
theorem dX3_cellAt_19 : decode cX3_cellAt 19 = .ok (.invokestatic 58, 3) := by decide +kernel
theorem dX3_cellAt_22 : decode cX3_cellAt 22 = .ok (.istore 4, 2) := by decide +kernel
theorem dX3_cellAt_24 : decode cX3_cellAt 24 = .ok (.aload_n 0, 1) := by decide +kernel
theorem dX3_cellAt_25 : decode cX3_cellAt 25 = .ok (.getfield 20, 3) := by decide +kernel
theorem dX3_cellAt_28 : decode cX3_cellAt 28 = .ok (.iload 4, 2) := by decide +kernel
theorem dX3_cellAt_30 : decode cX3_cellAt 30 = .ok (.invokevirtual 61, 3) := by decide +kernel
theorem dX3_cellAt_33 : decode cX3_cellAt 33 = .ok (.ifCond .eq 7, 3) := by decide +kernel
theorem dX3_cellAt_36 : decode cX3_cellAt 36 = .ok (.iconst (-1), 1) := by decide +kernel
theorem dX3_cellAt_37 : decode cX3_cellAt 37 = .ok (.goto 5, 3) := by decide +kernel
theorem dX3_cellAt_40 : decode cX3_cellAt 40 = .ok (.iload 4, 2) := by decide +kernel
theorem dX3_cellAt_42 : decode cX3_cellAt 42 = .ok (.ireturn, 1) := by decide +kernel
theorem dX3_freeWays_0 : decode cX3_freeWays 0 = .ok (.iload_n 1, 1) := by decide +kernel
theorem dX3_freeWays_1 : decode cX3_freeWays 1 = .ok (.ifCond .lt 19, 3) := by decide +kernel
theorem dX3_freeWays_4 : decode cX3_freeWays 4 = .ok (.iload_n 1, 1) := by decide +kernel
theorem dX3_freeWays_5 : decode cX3_freeWays 5 = .ok (.sipush 1000, 3) := by decide +kernel
theorem dX3_freeWays_8 : decode cX3_freeWays 8 = .ok (.if_icmp .ge 12, 3) := by decide +kernel
theorem dX3_freeWays_11 : decode cX3_freeWays 11 = .ok (.aload_n 0, 1) := by decide +kernel
theorem dX3_freeWays_12 : decode cX3_freeWays 12 = .ok (.getfield 17, 3) := by decide +kernel
theorem dX3_freeWays_15 : decode cX3_freeWays 15 = .ok (.iload_n 1, 1) := by decide +kernel
theorem dX3_freeWays_16 : decode cX3_freeWays 16 = .ok (.iaload, 1) := by decide +kernel
theorem dX3_freeWays_17 : decode cX3_freeWays 17 = .ok (.goto 4, 3) := by decide +kernel
theorem dX3_freeWays_20 : decode cX3_freeWays 20 = .ok (.iconst 0, 1) := by decide +kernel
theorem dX3_freeWays_21 : decode cX3_freeWays 21 = .ok (.ireturn, 1) := by decide +kernel
theorem dX3_countShut_0 : decode cX3_countShut 0 = .ok (.iconst 0, 1) := by decide +kernel
theorem dX3_countShut_1 : decode cX3_countShut 1 = .ok (.istore_n 1, 1) := by decide +kernel
theorem dX3_countShut_2 : decode cX3_countShut 2 = .ok (.iconst 0, 1) := by decide +kernel
theorem dX3_countShut_3 : decode cX3_countShut 3 = .ok (.istore_n 2, 1) := by decide +kernel
theorem dX3_countShut_4 : decode cX3_countShut 4 = .ok (.iload_n 2, 1) := by decide +kernel
theorem dX3_countShut_5 : decode cX3_countShut 5 = .ok (.aload_n 0, 1) := by decide +kernel
theorem dX3_countShut_6 : decode cX3_countShut 6 = .ok (.getfield 30, 3) := by decide +kernel
theorem dX3_countShut_9 : decode cX3_countShut 9 = .ok (.if_icmp .ge 30, 3) := by decide +kernel
theorem dX3_countShut_12 : decode cX3_countShut 12 = .ok (.iload_n 1, 1) := by decide +kernel
theorem dX3_countShut_13 : decode cX3_countShut 13 = .ok (.aload_n 0, 1) := by decide +kernel
theorem dX3_countShut_14 : decode cX3_countShut 14 = .ok (.aload_n 0, 1) := by decide +kernel
theorem dX3_countShut_15 : decode cX3_countShut 15 = .ok (.getfield 11, 3) := by decide +kernel
theorem dX3_countShut_18 : decode cX3_countShut 18 = .ok (.iload_n 2, 1) := by decide +kernel
theorem dX3_countShut_19 : decode cX3_countShut 19 = .ok (.iaload, 1) := by decide +kernel
theorem dX3_countShut_20 : decode cX3_countShut 20 = .ok (.invokevirtual 65, 3) := by decide +kernel
theorem dX3_countShut_23 : decode cX3_countShut 23 = .ok (.ifCond .ne 7, 3) := by decide +kernel
theorem dX3_countShut_26 : decode cX3_countShut 26 = .ok (.iconst 1, 1) := by decide +kernel
theorem dX3_countShut_27 : decode cX3_countShut 27 = .ok (.goto 4, 3) := by decide +kernel
theorem dX3_countShut_30 : decode cX3_countShut 30 = .ok (.iconst 0, 1) := by decide +kernel
theorem dX3_countShut_31 : decode cX3_countShut 31 = .ok (.iadd, 1) := by decide +kernel
theorem dX3_countShut_32 : decode cX3_countShut 32 = .ok (.istore_n 1, 1) := by decide +kernel
theorem dX3_countShut_33 : decode cX3_countShut 33 = .ok (.iinc 2 1, 3) := by decide +kernel
theorem dX3_countShut_36 : decode cX3_countShut 36 = .ok (.goto (-32), 3) := by decide +kernel
theorem dX3_countShut_39 : decode cX3_countShut 39 = .ok (.iload_n 1, 1) := by decide +kernel
theorem dX3_countShut_40 : decode cX3_countShut 40 = .ok (.ireturn, 1) := by decide +kernel
theorem dX3_beside_0 : decode cX3_beside 0 = .ok (.iload_n 1, 1) := by decide +kernel
theorem dX3_beside_1 : decode cX3_beside 1 = .ok (.ifCond .ge 5, 3) := by decide +kernel
theorem dX3_beside_4 : decode cX3_beside 4 = .ok (.iconst (-1), 1) := by decide +kernel
theorem dX3_beside_5 : decode cX3_beside 5 = .ok (.ireturn, 1) := by decide +kernel
theorem dX3_beside_6 : decode cX3_beside 6 = .ok (.iload_n 2, 1) := by decide +kernel
theorem dX3_beside_7 : decode cX3_beside 7 = .ok (.tableswitch 158 0 5 #[37, 59, 74, 100, 119, 142], 37) := by decide +kernel
theorem dX3_beside_44 : decode cX3_beside 44 = .ok (.iload_n 1, 1) := by decide +kernel
theorem dX3_beside_45 : decode cX3_beside 45 = .ok (.bipush 10, 2) := by decide +kernel
theorem dX3_beside_47 : decode cX3_beside 47 = .ok (.irem, 1) := by decide +kernel
theorem dX3_beside_48 : decode cX3_beside 48 = .ok (.aload_n 0, 1) := by decide +kernel
theorem dX3_beside_49 : decode cX3_beside 49 = .ok (.getfield 20, 3) := by decide +kernel
theorem dX3_beside_52 : decode cX3_beside 52 = .ok (.getfield 40, 3) := by decide +kernel
theorem dX3_beside_55 : decode cX3_beside 55 = .ok (.if_icmp .gt 9, 3) := by decide +kernel
theorem dX3_beside_58 : decode cX3_beside 58 = .ok (.iload_n 1, 1) := by decide +kernel
theorem dX3_beside_59 : decode cX3_beside 59 = .ok (.iconst 1, 1) := by decide +kernel
theorem dX3_beside_60 : decode cX3_beside 60 = .ok (.iadd, 1) := by decide +kernel
theorem dX3_beside_61 : decode cX3_beside 61 = .ok (.goto 4, 3) := by decide +kernel
theorem dX3_beside_64 : decode cX3_beside 64 = .ok (.iconst (-1), 1) := by decide +kernel
theorem dX3_beside_65 : decode cX3_beside 65 = .ok (.ireturn, 1) := by decide +kernel
theorem dX3_beside_66 : decode cX3_beside 66 = .ok (.iload_n 1, 1) := by decide +kernel
theorem dX3_beside_67 : decode cX3_beside 67 = .ok (.bipush 10, 2) := by decide +kernel
theorem dX3_beside_69 : decode cX3_beside 69 = .ok (.irem, 1) := by decide +kernel
theorem dX3_beside_70 : decode cX3_beside 70 = .ok (.ifCond .le 9, 3) := by decide +kernel
theorem dX3_beside_73 : decode cX3_beside 73 = .ok (.iload_n 1, 1) := by decide +kernel
theorem dX3_beside_74 : decode cX3_beside 74 = .ok (.iconst 1, 1) := by decide +kernel
theorem dX3_beside_75 : decode cX3_beside 75 = .ok (.isub, 1) := by decide +kernel
theorem dX3_beside_76 : decode cX3_beside 76 = .ok (.goto 4, 3) := by decide +kernel
theorem dX3_beside_79 : decode cX3_beside 79 = .ok (.iconst (-1), 1) := by decide +kernel
theorem dX3_beside_80 : decode cX3_beside 80 = .ok (.ireturn, 1) := by decide +kernel
theorem dX3_beside_81 : decode cX3_beside 81 = .ok (.iload_n 1, 1) := by decide +kernel
theorem dX3_beside_82 : decode cX3_beside 82 = .ok (.bipush 10, 2) := by decide +kernel
theorem dX3_beside_84 : decode cX3_beside 84 = .ok (.idiv, 1) := by decide +kernel
theorem dX3_beside_85 : decode cX3_beside 85 = .ok (.bipush 10, 2) := by decide +kernel
theorem dX3_beside_87 : decode cX3_beside 87 = .ok (.irem, 1) := by decide +kernel
theorem dX3_beside_88 : decode cX3_beside 88 = .ok (.aload_n 0, 1) := by decide +kernel
theorem dX3_beside_89 : decode cX3_beside 89 = .ok (.getfield 20, 3) := by decide +kernel
theorem dX3_beside_92 : decode cX3_beside 92 = .ok (.getfield 37, 3) := by decide +kernel
theorem dX3_beside_95 : decode cX3_beside 95 = .ok (.if_icmp .gt 10, 3) := by decide +kernel
theorem dX3_beside_98 : decode cX3_beside 98 = .ok (.iload_n 1, 1) := by decide +kernel
theorem dX3_beside_99 : decode cX3_beside 99 = .ok (.bipush 10, 2) := by decide +kernel
theorem dX3_beside_101 : decode cX3_beside 101 = .ok (.iadd, 1) := by decide +kernel
theorem dX3_beside_102 : decode cX3_beside 102 = .ok (.goto 4, 3) := by decide +kernel
theorem dX3_beside_105 : decode cX3_beside 105 = .ok (.iconst (-1), 1) := by decide +kernel
theorem dX3_beside_106 : decode cX3_beside 106 = .ok (.ireturn, 1) := by decide +kernel
theorem dX3_beside_107 : decode cX3_beside 107 = .ok (.iload_n 1, 1) := by decide +kernel
theorem dX3_beside_108 : decode cX3_beside 108 = .ok (.bipush 10, 2) := by decide +kernel
theorem dX3_beside_110 : decode cX3_beside 110 = .ok (.idiv, 1) := by decide +kernel
theorem dX3_beside_111 : decode cX3_beside 111 = .ok (.bipush 10, 2) := by decide +kernel
theorem dX3_beside_113 : decode cX3_beside 113 = .ok (.irem, 1) := by decide +kernel
theorem dX3_beside_114 : decode cX3_beside 114 = .ok (.ifCond .le 10, 3) := by decide +kernel
theorem dX3_beside_117 : decode cX3_beside 117 = .ok (.iload_n 1, 1) := by decide +kernel
theorem dX3_beside_118 : decode cX3_beside 118 = .ok (.bipush 10, 2) := by decide +kernel
theorem dX3_beside_120 : decode cX3_beside 120 = .ok (.isub, 1) := by decide +kernel
theorem dX3_beside_121 : decode cX3_beside 121 = .ok (.goto 4, 3) := by decide +kernel
theorem dX3_beside_124 : decode cX3_beside 124 = .ok (.iconst (-1), 1) := by decide +kernel
theorem dX3_beside_125 : decode cX3_beside 125 = .ok (.ireturn, 1) := by decide +kernel
theorem dX3_beside_126 : decode cX3_beside 126 = .ok (.iload_n 1, 1) := by decide +kernel
theorem dX3_beside_127 : decode cX3_beside 127 = .ok (.bipush 100, 2) := by decide +kernel
theorem dX3_beside_129 : decode cX3_beside 129 = .ok (.idiv, 1) := by decide +kernel
theorem dX3_beside_130 : decode cX3_beside 130 = .ok (.aload_n 0, 1) := by decide +kernel
theorem dX3_beside_131 : decode cX3_beside 131 = .ok (.getfield 20, 3) := by decide +kernel
theorem dX3_beside_134 : decode cX3_beside 134 = .ok (.getfield 34, 3) := by decide +kernel
theorem dX3_beside_137 : decode cX3_beside 137 = .ok (.if_icmp .gt 10, 3) := by decide +kernel
theorem dX3_beside_140 : decode cX3_beside 140 = .ok (.iload_n 1, 1) := by decide +kernel
theorem dX3_beside_141 : decode cX3_beside 141 = .ok (.bipush 100, 2) := by decide +kernel
theorem dX3_beside_143 : decode cX3_beside 143 = .ok (.iadd, 1) := by decide +kernel
theorem dX3_beside_144 : decode cX3_beside 144 = .ok (.goto 4, 3) := by decide +kernel
theorem dX3_beside_147 : decode cX3_beside 147 = .ok (.iconst (-1), 1) := by decide +kernel
theorem dX3_beside_148 : decode cX3_beside 148 = .ok (.ireturn, 1) := by decide +kernel
theorem dX3_beside_149 : decode cX3_beside 149 = .ok (.iload_n 1, 1) := by decide +kernel
theorem dX3_beside_150 : decode cX3_beside 150 = .ok (.bipush 100, 2) := by decide +kernel
theorem dX3_beside_152 : decode cX3_beside 152 = .ok (.idiv, 1) := by decide +kernel
theorem dX3_beside_153 : decode cX3_beside 153 = .ok (.ifCond .le 10, 3) := by decide +kernel
theorem dX3_beside_156 : decode cX3_beside 156 = .ok (.iload_n 1, 1) := by decide +kernel
theorem dX3_beside_157 : decode cX3_beside 157 = .ok (.bipush 100, 2) := by decide +kernel
theorem dX3_beside_159 : decode cX3_beside 159 = .ok (.isub, 1) := by decide +kernel
theorem dX3_beside_160 : decode cX3_beside 160 = .ok (.goto 4, 3) := by decide +kernel
theorem dX3_beside_163 : decode cX3_beside 163 = .ok (.iconst (-1), 1) := by decide +kernel
theorem dX3_beside_164 : decode cX3_beside 164 = .ok (.ireturn, 1) := by decide +kernel
theorem dX3_beside_165 : decode cX3_beside 165 = .ok (.iconst (-1), 1) := by decide +kernel
theorem dX3_beside_166 : decode cX3_beside 166 = .ok (.ireturn, 1) := by decide +kernel
theorem dX3_touchesSolid_0 : decode cX3_touchesSolid 0 = .ok (.iconst 0, 1) := by decide +kernel
theorem dX3_touchesSolid_1 : decode cX3_touchesSolid 1 = .ok (.istore_n 2, 1) := by decide +kernel
theorem dX3_touchesSolid_2 : decode cX3_touchesSolid 2 = .ok (.iload_n 2, 1) := by decide +kernel
theorem dX3_touchesSolid_3 : decode cX3_touchesSolid 3 = .ok (.bipush 6, 2) := by decide +kernel
theorem dX3_touchesSolid_5 : decode cX3_touchesSolid 5 = .ok (.if_icmp .ge 27, 3) := by decide +kernel
theorem dX3_touchesSolid_8 : decode cX3_touchesSolid 8 = .ok (.aload_n 0, 1) := by decide +kernel
theorem dX3_touchesSolid_9 : decode cX3_touchesSolid 9 = .ok (.getfield 20, 3) := by decide +kernel
theorem dX3_touchesSolid_12 : decode cX3_touchesSolid 12 = .ok (.aload_n 0, 1) := by decide +kernel
theorem dX3_touchesSolid_13 : decode cX3_touchesSolid 13 = .ok (.iload_n 1, 1) := by decide +kernel
theorem dX3_touchesSolid_14 : decode cX3_touchesSolid 14 = .ok (.iload_n 2, 1) := by decide +kernel
theorem dX3_touchesSolid_15 : decode cX3_touchesSolid 15 = .ok (.invokevirtual 69, 3) := by decide +kernel
theorem dX3_touchesSolid_18 : decode cX3_touchesSolid 18 = .ok (.invokevirtual 61, 3) := by decide +kernel
theorem dX3_touchesSolid_21 : decode cX3_touchesSolid 21 = .ok (.ifCond .eq 5, 3) := by decide +kernel
theorem dX3_touchesSolid_24 : decode cX3_touchesSolid 24 = .ok (.iconst 1, 1) := by decide +kernel
theorem dX3_touchesSolid_25 : decode cX3_touchesSolid 25 = .ok (.ireturn, 1) := by decide +kernel
theorem dX3_touchesSolid_26 : decode cX3_touchesSolid 26 = .ok (.iinc 2 1, 3) := by decide +kernel
theorem dX3_touchesSolid_29 : decode cX3_touchesSolid 29 = .ok (.goto (-27), 3) := by decide +kernel
theorem dX3_touchesSolid_32 : decode cX3_touchesSolid 32 = .ok (.iconst 0, 1) := by decide +kernel
theorem dX3_touchesSolid_33 : decode cX3_touchesSolid 33 = .ok (.ireturn, 1) := by decide +kernel
theorem dX3_addMember_0 : decode cX3_addMember 0 = .ok (.iload_n 1, 1) := by decide +kernel
theorem dX3_addMember_1 : decode cX3_addMember 1 = .ok (.iconst (-1), 1) := by decide +kernel
theorem dX3_addMember_2 : decode cX3_addMember 2 = .ok (.if_icmp .eq 33, 3) := by decide +kernel
theorem dX3_addMember_5 : decode cX3_addMember 5 = .ok (.aload_n 0, 1) := by decide +kernel
theorem dX3_addMember_6 : decode cX3_addMember 6 = .ok (.getfield 30, 3) := by decide +kernel
theorem dX3_addMember_9 : decode cX3_addMember 9 = .ok (.sipush 1000, 3) := by decide +kernel
theorem dX3_addMember_12 : decode cX3_addMember 12 = .ok (.if_icmp .ge 23, 3) := by decide +kernel
theorem dX3_addMember_15 : decode cX3_addMember 15 = .ok (.aload_n 0, 1) := by decide +kernel
theorem dX3_addMember_16 : decode cX3_addMember 16 = .ok (.getfield 11, 3) := by decide +kernel
theorem dX3_addMember_19 : decode cX3_addMember 19 = .ok (.aload_n 0, 1) := by decide +kernel
theorem dX3_addMember_20 : decode cX3_addMember 20 = .ok (.getfield 30, 3) := by decide +kernel
theorem dX3_addMember_23 : decode cX3_addMember 23 = .ok (.iload_n 1, 1) := by decide +kernel
theorem dX3_addMember_24 : decode cX3_addMember 24 = .ok (.iastore, 1) := by decide +kernel
theorem dX3_addMember_25 : decode cX3_addMember 25 = .ok (.aload_n 0, 1) := by decide +kernel
theorem dX3_addMember_26 : decode cX3_addMember 26 = .ok (.dup, 1) := by decide +kernel
theorem dX3_addMember_27 : decode cX3_addMember 27 = .ok (.getfield 30, 3) := by decide +kernel
theorem dX3_addMember_30 : decode cX3_addMember 30 = .ok (.iconst 1, 1) := by decide +kernel
theorem dX3_addMember_31 : decode cX3_addMember 31 = .ok (.iadd, 1) := by decide +kernel
theorem dX3_addMember_32 : decode cX3_addMember 32 = .ok (.putfield 30, 3) := by decide +kernel
theorem dX3_addMember_35 : decode cX3_addMember 35 = .ok (.return_, 1) := by decide +kernel
theorem dX3_freeFromEdge_0 : decode cX3_freeFromEdge 0 = .ok (.iconst 0, 1) := by decide +kernel
theorem dX3_freeFromEdge_1 : decode cX3_freeFromEdge 1 = .ok (.istore_n 2, 1) := by decide +kernel
theorem dX3_freeFromEdge_2 : decode cX3_freeFromEdge 2 = .ok (.iload_n 2, 1) := by decide +kernel
theorem dX3_freeFromEdge_3 : decode cX3_freeFromEdge 3 = .ok (.bipush 6, 2) := by decide +kernel
theorem dX3_freeFromEdge_5 : decode cX3_freeFromEdge 5 = .ok (.if_icmp .ge 25, 3) := by decide +kernel
theorem dX3_freeFromEdge_8 : decode cX3_freeFromEdge 8 = .ok (.aload_n 0, 1) := by decide +kernel
theorem dX3_freeFromEdge_9 : decode cX3_freeFromEdge 9 = .ok (.iload_n 1, 1) := by decide +kernel
theorem dX3_freeFromEdge_10 : decode cX3_freeFromEdge 10 = .ok (.iload_n 2, 1) := by decide +kernel
theorem dX3_freeFromEdge_11 : decode cX3_freeFromEdge 11 = .ok (.invokevirtual 69, 3) := by decide +kernel
theorem dX3_freeFromEdge_14 : decode cX3_freeFromEdge 14 = .ok (.iconst (-1), 1) := by decide +kernel
theorem dX3_freeFromEdge_15 : decode cX3_freeFromEdge 15 = .ok (.if_icmp .ne 9, 3) := by decide +kernel
theorem dX3_freeFromEdge_18 : decode cX3_freeFromEdge 18 = .ok (.aload_n 0, 1) := by decide +kernel
theorem dX3_freeFromEdge_19 : decode cX3_freeFromEdge 19 = .ok (.iload_n 1, 1) := by decide +kernel
theorem dX3_freeFromEdge_20 : decode cX3_freeFromEdge 20 = .ok (.iload_n 2, 1) := by decide +kernel
theorem dX3_freeFromEdge_21 : decode cX3_freeFromEdge 21 = .ok (.invokevirtual 73, 3) := by decide +kernel
theorem dX3_freeFromEdge_24 : decode cX3_freeFromEdge 24 = .ok (.iinc 2 1, 3) := by decide +kernel
theorem dX3_freeFromEdge_27 : decode cX3_freeFromEdge 27 = .ok (.goto (-25), 3) := by decide +kernel
theorem dX3_freeFromEdge_30 : decode cX3_freeFromEdge 30 = .ok (.return_, 1) := by decide +kernel
theorem dX3_freeInwards_0 : decode cX3_freeInwards 0 = .ok (.iload_n 1, 1) := by decide +kernel
theorem dX3_freeInwards_1 : decode cX3_freeInwards 1 = .ok (.istore_n 3, 1) := by decide +kernel
theorem dX3_freeInwards_2 : decode cX3_freeInwards 2 = .ok (.iconst 0, 1) := by decide +kernel
theorem dX3_freeInwards_3 : decode cX3_freeInwards 3 = .ok (.istore 4, 2) := by decide +kernel
theorem dX3_freeInwards_5 : decode cX3_freeInwards 5 = .ok (.iload 4, 2) := by decide +kernel
theorem dX3_freeInwards_7 : decode cX3_freeInwards 7 = .ok (.bipush 10, 2) := by decide +kernel
theorem dX3_freeInwards_9 : decode cX3_freeInwards 9 = .ok (.if_icmp .ge 52, 3) := by decide +kernel
theorem dX3_freeInwards_12 : decode cX3_freeInwards 12 = .ok (.iload_n 3, 1) := by decide +kernel
theorem dX3_freeInwards_13 : decode cX3_freeInwards 13 = .ok (.ifCond .lt 48, 3) := by decide +kernel
theorem dX3_freeInwards_16 : decode cX3_freeInwards 16 = .ok (.iload_n 3, 1) := by decide +kernel
theorem dX3_freeInwards_17 : decode cX3_freeInwards 17 = .ok (.sipush 1000, 3) := by decide +kernel
theorem dX3_freeInwards_20 : decode cX3_freeInwards 20 = .ok (.if_icmp .ge 41, 3) := by decide +kernel
theorem dX3_freeInwards_23 : decode cX3_freeInwards 23 = .ok (.aload_n 0, 1) := by decide +kernel
theorem dX3_freeInwards_24 : decode cX3_freeInwards 24 = .ok (.getfield 20, 3) := by decide +kernel
theorem dX3_freeInwards_27 : decode cX3_freeInwards 27 = .ok (.iload_n 3, 1) := by decide +kernel
theorem dX3_freeInwards_28 : decode cX3_freeInwards 28 = .ok (.invokevirtual 61, 3) := by decide +kernel
theorem dX3_freeInwards_31 : decode cX3_freeInwards 31 = .ok (.ifCond .ne 30, 3) := by decide +kernel
theorem dX3_freeInwards_34 : decode cX3_freeInwards 34 = .ok (.aload_n 0, 1) := by decide +kernel
theorem dX3_freeInwards_35 : decode cX3_freeInwards 35 = .ok (.getfield 17, 3) := by decide +kernel
theorem dX3_freeInwards_38 : decode cX3_freeInwards 38 = .ok (.iload_n 3, 1) := by decide +kernel
theorem dX3_freeInwards_39 : decode cX3_freeInwards 39 = .ok (.dup2, 1) := by decide +kernel
theorem dX3_freeInwards_40 : decode cX3_freeInwards 40 = .ok (.iaload, 1) := by decide +kernel
theorem dX3_freeInwards_41 : decode cX3_freeInwards 41 = .ok (.iconst 1, 1) := by decide +kernel
theorem dX3_freeInwards_42 : decode cX3_freeInwards 42 = .ok (.iload_n 2, 1) := by decide +kernel
theorem dX3_freeInwards_43 : decode cX3_freeInwards 43 = .ok (.ishl, 1) := by decide +kernel
theorem dX3_freeInwards_44 : decode cX3_freeInwards 44 = .ok (.ior, 1) := by decide +kernel
theorem dX3_freeInwards_45 : decode cX3_freeInwards 45 = .ok (.iastore, 1) := by decide +kernel
theorem dX3_freeInwards_46 : decode cX3_freeInwards 46 = .ok (.aload_n 0, 1) := by decide +kernel
theorem dX3_freeInwards_47 : decode cX3_freeInwards 47 = .ok (.iload_n 3, 1) := by decide +kernel
theorem dX3_freeInwards_48 : decode cX3_freeInwards 48 = .ok (.iload_n 2, 1) := by decide +kernel
theorem dX3_freeInwards_49 : decode cX3_freeInwards 49 = .ok (.iconst 1, 1) := by decide +kernel
theorem dX3_freeInwards_50 : decode cX3_freeInwards 50 = .ok (.ixor, 1) := by decide +kernel
theorem dX3_freeInwards_51 : decode cX3_freeInwards 51 = .ok (.invokevirtual 69, 3) := by decide +kernel
theorem dX3_freeInwards_54 : decode cX3_freeInwards 54 = .ok (.istore_n 3, 1) := by decide +kernel
theorem dX3_freeInwards_55 : decode cX3_freeInwards 55 = .ok (.iinc 4 1, 3) := by decide +kernel
theorem dX3_freeInwards_58 : decode cX3_freeInwards 58 = .ok (.goto (-53), 3) := by decide +kernel
theorem dX3_freeInwards_61 : decode cX3_freeInwards 61 = .ok (.return_, 1) := by decide +kernel
theorem dX4_init_0 : decode cX4_init 0 = .ok (.aload_n 0, 1) := by decide +kernel
theorem dX4_init_1 : decode cX4_init 1 = .ok (.invokespecial 5, 3) := by decide +kernel
theorem dX4_init_4 : decode cX4_init 4 = .ok (.aload_n 0, 1) := by decide +kernel
theorem dX4_init_5 : decode cX4_init 5 = .ok (.bipush 10, 2) := by decide +kernel
theorem dX4_init_7 : decode cX4_init 7 = .ok (.newarray .int, 2) := by decide +kernel
theorem dX4_init_9 : decode cX4_init 9 = .ok (.putfield 11, 3) := by decide +kernel
theorem dX4_init_12 : decode cX4_init 12 = .ok (.aload_n 0, 1) := by decide +kernel
theorem dX4_init_13 : decode cX4_init 13 = .ok (.bipush 10, 2) := by decide +kernel
theorem dX4_init_15 : decode cX4_init 15 = .ok (.newarray .int, 2) := by decide +kernel
theorem dX4_init_17 : decode cX4_init 17 = .ok (.putfield 15, 3) := by decide +kernel
theorem dX4_init_20 : decode cX4_init 20 = .ok (.aload_n 0, 1) := by decide +kernel
theorem dX4_init_21 : decode cX4_init 21 = .ok (.bipush 10, 2) := by decide +kernel
theorem dX4_init_23 : decode cX4_init 23 = .ok (.newarray .int, 2) := by decide +kernel
theorem dX4_init_25 : decode cX4_init 25 = .ok (.putfield 18, 3) := by decide +kernel
theorem dX4_init_28 : decode cX4_init 28 = .ok (.aload_n 0, 1) := by decide +kernel
theorem dX4_init_29 : decode cX4_init 29 = .ok (.iconst 2, 1) := by decide +kernel
theorem dX4_init_30 : decode cX4_init 30 = .ok (.putfield 21, 3) := by decide +kernel
theorem dX4_init_33 : decode cX4_init 33 = .ok (.aload_n 0, 1) := by decide +kernel
theorem dX4_init_34 : decode cX4_init 34 = .ok (.sipush 1024, 3) := by decide +kernel
theorem dX4_init_37 : decode cX4_init 37 = .ok (.newarray .int, 2) := by decide +kernel
theorem dX4_init_39 : decode cX4_init 39 = .ok (.putfield 25, 3) := by decide +kernel
theorem dX4_init_42 : decode cX4_init 42 = .ok (.aload_n 0, 1) := by decide +kernel
theorem dX4_init_43 : decode cX4_init 43 = .ok (.sipush 1024, 3) := by decide +kernel
theorem dX4_init_46 : decode cX4_init 46 = .ok (.newarray .int, 2) := by decide +kernel
theorem dX4_init_48 : decode cX4_init 48 = .ok (.putfield 28, 3) := by decide +kernel
theorem dX4_init_51 : decode cX4_init 51 = .ok (.aload_n 0, 1) := by decide +kernel
theorem dX4_init_52 : decode cX4_init 52 = .ok (.bipush 10, 2) := by decide +kernel
theorem dX4_init_54 : decode cX4_init 54 = .ok (.newarray .int, 2) := by decide +kernel
theorem dX4_init_56 : decode cX4_init 56 = .ok (.putfield 31, 3) := by decide +kernel
theorem dX4_init_59 : decode cX4_init 59 = .ok (.aload_n 0, 1) := by decide +kernel
theorem dX4_init_60 : decode cX4_init 60 = .ok (.bipush 10, 2) := by decide +kernel
theorem dX4_init_62 : decode cX4_init 62 = .ok (.newarray .int, 2) := by decide +kernel
theorem dX4_init_64 : decode cX4_init 64 = .ok (.putfield 34, 3) := by decide +kernel
theorem dX4_init_67 : decode cX4_init 67 = .ok (.return_, 1) := by decide +kernel
theorem dX4_setDry_0 : decode cX4_setDry 0 = .ok (.iload_n 1, 1) := by decide +kernel
theorem dX4_setDry_1 : decode cX4_setDry 1 = .ok (.ifCond .lt 9, 3) := by decide +kernel
theorem dX4_setDry_4 : decode cX4_setDry 4 = .ok (.iload_n 1, 1) := by decide +kernel
theorem dX4_setDry_5 : decode cX4_setDry 5 = .ok (.bipush 100, 2) := by decide +kernel
theorem dX4_setDry_7 : decode cX4_setDry 7 = .ok (.if_icmp .le 5, 3) := by decide +kernel
theorem dX4_setDry_10 : decode cX4_setDry 10 = .ok (.iconst (-1), 1) := by decide +kernel
theorem dX4_setDry_11 : decode cX4_setDry 11 = .ok (.ireturn, 1) := by decide +kernel
theorem dX4_setDry_12 : decode cX4_setDry 12 = .ok (.aload_n 0, 1) := by decide +kernel
theorem dX4_setDry_13 : decode cX4_setDry 13 = .ok (.getfield 21, 3) := by decide +kernel
theorem dX4_setDry_16 : decode cX4_setDry 16 = .ok (.istore_n 2, 1) := by decide +kernel
theorem dX4_setDry_17 : decode cX4_setDry 17 = .ok (.aload_n 0, 1) := by decide +kernel
theorem dX4_setDry_18 : decode cX4_setDry 18 = .ok (.iload_n 1, 1) := by decide +kernel
theorem dX4_setDry_19 : decode cX4_setDry 19 = .ok (.putfield 21, 3) := by decide +kernel
theorem dX4_setDry_22 : decode cX4_setDry 22 = .ok (.iload_n 2, 1) := by decide +kernel
theorem dX4_setDry_23 : decode cX4_setDry 23 = .ok (.ireturn, 1) := by decide +kernel
theorem dX4_add_0 : decode cX4_add 0 = .ok (.iload_n 1, 1) := by decide +kernel
theorem dX4_add_1 : decode cX4_add 1 = .ok (.iconst 1, 1) := by decide +kernel
theorem dX4_add_2 : decode cX4_add 2 = .ok (.if_icmp .lt 35, 3) := by decide +kernel
theorem dX4_add_5 : decode cX4_add 5 = .ok (.iload_n 1, 1) := by decide +kernel
theorem dX4_add_6 : decode cX4_add 6 = .ok (.bipush 50, 2) := by decide +kernel
theorem dX4_add_8 : decode cX4_add 8 = .ok (.if_icmp .gt 29, 3) := by decide +kernel
theorem dX4_add_11 : decode cX4_add 11 = .ok (.iload_n 2, 1) := by decide +kernel
theorem dX4_add_12 : decode cX4_add 12 = .ok (.ifCond .lt 25, 3) := by decide +kernel
theorem dX4_add_15 : decode cX4_add 15 = .ok (.iload_n 2, 1) := by decide +kernel
theorem dX4_add_16 : decode cX4_add 16 = .ok (.sipush 1000, 3) := by decide +kernel
theorem dX4_add_19 : decode cX4_add 19 = .ok (.if_icmp .gt 18, 3) := by decide +kernel
theorem dX4_add_22 : decode cX4_add 22 = .ok (.iload_n 3, 1) := by decide +kernel
theorem dX4_add_23 : decode cX4_add 23 = .ok (.iconst 1, 1) := by decide +kernel
theorem dX4_add_24 : decode cX4_add 24 = .ok (.if_icmp .lt 13, 3) := by decide +kernel
theorem dX4_add_27 : decode cX4_add 27 = .ok (.iload_n 3, 1) := by decide +kernel
theorem dX4_add_28 : decode cX4_add 28 = .ok (.bipush 100, 2) := by decide +kernel
theorem dX4_add_30 : decode cX4_add 30 = .ok (.if_icmp .gt 7, 3) := by decide +kernel
theorem dX4_add_33 : decode cX4_add 33 = .ok (.iconst 1, 1) := by decide +kernel
theorem dX4_add_34 : decode cX4_add 34 = .ok (.goto 4, 3) := by decide +kernel
theorem dX4_add_37 : decode cX4_add 37 = .ok (.iconst 0, 1) := by decide +kernel
theorem dX4_add_38 : decode cX4_add 38 = .ok (.istore 4, 2) := by decide +kernel
theorem dX4_add_40 : decode cX4_add 40 = .ok (.iconst 0, 1) := by decide +kernel
theorem dX4_add_41 : decode cX4_add 41 = .ok (.istore 5, 2) := by decide +kernel
theorem dX4_add_43 : decode cX4_add 43 = .ok (.iload 5, 2) := by decide +kernel
theorem dX4_add_45 : decode cX4_add 45 = .ok (.bipush 10, 2) := by decide +kernel
theorem dX4_add_47 : decode cX4_add 47 = .ok (.if_icmp .ge 51, 3) := by decide +kernel
theorem dX4_add_50 : decode cX4_add 50 = .ok (.iload 4, 2) := by decide +kernel
theorem dX4_add_52 : decode cX4_add 52 = .ok (.ifCond .eq 46, 3) := by decide +kernel
theorem dX4_add_55 : decode cX4_add 55 = .ok (.aload_n 0, 1) := by decide +kernel
theorem dX4_add_56 : decode cX4_add 56 = .ok (.getfield 11, 3) := by decide +kernel
theorem dX4_add_59 : decode cX4_add 59 = .ok (.iload 5, 2) := by decide +kernel
theorem dX4_add_61 : decode cX4_add 61 = .ok (.iaload, 1) := by decide +kernel
theorem dX4_add_62 : decode cX4_add 62 = .ok (.ifCond .ne 30, 3) := by decide +kernel
theorem dX4_add_65 : decode cX4_add 65 = .ok (.aload_n 0, 1) := by decide +kernel
theorem dX4_add_66 : decode cX4_add 66 = .ok (.getfield 11, 3) := by decide +kernel
theorem dX4_add_69 : decode cX4_add 69 = .ok (.iload 5, 2) := by decide +kernel
theorem dX4_add_71 : decode cX4_add 71 = .ok (.iload_n 1, 1) := by decide +kernel
theorem dX4_add_72 : decode cX4_add 72 = .ok (.iastore, 1) := by decide +kernel
theorem dX4_add_73 : decode cX4_add 73 = .ok (.aload_n 0, 1) := by decide +kernel
theorem dX4_add_74 : decode cX4_add 74 = .ok (.getfield 15, 3) := by decide +kernel
theorem dX4_add_77 : decode cX4_add 77 = .ok (.iload 5, 2) := by decide +kernel
theorem dX4_add_79 : decode cX4_add 79 = .ok (.iload_n 2, 1) := by decide +kernel
theorem dX4_add_80 : decode cX4_add 80 = .ok (.iastore, 1) := by decide +kernel
theorem dX4_add_81 : decode cX4_add 81 = .ok (.aload_n 0, 1) := by decide +kernel
theorem dX4_add_82 : decode cX4_add 82 = .ok (.getfield 18, 3) := by decide +kernel
theorem dX4_add_85 : decode cX4_add 85 = .ok (.iload 5, 2) := by decide +kernel
theorem dX4_add_87 : decode cX4_add 87 = .ok (.iload_n 3, 1) := by decide +kernel
theorem dX4_add_88 : decode cX4_add 88 = .ok (.iastore, 1) := by decide +kernel
theorem dX4_add_89 : decode cX4_add 89 = .ok (.iload 5, 2) := by decide +kernel
theorem dX4_add_91 : decode cX4_add 91 = .ok (.ireturn, 1) := by decide +kernel
theorem dX4_add_92 : decode cX4_add 92 = .ok (.iinc 5 1, 3) := by decide +kernel
theorem dX4_add_95 : decode cX4_add 95 = .ok (.goto (-52), 3) := by decide +kernel
theorem dX4_add_98 : decode cX4_add 98 = .ok (.iconst (-1), 1) := by decide +kernel
theorem dX4_add_99 : decode cX4_add 99 = .ok (.ireturn, 1) := by decide +kernel
theorem dX4_remove_0 : decode cX4_remove 0 = .ok (.iload_n 1, 1) := by decide +kernel
theorem dX4_remove_1 : decode cX4_remove 1 = .ok (.ifCond .lt 18, 3) := by decide +kernel
theorem dX4_remove_4 : decode cX4_remove 4 = .ok (.iload_n 1, 1) := by decide +kernel
theorem dX4_remove_5 : decode cX4_remove 5 = .ok (.bipush 10, 2) := by decide +kernel
theorem dX4_remove_7 : decode cX4_remove 7 = .ok (.if_icmp .ge 12, 3) := by decide +kernel
theorem dX4_remove_10 : decode cX4_remove 10 = .ok (.aload_n 0, 1) := by decide +kernel
theorem dX4_remove_11 : decode cX4_remove 11 = .ok (.getfield 11, 3) := by decide +kernel
theorem dX4_remove_14 : decode cX4_remove 14 = .ok (.iload_n 1, 1) := by decide +kernel
theorem dX4_remove_15 : decode cX4_remove 15 = .ok (.iaload, 1) := by decide +kernel
theorem dX4_remove_16 : decode cX4_remove 16 = .ok (.ifCond .ne 5, 3) := by decide +kernel
theorem dX4_remove_19 : decode cX4_remove 19 = .ok (.iconst 0, 1) := by decide +kernel
theorem dX4_remove_20 : decode cX4_remove 20 = .ok (.ireturn, 1) := by decide +kernel
theorem dX4_remove_21 : decode cX4_remove 21 = .ok (.aload_n 0, 1) := by decide +kernel
theorem dX4_remove_22 : decode cX4_remove 22 = .ok (.getfield 11, 3) := by decide +kernel
theorem dX4_remove_25 : decode cX4_remove 25 = .ok (.iload_n 1, 1) := by decide +kernel
theorem dX4_remove_26 : decode cX4_remove 26 = .ok (.iconst 0, 1) := by decide +kernel
theorem dX4_remove_27 : decode cX4_remove 27 = .ok (.iastore, 1) := by decide +kernel
theorem dX4_remove_28 : decode cX4_remove 28 = .ok (.iconst 1, 1) := by decide +kernel
theorem dX4_remove_29 : decode cX4_remove 29 = .ok (.ireturn, 1) := by decide +kernel
theorem dX4_rowNumber_0 : decode cX4_rowNumber 0 = .ok (.iload_n 1, 1) := by decide +kernel
theorem dX4_rowNumber_1 : decode cX4_rowNumber 1 = .ok (.ifCond .lt 20, 3) := by decide +kernel
theorem dX4_rowNumber_4 : decode cX4_rowNumber 4 = .ok (.iload_n 1, 1) := by decide +kernel
theorem dX4_rowNumber_5 : decode cX4_rowNumber 5 = .ok (.aload_n 0, 1) := by decide +kernel
theorem dX4_rowNumber_6 : decode cX4_rowNumber 6 = .ok (.getfield 37, 3) := by decide +kernel
theorem dX4_rowNumber_9 : decode cX4_rowNumber 9 = .ok (.if_icmp .ge 12, 3) := by decide +kernel
theorem dX4_rowNumber_12 : decode cX4_rowNumber 12 = .ok (.aload_n 0, 1) := by decide +kernel
theorem dX4_rowNumber_13 : decode cX4_rowNumber 13 = .ok (.getfield 31, 3) := by decide +kernel
theorem dX4_rowNumber_16 : decode cX4_rowNumber 16 = .ok (.iload_n 1, 1) := by decide +kernel
theorem dX4_rowNumber_17 : decode cX4_rowNumber 17 = .ok (.iaload, 1) := by decide +kernel
theorem dX4_rowNumber_18 : decode cX4_rowNumber 18 = .ok (.goto 4, 3) := by decide +kernel
theorem dX4_rowNumber_21 : decode cX4_rowNumber 21 = .ok (.iconst (-1), 1) := by decide +kernel
theorem dX4_rowNumber_22 : decode cX4_rowNumber 22 = .ok (.ireturn, 1) := by decide +kernel
theorem dX4_rowLateness_0 : decode cX4_rowLateness 0 = .ok (.iload_n 1, 1) := by decide +kernel
theorem dX4_rowLateness_1 : decode cX4_rowLateness 1 = .ok (.ifCond .lt 20, 3) := by decide +kernel
theorem dX4_rowLateness_4 : decode cX4_rowLateness 4 = .ok (.iload_n 1, 1) := by decide +kernel
theorem dX4_rowLateness_5 : decode cX4_rowLateness 5 = .ok (.aload_n 0, 1) := by decide +kernel
theorem dX4_rowLateness_6 : decode cX4_rowLateness 6 = .ok (.getfield 37, 3) := by decide +kernel
theorem dX4_rowLateness_9 : decode cX4_rowLateness 9 = .ok (.if_icmp .ge 12, 3) := by decide +kernel
theorem dX4_rowLateness_12 : decode cX4_rowLateness 12 = .ok (.aload_n 0, 1) := by decide +kernel
theorem dX4_rowLateness_13 : decode cX4_rowLateness 13 = .ok (.getfield 34, 3) := by decide +kernel
theorem dX4_rowLateness_16 : decode cX4_rowLateness 16 = .ok (.iload_n 1, 1) := by decide +kernel
theorem dX4_rowLateness_17 : decode cX4_rowLateness 17 = .ok (.iaload, 1) := by decide +kernel
theorem dX4_rowLateness_18 : decode cX4_rowLateness 18 = .ok (.goto 4, 3) := by decide +kernel
theorem dX4_rowLateness_21 : decode cX4_rowLateness 21 = .ok (.iconst (-1), 1) := by decide +kernel
theorem dX4_rowLateness_22 : decode cX4_rowLateness 22 = .ok (.ireturn, 1) := by decide +kernel
theorem dX4_findRow_0 : decode cX4_findRow 0 = .ok (.aload_n 0, 1) := by decide +kernel
theorem dX4_findRow_1 : decode cX4_findRow 1 = .ok (.invokevirtual 40, 3) := by decide +kernel
theorem dX4_findRow_4 : decode cX4_findRow 4 = .ok (.istore_n 1, 1) := by decide +kernel
theorem dX4_findRow_5 : decode cX4_findRow 5 = .ok (.iload_n 1, 1) := by decide +kernel
theorem dX4_findRow_6 : decode cX4_findRow 6 = .ok (.ifCond .ne 5, 3) := by decide +kernel
theorem dX4_findRow_9 : decode cX4_findRow 9 = .ok (.iconst (-1), 1) := by decide +kernel
theorem dX4_findRow_10 : decode cX4_findRow 10 = .ok (.ireturn, 1) := by decide +kernel
theorem dX4_findRow_11 : decode cX4_findRow 11 = .ok (.aload_n 0, 1) := by decide +kernel
theorem dX4_findRow_12 : decode cX4_findRow 12 = .ok (.iload_n 1, 1) := by decide +kernel
theorem dX4_findRow_13 : decode cX4_findRow 13 = .ok (.invokevirtual 44, 3) := by decide +kernel
theorem dX4_findRow_16 : decode cX4_findRow 16 = .ok (.istore_n 2, 1) := by decide +kernel
theorem dX4_findRow_17 : decode cX4_findRow 17 = .ok (.aload_n 0, 1) := by decide +kernel
theorem dX4_findRow_18 : decode cX4_findRow 18 = .ok (.getfield 25, 3) := by decide +kernel
theorem dX4_findRow_21 : decode cX4_findRow 21 = .ok (.iconst 0, 1) := by decide +kernel
theorem dX4_findRow_22 : decode cX4_findRow 22 = .ok (.iconst 0, 1) := by decide +kernel
theorem dX4_findRow_23 : decode cX4_findRow 23 = .ok (.iastore, 1) := by decide +kernel
theorem dX4_findRow_24 : decode cX4_findRow 24 = .ok (.iconst 1, 1) := by decide +kernel
theorem dX4_findRow_25 : decode cX4_findRow 25 = .ok (.istore_n 3, 1) := by decide +kernel
theorem dX4_findRow_26 : decode cX4_findRow 26 = .ok (.iload_n 3, 1) := by decide +kernel
theorem dX4_findRow_27 : decode cX4_findRow 27 = .ok (.iload_n 1, 1) := by decide +kernel
theorem dX4_findRow_28 : decode cX4_findRow 28 = .ok (.if_icmp .gt 28, 3) := by decide +kernel
theorem dX4_findRow_31 : decode cX4_findRow 31 = .ok (.iload_n 3, 1) := by decide +kernel
theorem dX4_findRow_32 : decode cX4_findRow 32 = .ok (.iload_n 1, 1) := by decide +kernel
theorem dX4_findRow_33 : decode cX4_findRow 33 = .ok (.iand, 1) := by decide +kernel
theorem dX4_findRow_34 : decode cX4_findRow 34 = .ok (.iload_n 3, 1) := by decide +kernel
theorem dX4_findRow_35 : decode cX4_findRow 35 = .ok (.if_icmp .ne 15, 3) := by decide +kernel
theorem dX4_findRow_38 : decode cX4_findRow 38 = .ok (.aload_n 0, 1) := by decide +kernel
theorem dX4_findRow_39 : decode cX4_findRow 39 = .ok (.iload_n 3, 1) := by decide +kernel
theorem dX4_findRow_40 : decode cX4_findRow 40 = .ok (.iload_n 2, 1) := by decide +kernel
theorem dX4_findRow_41 : decode cX4_findRow 41 = .ok (.aload_n 0, 1) := by decide +kernel
theorem dX4_findRow_42 : decode cX4_findRow 42 = .ok (.iload_n 3, 1) := by decide +kernel
theorem dX4_findRow_43 : decode cX4_findRow 43 = .ok (.invokevirtual 44, 3) := by decide +kernel
theorem dX4_findRow_46 : decode cX4_findRow 46 = .ok (.isub, 1) := by decide +kernel
theorem dX4_findRow_47 : decode cX4_findRow 47 = .ok (.invokevirtual 48, 3) := by decide +kernel
theorem dX4_findRow_50 : decode cX4_findRow 50 = .ok (.iinc 3 1, 3) := by decide +kernel
theorem dX4_findRow_53 : decode cX4_findRow 53 = .ok (.goto (-27), 3) := by decide +kernel
theorem dX4_findRow_56 : decode cX4_findRow 56 = .ok (.aload_n 0, 1) := by decide +kernel
theorem dX4_findRow_57 : decode cX4_findRow 57 = .ok (.iload_n 1, 1) := by decide +kernel
theorem dX4_findRow_58 : decode cX4_findRow 58 = .ok (.invokevirtual 52, 3) := by decide +kernel
theorem dX4_findRow_61 : decode cX4_findRow 61 = .ok (.aload_n 0, 1) := by decide +kernel
theorem dX4_findRow_62 : decode cX4_findRow 62 = .ok (.getfield 25, 3) := by decide +kernel
theorem dX4_findRow_65 : decode cX4_findRow 65 = .ok (.iload_n 1, 1) := by decide +kernel
theorem dX4_findRow_66 : decode cX4_findRow 66 = .ok (.iaload, 1) := by decide +kernel
theorem dX4_findRow_67 : decode cX4_findRow 67 = .ok (.ireturn, 1) := by decide +kernel
theorem dX4_allOrders_0 : decode cX4_allOrders 0 = .ok (.iconst 0, 1) := by decide +kernel
theorem dX4_allOrders_1 : decode cX4_allOrders 1 = .ok (.istore_n 1, 1) := by decide +kernel
theorem dX4_allOrders_2 : decode cX4_allOrders 2 = .ok (.iconst 0, 1) := by decide +kernel
theorem dX4_allOrders_3 : decode cX4_allOrders 3 = .ok (.istore_n 2, 1) := by decide +kernel
theorem dX4_allOrders_4 : decode cX4_allOrders 4 = .ok (.iload_n 2, 1) := by decide +kernel
theorem dX4_allOrders_5 : decode cX4_allOrders 5 = .ok (.bipush 10, 2) := by decide +kernel
theorem dX4_allOrders_7 : decode cX4_allOrders 7 = .ok (.if_icmp .ge 28, 3) := by decide +kernel
theorem dX4_allOrders_10 : decode cX4_allOrders 10 = .ok (.iload_n 1, 1) := by decide +kernel
theorem dX4_allOrders_11 : decode cX4_allOrders 11 = .ok (.aload_n 0, 1) := by decide +kernel
theorem dX4_allOrders_12 : decode cX4_allOrders 12 = .ok (.getfield 11, 3) := by decide +kernel
theorem dX4_allOrders_15 : decode cX4_allOrders 15 = .ok (.iload_n 2, 1) := by decide +kernel
theorem dX4_allOrders_16 : decode cX4_allOrders 16 = .ok (.iaload, 1) := by decide +kernel
theorem dX4_allOrders_17 : decode cX4_allOrders 17 = .ok (.ifCond .le 9, 3) := by decide +kernel
theorem dX4_allOrders_20 : decode cX4_allOrders 20 = .ok (.iconst 1, 1) := by decide +kernel
theorem dX4_allOrders_21 : decode cX4_allOrders 21 = .ok (.iload_n 2, 1) := by decide +kernel
theorem dX4_allOrders_22 : decode cX4_allOrders 22 = .ok (.ishl, 1) := by decide +kernel
theorem dX4_allOrders_23 : decode cX4_allOrders 23 = .ok (.goto 4, 3) := by decide +kernel
theorem dX4_allOrders_26 : decode cX4_allOrders 26 = .ok (.iconst 0, 1) := by decide +kernel
theorem dX4_allOrders_27 : decode cX4_allOrders 27 = .ok (.ior, 1) := by decide +kernel
theorem dX4_allOrders_28 : decode cX4_allOrders 28 = .ok (.istore_n 1, 1) := by decide +kernel
theorem dX4_allOrders_29 : decode cX4_allOrders 29 = .ok (.iinc 2 1, 3) := by decide +kernel
theorem dX4_allOrders_32 : decode cX4_allOrders 32 = .ok (.goto (-28), 3) := by decide +kernel
theorem dX4_allOrders_35 : decode cX4_allOrders 35 = .ok (.iload_n 1, 1) := by decide +kernel
theorem dX4_allOrders_36 : decode cX4_allOrders 36 = .ok (.ireturn, 1) := by decide +kernel
theorem dX4_poursOf_0 : decode cX4_poursOf 0 = .ok (.iconst 0, 1) := by decide +kernel
theorem dX4_poursOf_1 : decode cX4_poursOf 1 = .ok (.istore_n 2, 1) := by decide +kernel
theorem dX4_poursOf_2 : decode cX4_poursOf 2 = .ok (.iconst 0, 1) := by decide +kernel
theorem dX4_poursOf_3 : decode cX4_poursOf 3 = .ok (.istore_n 3, 1) := by decide +kernel
theorem dX4_poursOf_4 : decode cX4_poursOf 4 = .ok (.iload_n 3, 1) := by decide +kernel
theorem dX4_poursOf_5 : decode cX4_poursOf 5 = .ok (.bipush 10, 2) := by decide +kernel
theorem dX4_poursOf_7 : decode cX4_poursOf 7 = .ok (.if_icmp .ge 24, 3) := by decide +kernel
theorem dX4_poursOf_10 : decode cX4_poursOf 10 = .ok (.iload_n 2, 1) := by decide +kernel
theorem dX4_poursOf_11 : decode cX4_poursOf 11 = .ok (.iload_n 1, 1) := by decide +kernel
theorem dX4_poursOf_12 : decode cX4_poursOf 12 = .ok (.iload_n 3, 1) := by decide +kernel
theorem dX4_poursOf_13 : decode cX4_poursOf 13 = .ok (.ishr, 1) := by decide +kernel
theorem dX4_poursOf_14 : decode cX4_poursOf 14 = .ok (.iconst 1, 1) := by decide +kernel
theorem dX4_poursOf_15 : decode cX4_poursOf 15 = .ok (.iand, 1) := by decide +kernel
theorem dX4_poursOf_16 : decode cX4_poursOf 16 = .ok (.aload_n 0, 1) := by decide +kernel
theorem dX4_poursOf_17 : decode cX4_poursOf 17 = .ok (.getfield 11, 3) := by decide +kernel
theorem dX4_poursOf_20 : decode cX4_poursOf 20 = .ok (.iload_n 3, 1) := by decide +kernel
theorem dX4_poursOf_21 : decode cX4_poursOf 21 = .ok (.iaload, 1) := by decide +kernel
theorem dX4_poursOf_22 : decode cX4_poursOf 22 = .ok (.imul, 1) := by decide +kernel
theorem dX4_poursOf_23 : decode cX4_poursOf 23 = .ok (.iadd, 1) := by decide +kernel
theorem dX4_poursOf_24 : decode cX4_poursOf 24 = .ok (.istore_n 2, 1) := by decide +kernel
theorem dX4_poursOf_25 : decode cX4_poursOf 25 = .ok (.iinc 3 1, 3) := by decide +kernel
theorem dX4_poursOf_28 : decode cX4_poursOf 28 = .ok (.goto (-24), 3) := by decide +kernel
theorem dX4_poursOf_31 : decode cX4_poursOf 31 = .ok (.iload_n 2, 1) := by decide +kernel
theorem dX4_poursOf_32 : decode cX4_poursOf 32 = .ok (.ireturn, 1) := by decide +kernel
theorem dX4_weighSet_0 : decode cX4_weighSet 0 = .ok (.aload_n 0, 1) := by decide +kernel
theorem dX4_weighSet_1 : decode cX4_weighSet 1 = .ok (.getfield 25, 3) := by decide +kernel
theorem dX4_weighSet_4 : decode cX4_weighSet 4 = .ok (.iload_n 1, 1) := by decide +kernel
theorem dX4_weighSet_5 : decode cX4_weighSet 5 = .ok (.ldc 56, 2) := by decide +kernel
theorem dX4_weighSet_7 : decode cX4_weighSet 7 = .ok (.iastore, 1) := by decide +kernel
theorem dX4_weighSet_8 : decode cX4_weighSet 8 = .ok (.iconst 0, 1) := by decide +kernel
theorem dX4_weighSet_9 : decode cX4_weighSet 9 = .ok (.istore_n 3, 1) := by decide +kernel
theorem dX4_weighSet_10 : decode cX4_weighSet 10 = .ok (.iload_n 3, 1) := by decide +kernel
theorem dX4_weighSet_11 : decode cX4_weighSet 11 = .ok (.bipush 10, 2) := by decide +kernel
theorem dX4_weighSet_13 : decode cX4_weighSet 13 = .ok (.if_icmp .ge 73, 3) := by decide +kernel
theorem dX4_weighSet_16 : decode cX4_weighSet 16 = .ok (.iload_n 1, 1) := by decide +kernel
theorem dX4_weighSet_17 : decode cX4_weighSet 17 = .ok (.iconst 1, 1) := by decide +kernel
theorem dX4_weighSet_18 : decode cX4_weighSet 18 = .ok (.iload_n 3, 1) := by decide +kernel
theorem dX4_weighSet_19 : decode cX4_weighSet 19 = .ok (.ishl, 1) := by decide +kernel
theorem dX4_weighSet_20 : decode cX4_weighSet 20 = .ok (.iconst (-1), 1) := by decide +kernel
theorem dX4_weighSet_21 : decode cX4_weighSet 21 = .ok (.ixor, 1) := by decide +kernel
theorem dX4_weighSet_22 : decode cX4_weighSet 22 = .ok (.iand, 1) := by decide +kernel
theorem dX4_weighSet_23 : decode cX4_weighSet 23 = .ok (.istore 4, 2) := by decide +kernel
theorem dX4_weighSet_25 : decode cX4_weighSet 25 = .ok (.iload 4, 2) := by decide +kernel
theorem dX4_weighSet_27 : decode cX4_weighSet 27 = .ok (.iload_n 1, 1) := by decide +kernel
theorem dX4_weighSet_28 : decode cX4_weighSet 28 = .ok (.if_icmp .eq 52, 3) := by decide +kernel
theorem dX4_weighSet_31 : decode cX4_weighSet 31 = .ok (.aload_n 0, 1) := by decide +kernel
theorem dX4_weighSet_32 : decode cX4_weighSet 32 = .ok (.getfield 18, 3) := by decide +kernel
theorem dX4_weighSet_35 : decode cX4_weighSet 35 = .ok (.iload_n 3, 1) := by decide +kernel
theorem dX4_weighSet_36 : decode cX4_weighSet 36 = .ok (.iaload, 1) := by decide +kernel
theorem dX4_weighSet_37 : decode cX4_weighSet 37 = .ok (.aload_n 0, 1) := by decide +kernel
theorem dX4_weighSet_38 : decode cX4_weighSet 38 = .ok (.iload_n 3, 1) := by decide +kernel
theorem dX4_weighSet_39 : decode cX4_weighSet 39 = .ok (.iload_n 2, 1) := by decide +kernel
theorem dX4_weighSet_40 : decode cX4_weighSet 40 = .ok (.invokevirtual 57, 3) := by decide +kernel
theorem dX4_weighSet_43 : decode cX4_weighSet 43 = .ok (.imul, 1) := by decide +kernel
theorem dX4_weighSet_44 : decode cX4_weighSet 44 = .ok (.aload_n 0, 1) := by decide +kernel
theorem dX4_weighSet_45 : decode cX4_weighSet 45 = .ok (.getfield 25, 3) := by decide +kernel
theorem dX4_weighSet_48 : decode cX4_weighSet 48 = .ok (.iload 4, 2) := by decide +kernel
theorem dX4_weighSet_50 : decode cX4_weighSet 50 = .ok (.iaload, 1) := by decide +kernel
theorem dX4_weighSet_51 : decode cX4_weighSet 51 = .ok (.iadd, 1) := by decide +kernel
theorem dX4_weighSet_52 : decode cX4_weighSet 52 = .ok (.istore 5, 2) := by decide +kernel
theorem dX4_weighSet_54 : decode cX4_weighSet 54 = .ok (.iload 5, 2) := by decide +kernel
theorem dX4_weighSet_56 : decode cX4_weighSet 56 = .ok (.aload_n 0, 1) := by decide +kernel
theorem dX4_weighSet_57 : decode cX4_weighSet 57 = .ok (.getfield 25, 3) := by decide +kernel
theorem dX4_weighSet_60 : decode cX4_weighSet 60 = .ok (.iload_n 1, 1) := by decide +kernel
theorem dX4_weighSet_61 : decode cX4_weighSet 61 = .ok (.iaload, 1) := by decide +kernel
theorem dX4_weighSet_62 : decode cX4_weighSet 62 = .ok (.if_icmp .ge 18, 3) := by decide +kernel
theorem dX4_weighSet_65 : decode cX4_weighSet 65 = .ok (.aload_n 0, 1) := by decide +kernel
theorem dX4_weighSet_66 : decode cX4_weighSet 66 = .ok (.getfield 25, 3) := by decide +kernel
theorem dX4_weighSet_69 : decode cX4_weighSet 69 = .ok (.iload_n 1, 1) := by decide +kernel
theorem dX4_weighSet_70 : decode cX4_weighSet 70 = .ok (.iload 5, 2) := by decide +kernel
theorem dX4_weighSet_72 : decode cX4_weighSet 72 = .ok (.iastore, 1) := by decide +kernel
theorem dX4_weighSet_73 : decode cX4_weighSet 73 = .ok (.aload_n 0, 1) := by decide +kernel
theorem dX4_weighSet_74 : decode cX4_weighSet 74 = .ok (.getfield 28, 3) := by decide +kernel
theorem dX4_weighSet_77 : decode cX4_weighSet 77 = .ok (.iload_n 1, 1) := by decide +kernel
theorem dX4_weighSet_78 : decode cX4_weighSet 78 = .ok (.iload_n 3, 1) := by decide +kernel
theorem dX4_weighSet_79 : decode cX4_weighSet 79 = .ok (.iastore, 1) := by decide +kernel
theorem dX4_weighSet_80 : decode cX4_weighSet 80 = .ok (.iinc 3 1, 3) := by decide +kernel
theorem dX4_weighSet_83 : decode cX4_weighSet 83 = .ok (.goto (-73), 3) := by decide +kernel
theorem dX4_weighSet_86 : decode cX4_weighSet 86 = .ok (.return_, 1) := by decide +kernel
theorem dX4_latenessOf_0 : decode cX4_latenessOf 0 = .ok (.iconst 0, 1) := by decide +kernel
theorem dX4_latenessOf_1 : decode cX4_latenessOf 1 = .ok (.iload_n 2, 1) := by decide +kernel
theorem dX4_latenessOf_2 : decode cX4_latenessOf 2 = .ok (.aload_n 0, 1) := by decide +kernel
theorem dX4_latenessOf_3 : decode cX4_latenessOf 3 = .ok (.getfield 11, 3) := by decide +kernel
theorem dX4_latenessOf_6 : decode cX4_latenessOf 6 = .ok (.iload_n 1, 1) := by decide +kernel
theorem dX4_latenessOf_7 : decode cX4_latenessOf 7 = .ok (.iaload, 1) := by decide +kernel
theorem dX4_latenessOf_8 : decode cX4_latenessOf 8 = .ok (.iadd, 1) := by decide +kernel
theorem dX4_latenessOf_9 : decode cX4_latenessOf 9 = .ok (.aload_n 0, 1) := by decide +kernel
theorem dX4_latenessOf_10 : decode cX4_latenessOf 10 = .ok (.getfield 21, 3) := by decide +kernel
theorem dX4_latenessOf_13 : decode cX4_latenessOf 13 = .ok (.iadd, 1) := by decide +kernel
theorem dX4_latenessOf_14 : decode cX4_latenessOf 14 = .ok (.aload_n 0, 1) := by decide +kernel
theorem dX4_latenessOf_15 : decode cX4_latenessOf 15 = .ok (.getfield 15, 3) := by decide +kernel
theorem dX4_latenessOf_18 : decode cX4_latenessOf 18 = .ok (.iload_n 1, 1) := by decide +kernel
theorem dX4_latenessOf_19 : decode cX4_latenessOf 19 = .ok (.iaload, 1) := by decide +kernel
theorem dX4_latenessOf_20 : decode cX4_latenessOf 20 = .ok (.isub, 1) := by decide +kernel
theorem dX4_latenessOf_21 : decode cX4_latenessOf 21 = .ok (.invokestatic 61, 3) := by decide +kernel
theorem dX4_latenessOf_24 : decode cX4_latenessOf 24 = .ok (.ireturn, 1) := by decide +kernel
theorem dX4_keepRow_0 : decode cX4_keepRow 0 = .ok (.iload_n 1, 1) := by decide +kernel
theorem dX4_keepRow_1 : decode cX4_keepRow 1 = .ok (.istore_n 2, 1) := by decide +kernel
theorem dX4_keepRow_2 : decode cX4_keepRow 2 = .ok (.iconst 0, 1) := by decide +kernel
theorem dX4_keepRow_3 : decode cX4_keepRow 3 = .ok (.istore_n 3, 1) := by decide +kernel
theorem dX4_keepRow_4 : decode cX4_keepRow 4 = .ok (.aload_n 0, 1) := by decide +kernel
theorem dX4_keepRow_5 : decode cX4_keepRow 5 = .ok (.iconst 0, 1) := by decide +kernel
theorem dX4_keepRow_6 : decode cX4_keepRow 6 = .ok (.putfield 37, 3) := by decide +kernel
theorem dX4_keepRow_9 : decode cX4_keepRow 9 = .ok (.iconst 0, 1) := by decide +kernel
theorem dX4_keepRow_10 : decode cX4_keepRow 10 = .ok (.istore 4, 2) := by decide +kernel
theorem dX4_keepRow_12 : decode cX4_keepRow 12 = .ok (.iload 4, 2) := by decide +kernel
theorem dX4_keepRow_14 : decode cX4_keepRow 14 = .ok (.bipush 10, 2) := by decide +kernel
theorem dX4_keepRow_16 : decode cX4_keepRow 16 = .ok (.if_icmp .ge 71, 3) := by decide +kernel
theorem dX4_keepRow_19 : decode cX4_keepRow 19 = .ok (.iload_n 2, 1) := by decide +kernel
theorem dX4_keepRow_20 : decode cX4_keepRow 20 = .ok (.ifCond .eq 67, 3) := by decide +kernel
theorem dX4_keepRow_23 : decode cX4_keepRow 23 = .ok (.aload_n 0, 1) := by decide +kernel
theorem dX4_keepRow_24 : decode cX4_keepRow 24 = .ok (.getfield 28, 3) := by decide +kernel
theorem dX4_keepRow_27 : decode cX4_keepRow 27 = .ok (.iload_n 2, 1) := by decide +kernel
theorem dX4_keepRow_28 : decode cX4_keepRow 28 = .ok (.iaload, 1) := by decide +kernel
theorem dX4_keepRow_29 : decode cX4_keepRow 29 = .ok (.istore 5, 2) := by decide +kernel
theorem dX4_keepRow_31 : decode cX4_keepRow 31 = .ok (.aload_n 0, 1) := by decide +kernel
theorem dX4_keepRow_32 : decode cX4_keepRow 32 = .ok (.getfield 31, 3) := by decide +kernel
theorem dX4_keepRow_35 : decode cX4_keepRow 35 = .ok (.iload 4, 2) := by decide +kernel
theorem dX4_keepRow_37 : decode cX4_keepRow 37 = .ok (.iload 5, 2) := by decide +kernel
theorem dX4_keepRow_39 : decode cX4_keepRow 39 = .ok (.iastore, 1) := by decide +kernel
theorem dX4_keepRow_40 : decode cX4_keepRow 40 = .ok (.aload_n 0, 1) := by decide +kernel
theorem dX4_keepRow_41 : decode cX4_keepRow 41 = .ok (.getfield 34, 3) := by decide +kernel
theorem dX4_keepRow_44 : decode cX4_keepRow 44 = .ok (.iload 4, 2) := by decide +kernel
theorem dX4_keepRow_46 : decode cX4_keepRow 46 = .ok (.aload_n 0, 1) := by decide +kernel
theorem dX4_keepRow_47 : decode cX4_keepRow 47 = .ok (.iload 5, 2) := by decide +kernel
theorem dX4_keepRow_49 : decode cX4_keepRow 49 = .ok (.iload_n 3, 1) := by decide +kernel
theorem dX4_keepRow_50 : decode cX4_keepRow 50 = .ok (.invokevirtual 57, 3) := by decide +kernel
theorem dX4_keepRow_53 : decode cX4_keepRow 53 = .ok (.iastore, 1) := by decide +kernel
theorem dX4_keepRow_54 : decode cX4_keepRow 54 = .ok (.aload_n 0, 1) := by decide +kernel
theorem dX4_keepRow_55 : decode cX4_keepRow 55 = .ok (.iload 4, 2) := by decide +kernel
theorem dX4_keepRow_57 : decode cX4_keepRow 57 = .ok (.iconst 1, 1) := by decide +kernel
theorem dX4_keepRow_58 : decode cX4_keepRow 58 = .ok (.iadd, 1) := by decide +kernel
theorem dX4_keepRow_59 : decode cX4_keepRow 59 = .ok (.putfield 37, 3) := by decide +kernel
theorem dX4_keepRow_62 : decode cX4_keepRow 62 = .ok (.iload_n 3, 1) := by decide +kernel
theorem dX4_keepRow_63 : decode cX4_keepRow 63 = .ok (.aload_n 0, 1) := by decide +kernel
theorem dX4_keepRow_64 : decode cX4_keepRow 64 = .ok (.getfield 11, 3) := by decide +kernel
theorem dX4_keepRow_67 : decode cX4_keepRow 67 = .ok (.iload 5, 2) := by decide +kernel
theorem dX4_keepRow_69 : decode cX4_keepRow 69 = .ok (.iaload, 1) := by decide +kernel
theorem dX4_keepRow_70 : decode cX4_keepRow 70 = .ok (.iadd, 1) := by decide +kernel
theorem dX4_keepRow_71 : decode cX4_keepRow 71 = .ok (.istore_n 3, 1) := by decide +kernel
theorem dX4_keepRow_72 : decode cX4_keepRow 72 = .ok (.iload_n 2, 1) := by decide +kernel
theorem dX4_keepRow_73 : decode cX4_keepRow 73 = .ok (.iconst 1, 1) := by decide +kernel
theorem dX4_keepRow_74 : decode cX4_keepRow 74 = .ok (.iload 5, 2) := by decide +kernel
theorem dX4_keepRow_76 : decode cX4_keepRow 76 = .ok (.ishl, 1) := by decide +kernel
theorem dX4_keepRow_77 : decode cX4_keepRow 77 = .ok (.iconst (-1), 1) := by decide +kernel
theorem dX4_keepRow_78 : decode cX4_keepRow 78 = .ok (.ixor, 1) := by decide +kernel
theorem dX4_keepRow_79 : decode cX4_keepRow 79 = .ok (.iand, 1) := by decide +kernel
theorem dX4_keepRow_80 : decode cX4_keepRow 80 = .ok (.istore_n 2, 1) := by decide +kernel
theorem dX4_keepRow_81 : decode cX4_keepRow 81 = .ok (.iinc 4 1, 3) := by decide +kernel
theorem dX4_keepRow_84 : decode cX4_keepRow 84 = .ok (.goto (-72), 3) := by decide +kernel
theorem dX4_keepRow_87 : decode cX4_keepRow 87 = .ok (.return_, 1) := by decide +kernel
theorem dX5_init_0 : decode cX5_init 0 = .ok (.aload_n 0, 1) := by decide +kernel
theorem dX5_init_1 : decode cX5_init 1 = .ok (.invokespecial 3, 3) := by decide +kernel
theorem dX5_init_4 : decode cX5_init 4 = .ok (.aload_n 0, 1) := by decide +kernel
theorem dX5_init_5 : decode cX5_init 5 = .ok (.sipush 1000, 3) := by decide +kernel
theorem dX5_init_8 : decode cX5_init 8 = .ok (.newarray .int, 2) := by decide +kernel
theorem dX5_init_10 : decode cX5_init 10 = .ok (.putfield 11, 3) := by decide +kernel
theorem dX5_init_13 : decode cX5_init 13 = .ok (.aload_n 0, 1) := by decide +kernel
theorem dX5_init_14 : decode cX5_init 14 = .ok (.sipush 1000, 3) := by decide +kernel
theorem dX5_init_17 : decode cX5_init 17 = .ok (.newarray .int, 2) := by decide +kernel
theorem dX5_init_19 : decode cX5_init 19 = .ok (.putfield 17, 3) := by decide +kernel
theorem dX5_init_22 : decode cX5_init 22 = .ok (.aload_n 0, 1) := by decide +kernel
theorem dX5_init_23 : decode cX5_init 23 = .ok (.aload_n 1, 1) := by decide +kernel
theorem dX5_init_24 : decode cX5_init 24 = .ok (.putfield 20, 3) := by decide +kernel
theorem dX5_init_27 : decode cX5_init 27 = .ok (.return_, 1) := by decide +kernel
theorem dX5_numberAt_0 : decode cX5_numberAt 0 = .ok (.iload_n 1, 1) := by decide +kernel
theorem dX5_numberAt_1 : decode cX5_numberAt 1 = .ok (.ifCond .lt 19, 3) := by decide +kernel
theorem dX5_numberAt_4 : decode cX5_numberAt 4 = .ok (.iload_n 1, 1) := by decide +kernel
theorem dX5_numberAt_5 : decode cX5_numberAt 5 = .ok (.sipush 1000, 3) := by decide +kernel
theorem dX5_numberAt_8 : decode cX5_numberAt 8 = .ok (.if_icmp .ge 12, 3) := by decide +kernel
theorem dX5_numberAt_11 : decode cX5_numberAt 11 = .ok (.aload_n 0, 1) := by decide +kernel
theorem dX5_numberAt_12 : decode cX5_numberAt 12 = .ok (.getfield 11, 3) := by decide +kernel
theorem dX5_numberAt_15 : decode cX5_numberAt 15 = .ok (.iload_n 1, 1) := by decide +kernel
theorem dX5_numberAt_16 : decode cX5_numberAt 16 = .ok (.iaload, 1) := by decide +kernel
theorem dX5_numberAt_17 : decode cX5_numberAt 17 = .ok (.goto 4, 3) := by decide +kernel
theorem dX5_numberAt_20 : decode cX5_numberAt 20 = .ok (.iconst (-1), 1) := by decide +kernel
theorem dX5_numberAt_21 : decode cX5_numberAt 21 = .ok (.ireturn, 1) := by decide +kernel
theorem dX5_part_0 : decode cX5_part 0 = .ok (.aload_n 0, 1) := by decide +kernel
theorem dX5_part_1 : decode cX5_part 1 = .ok (.iload_n 1, 1) := by decide +kernel
theorem dX5_part_2 : decode cX5_part 2 = .ok (.iload_n 2, 1) := by decide +kernel
theorem dX5_part_3 : decode cX5_part 3 = .ok (.invokevirtual 24, 3) := by decide +kernel
theorem dX5_part_6 : decode cX5_part 6 = .ok (.iload_n 3, 1) := by decide +kernel
theorem dX5_part_7 : decode cX5_part 7 = .ok (.istore 4, 2) := by decide +kernel
theorem dX5_part_9 : decode cX5_part 9 = .ok (.iconst 0, 1) := by decide +kernel
theorem dX5_part_10 : decode cX5_part 10 = .ok (.istore 5, 2) := by decide +kernel
theorem dX5_part_12 : decode cX5_part 12 = .ok (.iload 5, 2) := by decide +kernel
theorem dX5_part_14 : decode cX5_part 14 = .ok (.aload_n 0, 1) := by decide +kernel
theorem dX5_part_15 : decode cX5_part 15 = .ok (.getfield 20, 3) := by decide +kernel
theorem dX5_part_18 : decode cX5_part 18 = .ok (.invokevirtual 28, 3) := by decide +kernel
theorem dX5_part_21 : decode cX5_part 21 = .ok (.if_icmp .ge 42, 3) := by decide +kernel
theorem dX5_part_24 : decode cX5_part 24 = .ok (.aload_n 0, 1) := by decide +kernel
theorem dX5_part_25 : decode cX5_part 25 = .ok (.getfield 20, 3) := by decide +kernel
theorem dX5_part_28 : decode cX5_part 28 = .ok (.iload 5, 2) := by decide +kernel
theorem dX5_part_30 : decode cX5_part 30 = .ok (.invokevirtual 34, 3) := by decide +kernel
theorem dX5_part_33 : decode cX5_part 33 = .ok (.istore 6, 2) := by decide +kernel
theorem dX5_part_35 : decode cX5_part 35 = .ok (.aload_n 0, 1) := by decide +kernel
theorem dX5_part_36 : decode cX5_part 36 = .ok (.iload 6, 2) := by decide +kernel
theorem dX5_part_38 : decode cX5_part 38 = .ok (.invokevirtual 38, 3) := by decide +kernel
theorem dX5_part_41 : decode cX5_part 41 = .ok (.bipush (-2), 2) := by decide +kernel
theorem dX5_part_43 : decode cX5_part 43 = .ok (.if_icmp .ne 14, 3) := by decide +kernel
theorem dX5_part_46 : decode cX5_part 46 = .ok (.aload_n 0, 1) := by decide +kernel
theorem dX5_part_47 : decode cX5_part 47 = .ok (.iload 6, 2) := by decide +kernel
theorem dX5_part_49 : decode cX5_part 49 = .ok (.iload 4, 2) := by decide +kernel
theorem dX5_part_51 : decode cX5_part 51 = .ok (.invokevirtual 41, 3) := by decide +kernel
theorem dX5_part_54 : decode cX5_part 54 = .ok (.iinc 4 1, 3) := by decide +kernel
theorem dX5_part_57 : decode cX5_part 57 = .ok (.iinc 5 1, 3) := by decide +kernel
theorem dX5_part_60 : decode cX5_part 60 = .ok (.goto (-48), 3) := by decide +kernel
theorem dX5_part_63 : decode cX5_part 63 = .ok (.iload 4, 2) := by decide +kernel
theorem dX5_part_65 : decode cX5_part 65 = .ok (.iload_n 3, 1) := by decide +kernel
theorem dX5_part_66 : decode cX5_part 66 = .ok (.isub, 1) := by decide +kernel
theorem dX5_part_67 : decode cX5_part 67 = .ok (.ireturn, 1) := by decide +kernel
theorem dX5_openCells_0 : decode cX5_openCells 0 = .ok (.iconst 0, 1) := by decide +kernel
theorem dX5_openCells_1 : decode cX5_openCells 1 = .ok (.istore_n 3, 1) := by decide +kernel
theorem dX5_openCells_2 : decode cX5_openCells 2 = .ok (.iload_n 3, 1) := by decide +kernel
theorem dX5_openCells_3 : decode cX5_openCells 3 = .ok (.aload_n 0, 1) := by decide +kernel
theorem dX5_openCells_4 : decode cX5_openCells 4 = .ok (.getfield 20, 3) := by decide +kernel
theorem dX5_openCells_7 : decode cX5_openCells 7 = .ok (.invokevirtual 28, 3) := by decide +kernel
theorem dX5_openCells_10 : decode cX5_openCells 10 = .ok (.if_icmp .ge 56, 3) := by decide +kernel
theorem dX5_openCells_13 : decode cX5_openCells 13 = .ok (.aload_n 0, 1) := by decide +kernel
theorem dX5_openCells_14 : decode cX5_openCells 14 = .ok (.getfield 20, 3) := by decide +kernel
theorem dX5_openCells_17 : decode cX5_openCells 17 = .ok (.iload_n 3, 1) := by decide +kernel
theorem dX5_openCells_18 : decode cX5_openCells 18 = .ok (.invokevirtual 34, 3) := by decide +kernel
theorem dX5_openCells_21 : decode cX5_openCells 21 = .ok (.istore 4, 2) := by decide +kernel
theorem dX5_openCells_23 : decode cX5_openCells 23 = .ok (.aload_n 0, 1) := by decide +kernel
theorem dX5_openCells_24 : decode cX5_openCells 24 = .ok (.getfield 20, 3) := by decide +kernel
theorem dX5_openCells_27 : decode cX5_openCells 27 = .ok (.iload 4, 2) := by decide +kernel
theorem dX5_openCells_29 : decode cX5_openCells 29 = .ok (.invokevirtual 44, 3) := by decide +kernel
theorem dX5_openCells_32 : decode cX5_openCells 32 = .ok (.istore 5, 2) := by decide +kernel
theorem dX5_openCells_34 : decode cX5_openCells 34 = .ok (.iload 5, 2) := by decide +kernel
theorem dX5_openCells_36 : decode cX5_openCells 36 = .ok (.iload_n 1, 1) := by decide +kernel
theorem dX5_openCells_37 : decode cX5_openCells 37 = .ok (.ishr, 1) := by decide +kernel
theorem dX5_openCells_38 : decode cX5_openCells 38 = .ok (.iconst 1, 1) := by decide +kernel
theorem dX5_openCells_39 : decode cX5_openCells 39 = .ok (.iand, 1) := by decide +kernel
theorem dX5_openCells_40 : decode cX5_openCells 40 = .ok (.iconst 1, 1) := by decide +kernel
theorem dX5_openCells_41 : decode cX5_openCells 41 = .ok (.if_icmp .ne 19, 3) := by decide +kernel
theorem dX5_openCells_44 : decode cX5_openCells 44 = .ok (.iload 5, 2) := by decide +kernel
theorem dX5_openCells_46 : decode cX5_openCells 46 = .ok (.iload_n 2, 1) := by decide +kernel
theorem dX5_openCells_47 : decode cX5_openCells 47 = .ok (.iand, 1) := by decide +kernel
theorem dX5_openCells_48 : decode cX5_openCells 48 = .ok (.ifCond .ne 12, 3) := by decide +kernel
theorem dX5_openCells_51 : decode cX5_openCells 51 = .ok (.aload_n 0, 1) := by decide +kernel
theorem dX5_openCells_52 : decode cX5_openCells 52 = .ok (.getfield 11, 3) := by decide +kernel
theorem dX5_openCells_55 : decode cX5_openCells 55 = .ok (.iload 4, 2) := by decide +kernel
theorem dX5_openCells_57 : decode cX5_openCells 57 = .ok (.bipush (-2), 2) := by decide +kernel
theorem dX5_openCells_59 : decode cX5_openCells 59 = .ok (.iastore, 1) := by decide +kernel
theorem dX5_openCells_60 : decode cX5_openCells 60 = .ok (.iinc 3 1, 3) := by decide +kernel
theorem dX5_openCells_63 : decode cX5_openCells 63 = .ok (.goto (-61), 3) := by decide +kernel
theorem dX5_openCells_66 : decode cX5_openCells 66 = .ok (.return_, 1) := by decide +kernel
theorem dX5_spread_0 : decode cX5_spread 0 = .ok (.aload_n 0, 1) := by decide +kernel
theorem dX5_spread_1 : decode cX5_spread 1 = .ok (.iload_n 1, 1) := by decide +kernel
theorem dX5_spread_2 : decode cX5_spread 2 = .ok (.iload_n 2, 1) := by decide +kernel
theorem dX5_spread_3 : decode cX5_spread 3 = .ok (.iconst 0, 1) := by decide +kernel
theorem dX5_spread_4 : decode cX5_spread 4 = .ok (.invokevirtual 47, 3) := by decide +kernel
theorem dX5_spread_7 : decode cX5_spread 7 = .ok (.istore_n 3, 1) := by decide +kernel
theorem dX5_spread_8 : decode cX5_spread 8 = .ok (.iconst 0, 1) := by decide +kernel
theorem dX5_spread_9 : decode cX5_spread 9 = .ok (.istore 4, 2) := by decide +kernel
theorem dX5_spread_11 : decode cX5_spread 11 = .ok (.iload 4, 2) := by decide +kernel
theorem dX5_spread_13 : decode cX5_spread 13 = .ok (.iload_n 3, 1) := by decide +kernel
theorem dX5_spread_14 : decode cX5_spread 14 = .ok (.if_icmp .ge 56, 3) := by decide +kernel
theorem dX5_spread_17 : decode cX5_spread 17 = .ok (.iload 4, 2) := by decide +kernel
theorem dX5_spread_19 : decode cX5_spread 19 = .ok (.sipush 1000, 3) := by decide +kernel
theorem dX5_spread_22 : decode cX5_spread 22 = .ok (.if_icmp .ge 48, 3) := by decide +kernel
theorem dX5_spread_25 : decode cX5_spread 25 = .ok (.iconst 0, 1) := by decide +kernel
theorem dX5_spread_26 : decode cX5_spread 26 = .ok (.istore 5, 2) := by decide +kernel
theorem dX5_spread_28 : decode cX5_spread 28 = .ok (.iload 5, 2) := by decide +kernel
theorem dX5_spread_30 : decode cX5_spread 30 = .ok (.bipush 6, 2) := by decide +kernel
theorem dX5_spread_32 : decode cX5_spread 32 = .ok (.if_icmp .ge 32, 3) := by decide +kernel
theorem dX5_spread_35 : decode cX5_spread 35 = .ok (.aload_n 0, 1) := by decide +kernel
theorem dX5_spread_36 : decode cX5_spread 36 = .ok (.aload_n 0, 1) := by decide +kernel
theorem dX5_spread_37 : decode cX5_spread 37 = .ok (.getfield 20, 3) := by decide +kernel
theorem dX5_spread_40 : decode cX5_spread 40 = .ok (.aload_n 0, 1) := by decide +kernel
theorem dX5_spread_41 : decode cX5_spread 41 = .ok (.getfield 17, 3) := by decide +kernel
theorem dX5_spread_44 : decode cX5_spread 44 = .ok (.iload 4, 2) := by decide +kernel
theorem dX5_spread_46 : decode cX5_spread 46 = .ok (.iaload, 1) := by decide +kernel
theorem dX5_spread_47 : decode cX5_spread 47 = .ok (.iload 5, 2) := by decide +kernel
theorem dX5_spread_49 : decode cX5_spread 49 = .ok (.invokevirtual 51, 3) := by decide +kernel
theorem dX5_spread_52 : decode cX5_spread 52 = .ok (.iload_n 2, 1) := by decide +kernel
theorem dX5_spread_53 : decode cX5_spread 53 = .ok (.iload_n 3, 1) := by decide +kernel
theorem dX5_spread_54 : decode cX5_spread 54 = .ok (.invokevirtual 47, 3) := by decide +kernel
theorem dX5_spread_57 : decode cX5_spread 57 = .ok (.istore_n 3, 1) := by decide +kernel
theorem dX5_spread_58 : decode cX5_spread 58 = .ok (.iinc 5 1, 3) := by decide +kernel
theorem dX5_spread_61 : decode cX5_spread 61 = .ok (.goto (-33), 3) := by decide +kernel
theorem dX5_spread_64 : decode cX5_spread 64 = .ok (.iinc 4 1, 3) := by decide +kernel
theorem dX5_spread_67 : decode cX5_spread 67 = .ok (.goto (-56), 3) := by decide +kernel
theorem dX5_spread_70 : decode cX5_spread 70 = .ok (.return_, 1) := by decide +kernel
theorem dX5_reach_0 : decode cX5_reach 0 = .ok (.iload_n 1, 1) := by decide +kernel
theorem dX5_reach_1 : decode cX5_reach 1 = .ok (.ifCond .lt 28, 3) := by decide +kernel
theorem dX5_reach_4 : decode cX5_reach 4 = .ok (.iload_n 1, 1) := by decide +kernel
theorem dX5_reach_5 : decode cX5_reach 5 = .ok (.sipush 1000, 3) := by decide +kernel
theorem dX5_reach_8 : decode cX5_reach 8 = .ok (.if_icmp .ge 21, 3) := by decide +kernel
theorem dX5_reach_11 : decode cX5_reach 11 = .ok (.aload_n 0, 1) := by decide +kernel
theorem dX5_reach_12 : decode cX5_reach 12 = .ok (.getfield 11, 3) := by decide +kernel
theorem dX5_reach_15 : decode cX5_reach 15 = .ok (.iload_n 1, 1) := by decide +kernel
theorem dX5_reach_16 : decode cX5_reach 16 = .ok (.iaload, 1) := by decide +kernel
theorem dX5_reach_17 : decode cX5_reach 17 = .ok (.bipush (-2), 2) := by decide +kernel
theorem dX5_reach_19 : decode cX5_reach 19 = .ok (.if_icmp .ne 10, 3) := by decide +kernel
theorem dX5_reach_22 : decode cX5_reach 22 = .ok (.iload_n 3, 1) := by decide +kernel
theorem dX5_reach_23 : decode cX5_reach 23 = .ok (.sipush 1000, 3) := by decide +kernel
theorem dX5_reach_26 : decode cX5_reach 26 = .ok (.if_icmp .lt 5, 3) := by decide +kernel
theorem dX5_reach_29 : decode cX5_reach 29 = .ok (.iload_n 3, 1) := by decide +kernel
theorem dX5_reach_30 : decode cX5_reach 30 = .ok (.ireturn, 1) := by decide +kernel
theorem dX5_reach_31 : decode cX5_reach 31 = .ok (.aload_n 0, 1) := by decide +kernel
theorem dX5_reach_32 : decode cX5_reach 32 = .ok (.getfield 11, 3) := by decide +kernel
theorem dX5_reach_35 : decode cX5_reach 35 = .ok (.iload_n 1, 1) := by decide +kernel
theorem dX5_reach_36 : decode cX5_reach 36 = .ok (.iload_n 2, 1) := by decide +kernel
theorem dX5_reach_37 : decode cX5_reach 37 = .ok (.iastore, 1) := by decide +kernel
theorem dX5_reach_38 : decode cX5_reach 38 = .ok (.aload_n 0, 1) := by decide +kernel
theorem dX5_reach_39 : decode cX5_reach 39 = .ok (.getfield 17, 3) := by decide +kernel
theorem dX5_reach_42 : decode cX5_reach 42 = .ok (.iload_n 3, 1) := by decide +kernel
theorem dX5_reach_43 : decode cX5_reach 43 = .ok (.iload_n 1, 1) := by decide +kernel
theorem dX5_reach_44 : decode cX5_reach 44 = .ok (.iastore, 1) := by decide +kernel
theorem dX5_reach_45 : decode cX5_reach 45 = .ok (.iload_n 3, 1) := by decide +kernel
theorem dX5_reach_46 : decode cX5_reach 46 = .ok (.iconst 1, 1) := by decide +kernel
theorem dX5_reach_47 : decode cX5_reach 47 = .ok (.iadd, 1) := by decide +kernel
theorem dX5_reach_48 : decode cX5_reach 48 = .ok (.ireturn, 1) := by decide +kernel
theorem dX6_init_0 : decode cX6_init 0 = .ok (.aload_n 0, 1) := by decide +kernel
theorem dX6_init_1 : decode cX6_init 1 = .ok (.invokespecial 3, 3) := by decide +kernel
theorem dX6_init_4 : decode cX6_init 4 = .ok (.aload_n 0, 1) := by decide +kernel
theorem dX6_init_5 : decode cX6_init 5 = .ok (.sipush 1000, 3) := by decide +kernel
theorem dX6_init_8 : decode cX6_init 8 = .ok (.newarray .int, 2) := by decide +kernel
theorem dX6_init_10 : decode cX6_init 10 = .ok (.putfield 11, 3) := by decide +kernel
theorem dX6_init_13 : decode cX6_init 13 = .ok (.aload_n 0, 1) := by decide +kernel
theorem dX6_init_14 : decode cX6_init 14 = .ok (.sipush 1000, 3) := by decide +kernel
theorem dX6_init_17 : decode cX6_init 17 = .ok (.newarray .int, 2) := by decide +kernel
theorem dX6_init_19 : decode cX6_init 19 = .ok (.putfield 17, 3) := by decide +kernel
theorem dX6_init_22 : decode cX6_init 22 = .ok (.aload_n 0, 1) := by decide +kernel
theorem dX6_init_23 : decode cX6_init 23 = .ok (.sipush 1000, 3) := by decide +kernel
theorem dX6_init_26 : decode cX6_init 26 = .ok (.newarray .int, 2) := by decide +kernel
theorem dX6_init_28 : decode cX6_init 28 = .ok (.putfield 20, 3) := by decide +kernel
theorem dX6_init_31 : decode cX6_init 31 = .ok (.aload_n 0, 1) := by decide +kernel
theorem dX6_init_32 : decode cX6_init 32 = .ok (.sipush 1000, 3) := by decide +kernel
theorem dX6_init_35 : decode cX6_init 35 = .ok (.newarray .int, 2) := by decide +kernel
theorem dX6_init_37 : decode cX6_init 37 = .ok (.putfield 23, 3) := by decide +kernel
theorem dX6_init_40 : decode cX6_init 40 = .ok (.aload_n 0, 1) := by decide +kernel
theorem dX6_init_41 : decode cX6_init 41 = .ok (.bipush 20, 2) := by decide +kernel
theorem dX6_init_43 : decode cX6_init 43 = .ok (.putfield 26, 3) := by decide +kernel
theorem dX6_init_46 : decode cX6_init 46 = .ok (.aload_n 0, 1) := by decide +kernel
theorem dX6_init_47 : decode cX6_init 47 = .ok (.iconst 1, 1) := by decide +kernel
theorem dX6_init_48 : decode cX6_init 48 = .ok (.putfield 30, 3) := by decide +kernel
theorem dX6_init_51 : decode cX6_init 51 = .ok (.return_, 1) := by decide +kernel
theorem dX6_clear_0 : decode cX6_clear 0 = .ok (.aload_n 0, 1) := by decide +kernel
theorem dX6_clear_1 : decode cX6_clear 1 = .ok (.iconst 0, 1) := by decide +kernel
theorem dX6_clear_2 : decode cX6_clear 2 = .ok (.putfield 33, 3) := by decide +kernel
theorem dX6_clear_5 : decode cX6_clear 5 = .ok (.return_, 1) := by decide +kernel
theorem dX6_count_0 : decode cX6_count 0 = .ok (.aload_n 0, 1) := by decide +kernel
theorem dX6_count_1 : decode cX6_count 1 = .ok (.getfield 33, 3) := by decide +kernel
theorem dX6_count_4 : decode cX6_count 4 = .ok (.ireturn, 1) := by decide +kernel
theorem dX6_has_0 : decode cX6_has 0 = .ok (.iload_n 1, 1) := by decide +kernel
theorem dX6_has_1 : decode cX6_has 1 = .ok (.ifCond .lt 15, 3) := by decide +kernel
theorem dX6_has_4 : decode cX6_has 4 = .ok (.iload_n 1, 1) := by decide +kernel
theorem dX6_has_5 : decode cX6_has 5 = .ok (.aload_n 0, 1) := by decide +kernel
theorem dX6_has_6 : decode cX6_has 6 = .ok (.getfield 33, 3) := by decide +kernel
theorem dX6_has_9 : decode cX6_has 9 = .ok (.if_icmp .ge 7, 3) := by decide +kernel
theorem dX6_has_12 : decode cX6_has 12 = .ok (.iconst 1, 1) := by decide +kernel
theorem dX6_has_13 : decode cX6_has 13 = .ok (.goto 4, 3) := by decide +kernel
theorem dX6_has_16 : decode cX6_has 16 = .ok (.iconst 0, 1) := by decide +kernel
theorem dX6_has_17 : decode cX6_has 17 = .ok (.ireturn, 1) := by decide +kernel
theorem dX6_add_0 : decode cX6_add 0 = .ok (.iconst 0, 1) := by decide +kernel
theorem dX6_add_1 : decode cX6_add 1 = .ok (.istore_n 3, 1) := by decide +kernel
theorem dX6_add_2 : decode cX6_add 2 = .ok (.iload_n 3, 1) := by decide +kernel
theorem dX6_add_3 : decode cX6_add 3 = .ok (.iload_n 2, 1) := by decide +kernel
theorem dX6_add_4 : decode cX6_add 4 = .ok (.if_icmp .ge 69, 3) := by decide +kernel
theorem dX6_add_7 : decode cX6_add 7 = .ok (.aload_n 0, 1) := by decide +kernel
theorem dX6_add_8 : decode cX6_add 8 = .ok (.getfield 33, 3) := by decide +kernel
theorem dX6_add_11 : decode cX6_add 11 = .ok (.sipush 1000, 3) := by decide +kernel
theorem dX6_add_14 : decode cX6_add 14 = .ok (.if_icmp .ge 59, 3) := by decide +kernel
theorem dX6_add_17 : decode cX6_add 17 = .ok (.aload_n 0, 1) := by decide +kernel
theorem dX6_add_18 : decode cX6_add 18 = .ok (.getfield 11, 3) := by decide +kernel
theorem dX6_add_21 : decode cX6_add 21 = .ok (.aload_n 0, 1) := by decide +kernel
theorem dX6_add_22 : decode cX6_add 22 = .ok (.getfield 33, 3) := by decide +kernel
theorem dX6_add_25 : decode cX6_add 25 = .ok (.iload_n 1, 1) := by decide +kernel
theorem dX6_add_26 : decode cX6_add 26 = .ok (.iastore, 1) := by decide +kernel
theorem dX6_add_27 : decode cX6_add 27 = .ok (.aload_n 0, 1) := by decide +kernel
theorem dX6_add_28 : decode cX6_add 28 = .ok (.getfield 17, 3) := by decide +kernel
theorem dX6_add_31 : decode cX6_add 31 = .ok (.aload_n 0, 1) := by decide +kernel
theorem dX6_add_32 : decode cX6_add 32 = .ok (.getfield 33, 3) := by decide +kernel
theorem dX6_add_35 : decode cX6_add 35 = .ok (.iconst 0, 1) := by decide +kernel
theorem dX6_add_36 : decode cX6_add 36 = .ok (.iastore, 1) := by decide +kernel
theorem dX6_add_37 : decode cX6_add 37 = .ok (.aload_n 0, 1) := by decide +kernel
theorem dX6_add_38 : decode cX6_add 38 = .ok (.getfield 20, 3) := by decide +kernel
theorem dX6_add_41 : decode cX6_add 41 = .ok (.aload_n 0, 1) := by decide +kernel
theorem dX6_add_42 : decode cX6_add 42 = .ok (.getfield 33, 3) := by decide +kernel
theorem dX6_add_45 : decode cX6_add 45 = .ok (.iconst 0, 1) := by decide +kernel
theorem dX6_add_46 : decode cX6_add 46 = .ok (.iastore, 1) := by decide +kernel
theorem dX6_add_47 : decode cX6_add 47 = .ok (.aload_n 0, 1) := by decide +kernel
theorem dX6_add_48 : decode cX6_add 48 = .ok (.getfield 23, 3) := by decide +kernel
theorem dX6_add_51 : decode cX6_add 51 = .ok (.aload_n 0, 1) := by decide +kernel
theorem dX6_add_52 : decode cX6_add 52 = .ok (.getfield 33, 3) := by decide +kernel
theorem dX6_add_55 : decode cX6_add 55 = .ok (.iconst 0, 1) := by decide +kernel
theorem dX6_add_56 : decode cX6_add 56 = .ok (.iastore, 1) := by decide +kernel
theorem dX6_add_57 : decode cX6_add 57 = .ok (.aload_n 0, 1) := by decide +kernel
theorem dX6_add_58 : decode cX6_add 58 = .ok (.dup, 1) := by decide +kernel
theorem dX6_add_59 : decode cX6_add 59 = .ok (.getfield 33, 3) := by decide +kernel
theorem dX6_add_62 : decode cX6_add 62 = .ok (.iconst 1, 1) := by decide +kernel
theorem dX6_add_63 : decode cX6_add 63 = .ok (.iadd, 1) := by decide +kernel
theorem dX6_add_64 : decode cX6_add 64 = .ok (.putfield 33, 3) := by decide +kernel
theorem dX6_add_67 : decode cX6_add 67 = .ok (.iinc 3 1, 3) := by decide +kernel
theorem dX6_add_70 : decode cX6_add 70 = .ok (.goto (-68), 3) := by decide +kernel
theorem dX6_add_73 : decode cX6_add 73 = .ok (.return_, 1) := by decide +kernel
theorem dX6_gather_0 : decode cX6_gather 0 = .ok (.iconst 0, 1) := by decide +kernel
theorem dX6_gather_1 : decode cX6_gather 1 = .ok (.istore_n 3, 1) := by decide +kernel
theorem dX6_gather_2 : decode cX6_gather 2 = .ok (.iload_n 3, 1) := by decide +kernel
theorem dX6_gather_3 : decode cX6_gather 3 = .ok (.aload_n 1, 1) := by decide +kernel
theorem dX6_gather_4 : decode cX6_gather 4 = .ok (.invokevirtual 36, 3) := by decide +kernel
theorem dX6_gather_7 : decode cX6_gather 7 = .ok (.if_icmp .ge 68, 3) := by decide +kernel
theorem dX6_gather_10 : decode cX6_gather 10 = .ok (.aload_n 1, 1) := by decide +kernel
theorem dX6_gather_11 : decode cX6_gather 11 = .ok (.iload_n 3, 1) := by decide +kernel
theorem dX6_gather_12 : decode cX6_gather 12 = .ok (.invokevirtual 42, 3) := by decide +kernel
theorem dX6_gather_15 : decode cX6_gather 15 = .ok (.istore 4, 2) := by decide +kernel
theorem dX6_gather_17 : decode cX6_gather 17 = .ok (.aload_n 2, 1) := by decide +kernel
theorem dX6_gather_18 : decode cX6_gather 18 = .ok (.iload 4, 2) := by decide +kernel
theorem dX6_gather_20 : decode cX6_gather 20 = .ok (.invokevirtual 46, 3) := by decide +kernel
theorem dX6_gather_23 : decode cX6_gather 23 = .ok (.istore 5, 2) := by decide +kernel
theorem dX6_gather_25 : decode cX6_gather 25 = .ok (.aload_n 0, 1) := by decide +kernel
theorem dX6_gather_26 : decode cX6_gather 26 = .ok (.iload 5, 2) := by decide +kernel
theorem dX6_gather_28 : decode cX6_gather 28 = .ok (.invokevirtual 51, 3) := by decide +kernel
theorem dX6_gather_31 : decode cX6_gather 31 = .ok (.ifCond .eq 38, 3) := by decide +kernel
theorem dX6_gather_34 : decode cX6_gather 34 = .ok (.aload_n 0, 1) := by decide +kernel
theorem dX6_gather_35 : decode cX6_gather 35 = .ok (.getfield 17, 3) := by decide +kernel
theorem dX6_gather_38 : decode cX6_gather 38 = .ok (.iload 5, 2) := by decide +kernel
theorem dX6_gather_40 : decode cX6_gather 40 = .ok (.dup2, 1) := by decide +kernel
theorem dX6_gather_41 : decode cX6_gather 41 = .ok (.iaload, 1) := by decide +kernel
theorem dX6_gather_42 : decode cX6_gather 42 = .ok (.iconst 1, 1) := by decide +kernel
theorem dX6_gather_43 : decode cX6_gather 43 = .ok (.iadd, 1) := by decide +kernel
theorem dX6_gather_44 : decode cX6_gather 44 = .ok (.iastore, 1) := by decide +kernel
theorem dX6_gather_45 : decode cX6_gather 45 = .ok (.aload_n 0, 1) := by decide +kernel
theorem dX6_gather_46 : decode cX6_gather 46 = .ok (.getfield 20, 3) := by decide +kernel
theorem dX6_gather_49 : decode cX6_gather 49 = .ok (.iload 5, 2) := by decide +kernel
theorem dX6_gather_51 : decode cX6_gather 51 = .ok (.dup2, 1) := by decide +kernel
theorem dX6_gather_52 : decode cX6_gather 52 = .ok (.iaload, 1) := by decide +kernel
theorem dX6_gather_53 : decode cX6_gather 53 = .ok (.aload_n 1, 1) := by decide +kernel
theorem dX6_gather_54 : decode cX6_gather 54 = .ok (.iload 4, 2) := by decide +kernel
theorem dX6_gather_56 : decode cX6_gather 56 = .ok (.invokevirtual 55, 3) := by decide +kernel
theorem dX6_gather_59 : decode cX6_gather 59 = .ok (.ifCond .eq 7, 3) := by decide +kernel
theorem dX6_gather_62 : decode cX6_gather 62 = .ok (.iconst 1, 1) := by decide +kernel
theorem dX6_gather_63 : decode cX6_gather 63 = .ok (.goto 4, 3) := by decide +kernel
theorem dX6_gather_66 : decode cX6_gather 66 = .ok (.iconst 0, 1) := by decide +kernel
theorem dX6_gather_67 : decode cX6_gather 67 = .ok (.iadd, 1) := by decide +kernel
theorem dX6_gather_68 : decode cX6_gather 68 = .ok (.iastore, 1) := by decide +kernel
theorem dX6_gather_69 : decode cX6_gather 69 = .ok (.iinc 3 1, 3) := by decide +kernel
theorem dX6_gather_72 : decode cX6_gather 72 = .ok (.goto (-70), 3) := by decide +kernel
theorem dX6_gather_75 : decode cX6_gather 75 = .ok (.return_, 1) := by decide +kernel
theorem dX6_takeBackPours_0 : decode cX6_takeBackPours 0 = .ok (.aload_n 0, 1) := by decide +kernel
theorem dX6_takeBackPours_1 : decode cX6_takeBackPours 1 = .ok (.getfield 23, 3) := by decide +kernel
theorem dX6_takeBackPours_4 : decode cX6_takeBackPours 4 = .ok (.iconst 0, 1) := by decide +kernel
theorem dX6_takeBackPours_5 : decode cX6_takeBackPours 5 = .ok (.invokestatic 58, 3) := by decide +kernel
theorem dX6_takeBackPours_8 : decode cX6_takeBackPours 8 = .ok (.return_, 1) := by decide +kernel
theorem dX6_tell_0 : decode cX6_tell 0 = .ok (.aload_n 0, 1) := by decide +kernel
theorem dX6_tell_1 : decode cX6_tell 1 = .ok (.iload_n 1, 1) := by decide +kernel
theorem dX6_tell_2 : decode cX6_tell 2 = .ok (.invokevirtual 51, 3) := by decide +kernel
theorem dX6_tell_5 : decode cX6_tell 5 = .ok (.ifCond .ne 5, 3) := by decide +kernel
theorem dX6_tell_8 : decode cX6_tell 8 = .ok (.iconst (-1), 1) := by decide +kernel
theorem dX6_tell_9 : decode cX6_tell 9 = .ok (.ireturn, 1) := by decide +kernel
theorem dX6_tell_10 : decode cX6_tell 10 = .ok (.iload_n 2, 1) := by decide +kernel
theorem dX6_tell_11 : decode cX6_tell 11 = .ok (.tableswitch 67 0 4 #[33, 40, 47, 54, 60], 33) := by decide +kernel
theorem dX6_tell_44 : decode cX6_tell 44 = .ok (.aload_n 0, 1) := by decide +kernel
theorem dX6_tell_45 : decode cX6_tell 45 = .ok (.getfield 11, 3) := by decide +kernel
theorem dX6_tell_48 : decode cX6_tell 48 = .ok (.iload_n 1, 1) := by decide +kernel
theorem dX6_tell_49 : decode cX6_tell 49 = .ok (.iaload, 1) := by decide +kernel
theorem dX6_tell_50 : decode cX6_tell 50 = .ok (.ireturn, 1) := by decide +kernel
theorem dX6_tell_51 : decode cX6_tell 51 = .ok (.aload_n 0, 1) := by decide +kernel
theorem dX6_tell_52 : decode cX6_tell 52 = .ok (.getfield 17, 3) := by decide +kernel
theorem dX6_tell_55 : decode cX6_tell 55 = .ok (.iload_n 1, 1) := by decide +kernel
theorem dX6_tell_56 : decode cX6_tell 56 = .ok (.iaload, 1) := by decide +kernel
theorem dX6_tell_57 : decode cX6_tell 57 = .ok (.ireturn, 1) := by decide +kernel
theorem dX6_tell_58 : decode cX6_tell 58 = .ok (.aload_n 0, 1) := by decide +kernel
theorem dX6_tell_59 : decode cX6_tell 59 = .ok (.getfield 20, 3) := by decide +kernel
theorem dX6_tell_62 : decode cX6_tell 62 = .ok (.iload_n 1, 1) := by decide +kernel
theorem dX6_tell_63 : decode cX6_tell 63 = .ok (.iaload, 1) := by decide +kernel
theorem dX6_tell_64 : decode cX6_tell 64 = .ok (.ireturn, 1) := by decide +kernel
theorem dX6_tell_65 : decode cX6_tell 65 = .ok (.aload_n 0, 1) := by decide +kernel
theorem dX6_tell_66 : decode cX6_tell 66 = .ok (.iload_n 1, 1) := by decide +kernel
theorem dX6_tell_67 : decode cX6_tell 67 = .ok (.invokevirtual 64, 3) := by decide +kernel
theorem dX6_tell_70 : decode cX6_tell 70 = .ok (.ireturn, 1) := by decide +kernel
theorem dX6_tell_71 : decode cX6_tell 71 = .ok (.aload_n 0, 1) := by decide +kernel
theorem dX6_tell_72 : decode cX6_tell 72 = .ok (.getfield 23, 3) := by decide +kernel
theorem dX6_tell_75 : decode cX6_tell 75 = .ok (.iload_n 1, 1) := by decide +kernel
theorem dX6_tell_76 : decode cX6_tell 76 = .ok (.iaload, 1) := by decide +kernel
theorem dX6_tell_77 : decode cX6_tell 77 = .ok (.ireturn, 1) := by decide +kernel
theorem dX6_tell_78 : decode cX6_tell 78 = .ok (.iconst (-1), 1) := by decide +kernel
theorem dX6_tell_79 : decode cX6_tell 79 = .ok (.ireturn, 1) := by decide +kernel
theorem dX6_setWear_0 : decode cX6_setWear 0 = .ok (.iload_n 1, 1) := by decide +kernel
theorem dX6_setWear_1 : decode cX6_setWear 1 = .ok (.iconst 1, 1) := by decide +kernel
theorem dX6_setWear_2 : decode cX6_setWear 2 = .ok (.if_icmp .lt 20, 3) := by decide +kernel
theorem dX6_setWear_5 : decode cX6_setWear 5 = .ok (.iload_n 1, 1) := by decide +kernel
theorem dX6_setWear_6 : decode cX6_setWear 6 = .ok (.sipush 1000, 3) := by decide +kernel
theorem dX6_setWear_9 : decode cX6_setWear 9 = .ok (.if_icmp .gt 13, 3) := by decide +kernel
theorem dX6_setWear_12 : decode cX6_setWear 12 = .ok (.iload_n 2, 1) := by decide +kernel
theorem dX6_setWear_13 : decode cX6_setWear 13 = .ok (.ifCond .lt 9, 3) := by decide +kernel
theorem dX6_setWear_16 : decode cX6_setWear 16 = .ok (.iload_n 2, 1) := by decide +kernel
theorem dX6_setWear_17 : decode cX6_setWear 17 = .ok (.bipush 100, 2) := by decide +kernel
theorem dX6_setWear_19 : decode cX6_setWear 19 = .ok (.if_icmp .le 5, 3) := by decide +kernel
theorem dX6_setWear_22 : decode cX6_setWear 22 = .ok (.iconst 0, 1) := by decide +kernel
theorem dX6_setWear_23 : decode cX6_setWear 23 = .ok (.ireturn, 1) := by decide +kernel
theorem dX6_setWear_24 : decode cX6_setWear 24 = .ok (.aload_n 0, 1) := by decide +kernel
theorem dX6_setWear_25 : decode cX6_setWear 25 = .ok (.iload_n 1, 1) := by decide +kernel
theorem dX6_setWear_26 : decode cX6_setWear 26 = .ok (.putfield 26, 3) := by decide +kernel
theorem dX6_setWear_29 : decode cX6_setWear 29 = .ok (.aload_n 0, 1) := by decide +kernel
theorem dX6_setWear_30 : decode cX6_setWear 30 = .ok (.iload_n 2, 1) := by decide +kernel
theorem dX6_setWear_31 : decode cX6_setWear 31 = .ok (.putfield 30, 3) := by decide +kernel
theorem dX6_setWear_34 : decode cX6_setWear 34 = .ok (.iconst 1, 1) := by decide +kernel
theorem dX6_setWear_35 : decode cX6_setWear 35 = .ok (.ireturn, 1) := by decide +kernel
theorem dX6_canPour_0 : decode cX6_canPour 0 = .ok (.aload_n 0, 1) := by decide +kernel
theorem dX6_canPour_1 : decode cX6_canPour 1 = .ok (.getfield 33, 3) := by decide +kernel
theorem dX6_canPour_4 : decode cX6_canPour 4 = .ok (.ifCond .le 19, 3) := by decide +kernel
theorem dX6_canPour_7 : decode cX6_canPour 7 = .ok (.iload_n 1, 1) := by decide +kernel
theorem dX6_canPour_8 : decode cX6_canPour 8 = .ok (.iconst 1, 1) := by decide +kernel
theorem dX6_canPour_9 : decode cX6_canPour 9 = .ok (.if_icmp .lt 14, 3) := by decide +kernel
theorem dX6_canPour_12 : decode cX6_canPour 12 = .ok (.iload_n 1, 1) := by decide +kernel
theorem dX6_canPour_13 : decode cX6_canPour 13 = .ok (.sipush 1000, 3) := by decide +kernel
theorem dX6_canPour_16 : decode cX6_canPour 16 = .ok (.if_icmp .gt 7, 3) := by decide +kernel
theorem dX6_canPour_19 : decode cX6_canPour 19 = .ok (.iconst 1, 1) := by decide +kernel
theorem dX6_canPour_20 : decode cX6_canPour 20 = .ok (.goto 4, 3) := by decide +kernel
theorem dX6_canPour_23 : decode cX6_canPour 23 = .ok (.iconst 0, 1) := by decide +kernel
theorem dX6_canPour_24 : decode cX6_canPour 24 = .ok (.ireturn, 1) := by decide +kernel
theorem dX6_pourWhileBorne_0 : decode cX6_pourWhileBorne 0 = .ok (.iload_n 1, 1) := by decide +kernel
theorem dX6_pourWhileBorne_1 : decode cX6_pourWhileBorne 1 = .ok (.istore_n 2, 1) := by decide +kernel
theorem dX6_pourWhileBorne_2 : decode cX6_pourWhileBorne 2 = .ok (.iconst 0, 1) := by decide +kernel
theorem dX6_pourWhileBorne_3 : decode cX6_pourWhileBorne 3 = .ok (.istore_n 3, 1) := by decide +kernel
theorem dX6_pourWhileBorne_4 : decode cX6_pourWhileBorne 4 = .ok (.iload_n 3, 1) := by decide +kernel
theorem dX6_pourWhileBorne_5 : decode cX6_pourWhileBorne 5 = .ok (.aload_n 0, 1) := by decide +kernel
theorem dX6_pourWhileBorne_6 : decode cX6_pourWhileBorne 6 = .ok (.getfield 33, 3) := by decide +kernel
theorem dX6_pourWhileBorne_9 : decode cX6_pourWhileBorne 9 = .ok (.if_icmp .ge 19, 3) := by decide +kernel
theorem dX6_pourWhileBorne_12 : decode cX6_pourWhileBorne 12 = .ok (.iload_n 2, 1) := by decide +kernel
theorem dX6_pourWhileBorne_13 : decode cX6_pourWhileBorne 13 = .ok (.aload_n 0, 1) := by decide +kernel
theorem dX6_pourWhileBorne_14 : decode cX6_pourWhileBorne 14 = .ok (.iload_n 3, 1) := by decide +kernel
theorem dX6_pourWhileBorne_15 : decode cX6_pourWhileBorne 15 = .ok (.invokevirtual 67, 3) := by decide +kernel
theorem dX6_pourWhileBorne_18 : decode cX6_pourWhileBorne 18 = .ok (.invokestatic 70, 3) := by decide +kernel
theorem dX6_pourWhileBorne_21 : decode cX6_pourWhileBorne 21 = .ok (.istore_n 2, 1) := by decide +kernel
theorem dX6_pourWhileBorne_22 : decode cX6_pourWhileBorne 22 = .ok (.iinc 3 1, 3) := by decide +kernel
theorem dX6_pourWhileBorne_25 : decode cX6_pourWhileBorne 25 = .ok (.goto (-21), 3) := by decide +kernel
theorem dX6_pourWhileBorne_28 : decode cX6_pourWhileBorne 28 = .ok (.iconst 0, 1) := by decide +kernel
theorem dX6_pourWhileBorne_29 : decode cX6_pourWhileBorne 29 = .ok (.istore_n 3, 1) := by decide +kernel
theorem dX6_pourWhileBorne_30 : decode cX6_pourWhileBorne 30 = .ok (.iload_n 3, 1) := by decide +kernel
theorem dX6_pourWhileBorne_31 : decode cX6_pourWhileBorne 31 = .ok (.aload_n 0, 1) := by decide +kernel
theorem dX6_pourWhileBorne_32 : decode cX6_pourWhileBorne 32 = .ok (.getfield 33, 3) := by decide +kernel
theorem dX6_pourWhileBorne_35 : decode cX6_pourWhileBorne 35 = .ok (.if_icmp .ge 19, 3) := by decide +kernel
theorem dX6_pourWhileBorne_38 : decode cX6_pourWhileBorne 38 = .ok (.aload_n 0, 1) := by decide +kernel
theorem dX6_pourWhileBorne_39 : decode cX6_pourWhileBorne 39 = .ok (.getfield 23, 3) := by decide +kernel
theorem dX6_pourWhileBorne_42 : decode cX6_pourWhileBorne 42 = .ok (.iload_n 3, 1) := by decide +kernel
theorem dX6_pourWhileBorne_43 : decode cX6_pourWhileBorne 43 = .ok (.dup2, 1) := by decide +kernel
theorem dX6_pourWhileBorne_44 : decode cX6_pourWhileBorne 44 = .ok (.iaload, 1) := by decide +kernel
theorem dX6_pourWhileBorne_45 : decode cX6_pourWhileBorne 45 = .ok (.iload_n 2, 1) := by decide +kernel
theorem dX6_pourWhileBorne_46 : decode cX6_pourWhileBorne 46 = .ok (.iadd, 1) := by decide +kernel
theorem dX6_pourWhileBorne_47 : decode cX6_pourWhileBorne 47 = .ok (.iastore, 1) := by decide +kernel
theorem dX6_pourWhileBorne_48 : decode cX6_pourWhileBorne 48 = .ok (.iinc 3 1, 3) := by decide +kernel
theorem dX6_pourWhileBorne_51 : decode cX6_pourWhileBorne 51 = .ok (.goto (-21), 3) := by decide +kernel
theorem dX6_pourWhileBorne_54 : decode cX6_pourWhileBorne 54 = .ok (.iload_n 2, 1) := by decide +kernel
theorem dX6_pourWhileBorne_55 : decode cX6_pourWhileBorne 55 = .ok (.ireturn, 1) := by decide +kernel
theorem dX6_mendOne_0 : decode cX6_mendOne 0 = .ok (.aload_n 0, 1) := by decide +kernel
theorem dX6_mendOne_1 : decode cX6_mendOne 1 = .ok (.iload_n 1, 1) := by decide +kernel
theorem dX6_mendOne_2 : decode cX6_mendOne 2 = .ok (.invokevirtual 51, 3) := by decide +kernel
theorem dX6_mendOne_5 : decode cX6_mendOne 5 = .ok (.ifCond .ne 5, 3) := by decide +kernel
theorem dX6_mendOne_8 : decode cX6_mendOne 8 = .ok (.iconst (-1), 1) := by decide +kernel
theorem dX6_mendOne_9 : decode cX6_mendOne 9 = .ok (.ireturn, 1) := by decide +kernel
theorem dX6_mendOne_10 : decode cX6_mendOne 10 = .ok (.aload_n 0, 1) := by decide +kernel
theorem dX6_mendOne_11 : decode cX6_mendOne 11 = .ok (.getfield 23, 3) := by decide +kernel
theorem dX6_mendOne_14 : decode cX6_mendOne 14 = .ok (.iload_n 1, 1) := by decide +kernel
theorem dX6_mendOne_15 : decode cX6_mendOne 15 = .ok (.iconst 0, 1) := by decide +kernel
theorem dX6_mendOne_16 : decode cX6_mendOne 16 = .ok (.iastore, 1) := by decide +kernel
theorem dX6_mendOne_17 : decode cX6_mendOne 17 = .ok (.aload_n 0, 1) := by decide +kernel
theorem dX6_mendOne_18 : decode cX6_mendOne 18 = .ok (.getfield 17, 3) := by decide +kernel
theorem dX6_mendOne_21 : decode cX6_mendOne 21 = .ok (.iload_n 1, 1) := by decide +kernel
theorem dX6_mendOne_22 : decode cX6_mendOne 22 = .ok (.iaload, 1) := by decide +kernel
theorem dX6_mendOne_23 : decode cX6_mendOne 23 = .ok (.aload_n 0, 1) := by decide +kernel
theorem dX6_mendOne_24 : decode cX6_mendOne 24 = .ok (.getfield 30, 3) := by decide +kernel
theorem dX6_mendOne_27 : decode cX6_mendOne 27 = .ok (.imul, 1) := by decide +kernel
theorem dX6_mendOne_28 : decode cX6_mendOne 28 = .ok (.ireturn, 1) := by decide +kernel
theorem dX6_pourAndMend_0 : decode cX6_pourAndMend 0 = .ok (.iconst 0, 1) := by decide +kernel
theorem dX6_pourAndMend_1 : decode cX6_pourAndMend 1 = .ok (.istore_n 2, 1) := by decide +kernel
theorem dX6_pourAndMend_2 : decode cX6_pourAndMend 2 = .ok (.iconst 0, 1) := by decide +kernel
theorem dX6_pourAndMend_3 : decode cX6_pourAndMend 3 = .ok (.istore_n 3, 1) := by decide +kernel
theorem dX6_pourAndMend_4 : decode cX6_pourAndMend 4 = .ok (.iload_n 3, 1) := by decide +kernel
theorem dX6_pourAndMend_5 : decode cX6_pourAndMend 5 = .ok (.aload_n 0, 1) := by decide +kernel
theorem dX6_pourAndMend_6 : decode cX6_pourAndMend 6 = .ok (.getfield 33, 3) := by decide +kernel
theorem dX6_pourAndMend_9 : decode cX6_pourAndMend 9 = .ok (.if_icmp .ge 18, 3) := by decide +kernel
theorem dX6_pourAndMend_12 : decode cX6_pourAndMend 12 = .ok (.iload_n 2, 1) := by decide +kernel
theorem dX6_pourAndMend_13 : decode cX6_pourAndMend 13 = .ok (.aload_n 0, 1) := by decide +kernel
theorem dX6_pourAndMend_14 : decode cX6_pourAndMend 14 = .ok (.iload_n 3, 1) := by decide +kernel
theorem dX6_pourAndMend_15 : decode cX6_pourAndMend 15 = .ok (.iload_n 1, 1) := by decide +kernel
theorem dX6_pourAndMend_16 : decode cX6_pourAndMend 16 = .ok (.invokevirtual 76, 3) := by decide +kernel
theorem dX6_pourAndMend_19 : decode cX6_pourAndMend 19 = .ok (.iadd, 1) := by decide +kernel
theorem dX6_pourAndMend_20 : decode cX6_pourAndMend 20 = .ok (.istore_n 2, 1) := by decide +kernel
theorem dX6_pourAndMend_21 : decode cX6_pourAndMend 21 = .ok (.iinc 3 1, 3) := by decide +kernel
theorem dX6_pourAndMend_24 : decode cX6_pourAndMend 24 = .ok (.goto (-20), 3) := by decide +kernel
theorem dX6_pourAndMend_27 : decode cX6_pourAndMend 27 = .ok (.iload_n 2, 1) := by decide +kernel
theorem dX6_pourAndMend_28 : decode cX6_pourAndMend 28 = .ok (.ireturn, 1) := by decide +kernel
theorem dX6_pourAndMendOne_0 : decode cX6_pourAndMendOne 0 = .ok (.aload_n 0, 1) := by decide +kernel
theorem dX6_pourAndMendOne_1 : decode cX6_pourAndMendOne 1 = .ok (.iload_n 1, 1) := by decide +kernel
theorem dX6_pourAndMendOne_2 : decode cX6_pourAndMendOne 2 = .ok (.invokevirtual 67, 3) := by decide +kernel
theorem dX6_pourAndMendOne_5 : decode cX6_pourAndMendOne 5 = .ok (.istore_n 3, 1) := by decide +kernel
theorem dX6_pourAndMendOne_6 : decode cX6_pourAndMendOne 6 = .ok (.iload_n 2, 1) := by decide +kernel
theorem dX6_pourAndMendOne_7 : decode cX6_pourAndMendOne 7 = .ok (.iload_n 3, 1) := by decide +kernel
theorem dX6_pourAndMendOne_8 : decode cX6_pourAndMendOne 8 = .ok (.if_icmp .gt 15, 3) := by decide +kernel
theorem dX6_pourAndMendOne_11 : decode cX6_pourAndMendOne 11 = .ok (.aload_n 0, 1) := by decide +kernel
theorem dX6_pourAndMendOne_12 : decode cX6_pourAndMendOne 12 = .ok (.getfield 23, 3) := by decide +kernel
theorem dX6_pourAndMendOne_15 : decode cX6_pourAndMendOne 15 = .ok (.iload_n 1, 1) := by decide +kernel
theorem dX6_pourAndMendOne_16 : decode cX6_pourAndMendOne 16 = .ok (.dup2, 1) := by decide +kernel
theorem dX6_pourAndMendOne_17 : decode cX6_pourAndMendOne 17 = .ok (.iaload, 1) := by decide +kernel
theorem dX6_pourAndMendOne_18 : decode cX6_pourAndMendOne 18 = .ok (.iload_n 2, 1) := by decide +kernel
theorem dX6_pourAndMendOne_19 : decode cX6_pourAndMendOne 19 = .ok (.iadd, 1) := by decide +kernel
theorem dX6_pourAndMendOne_20 : decode cX6_pourAndMendOne 20 = .ok (.iastore, 1) := by decide +kernel
theorem dX6_pourAndMendOne_21 : decode cX6_pourAndMendOne 21 = .ok (.iconst 0, 1) := by decide +kernel
theorem dX6_pourAndMendOne_22 : decode cX6_pourAndMendOne 22 = .ok (.ireturn, 1) := by decide +kernel
theorem dX6_pourAndMendOne_23 : decode cX6_pourAndMendOne 23 = .ok (.iconst 1, 1) := by decide +kernel
theorem dX6_pourAndMendOne_24 : decode cX6_pourAndMendOne 24 = .ok (.aload_n 0, 1) := by decide +kernel
theorem dX6_pourAndMendOne_25 : decode cX6_pourAndMendOne 25 = .ok (.iload_n 1, 1) := by decide +kernel
theorem dX6_pourAndMendOne_26 : decode cX6_pourAndMendOne 26 = .ok (.invokevirtual 64, 3) := by decide +kernel
theorem dX6_pourAndMendOne_29 : decode cX6_pourAndMendOne 29 = .ok (.invokestatic 79, 3) := by decide +kernel
theorem dX6_pourAndMendOne_32 : decode cX6_pourAndMendOne 32 = .ok (.istore 4, 2) := by decide +kernel
theorem dX6_pourAndMendOne_34 : decode cX6_pourAndMendOne 34 = .ok (.iload_n 2, 1) := by decide +kernel
theorem dX6_pourAndMendOne_35 : decode cX6_pourAndMendOne 35 = .ok (.iload_n 3, 1) := by decide +kernel
theorem dX6_pourAndMendOne_36 : decode cX6_pourAndMendOne 36 = .ok (.isub, 1) := by decide +kernel
theorem dX6_pourAndMendOne_37 : decode cX6_pourAndMendOne 37 = .ok (.istore 5, 2) := by decide +kernel
theorem dX6_pourAndMendOne_39 : decode cX6_pourAndMendOne 39 = .ok (.iload 5, 2) := by decide +kernel
theorem dX6_pourAndMendOne_41 : decode cX6_pourAndMendOne 41 = .ok (.iload 4, 2) := by decide +kernel
theorem dX6_pourAndMendOne_43 : decode cX6_pourAndMendOne 43 = .ok (.iadd, 1) := by decide +kernel
theorem dX6_pourAndMendOne_44 : decode cX6_pourAndMendOne 44 = .ok (.iconst 1, 1) := by decide +kernel
theorem dX6_pourAndMendOne_45 : decode cX6_pourAndMendOne 45 = .ok (.isub, 1) := by decide +kernel
theorem dX6_pourAndMendOne_46 : decode cX6_pourAndMendOne 46 = .ok (.iload 4, 2) := by decide +kernel
theorem dX6_pourAndMendOne_48 : decode cX6_pourAndMendOne 48 = .ok (.idiv, 1) := by decide +kernel
theorem dX6_pourAndMendOne_49 : decode cX6_pourAndMendOne 49 = .ok (.istore 6, 2) := by decide +kernel
theorem dX6_pourAndMendOne_51 : decode cX6_pourAndMendOne 51 = .ok (.aload_n 0, 1) := by decide +kernel
theorem dX6_pourAndMendOne_52 : decode cX6_pourAndMendOne 52 = .ok (.getfield 23, 3) := by decide +kernel
theorem dX6_pourAndMendOne_55 : decode cX6_pourAndMendOne 55 = .ok (.iload_n 1, 1) := by decide +kernel
theorem dX6_pourAndMendOne_56 : decode cX6_pourAndMendOne 56 = .ok (.iload 5, 2) := by decide +kernel
theorem dX6_pourAndMendOne_58 : decode cX6_pourAndMendOne 58 = .ok (.iload 6, 2) := by decide +kernel
theorem dX6_pourAndMendOne_60 : decode cX6_pourAndMendOne 60 = .ok (.iconst 1, 1) := by decide +kernel
theorem dX6_pourAndMendOne_61 : decode cX6_pourAndMendOne 61 = .ok (.isub, 1) := by decide +kernel
theorem dX6_pourAndMendOne_62 : decode cX6_pourAndMendOne 62 = .ok (.iload 4, 2) := by decide +kernel
theorem dX6_pourAndMendOne_64 : decode cX6_pourAndMendOne 64 = .ok (.imul, 1) := by decide +kernel
theorem dX6_pourAndMendOne_65 : decode cX6_pourAndMendOne 65 = .ok (.isub, 1) := by decide +kernel
theorem dX6_pourAndMendOne_66 : decode cX6_pourAndMendOne 66 = .ok (.iastore, 1) := by decide +kernel
theorem dX6_pourAndMendOne_67 : decode cX6_pourAndMendOne 67 = .ok (.iload 6, 2) := by decide +kernel
theorem dX6_pourAndMendOne_69 : decode cX6_pourAndMendOne 69 = .ok (.aload_n 0, 1) := by decide +kernel
theorem dX6_pourAndMendOne_70 : decode cX6_pourAndMendOne 70 = .ok (.getfield 17, 3) := by decide +kernel
theorem dX6_pourAndMendOne_73 : decode cX6_pourAndMendOne 73 = .ok (.iload_n 1, 1) := by decide +kernel
theorem dX6_pourAndMendOne_74 : decode cX6_pourAndMendOne 74 = .ok (.iaload, 1) := by decide +kernel
theorem dX6_pourAndMendOne_75 : decode cX6_pourAndMendOne 75 = .ok (.imul, 1) := by decide +kernel
theorem dX6_pourAndMendOne_76 : decode cX6_pourAndMendOne 76 = .ok (.aload_n 0, 1) := by decide +kernel
theorem dX6_pourAndMendOne_77 : decode cX6_pourAndMendOne 77 = .ok (.getfield 30, 3) := by decide +kernel
theorem dX6_pourAndMendOne_80 : decode cX6_pourAndMendOne 80 = .ok (.imul, 1) := by decide +kernel
theorem dX6_pourAndMendOne_81 : decode cX6_pourAndMendOne 81 = .ok (.ireturn, 1) := by decide +kernel
theorem dX6_borneBy_0 : decode cX6_borneBy 0 = .ok (.iconst 1, 1) := by decide +kernel
theorem dX6_borneBy_1 : decode cX6_borneBy 1 = .ok (.aload_n 0, 1) := by decide +kernel
theorem dX6_borneBy_2 : decode cX6_borneBy 2 = .ok (.getfield 26, 3) := by decide +kernel
theorem dX6_borneBy_5 : decode cX6_borneBy 5 = .ok (.aload_n 0, 1) := by decide +kernel
theorem dX6_borneBy_6 : decode cX6_borneBy 6 = .ok (.getfield 20, 3) := by decide +kernel
theorem dX6_borneBy_9 : decode cX6_borneBy 9 = .ok (.iload_n 1, 1) := by decide +kernel
theorem dX6_borneBy_10 : decode cX6_borneBy 10 = .ok (.iaload, 1) := by decide +kernel
theorem dX6_borneBy_11 : decode cX6_borneBy 11 = .ok (.isub, 1) := by decide +kernel
theorem dX6_borneBy_12 : decode cX6_borneBy 12 = .ok (.invokestatic 79, 3) := by decide +kernel
theorem dX6_borneBy_15 : decode cX6_borneBy 15 = .ok (.ireturn, 1) := by decide +kernel
theorem dX6_leftOn_0 : decode cX6_leftOn 0 = .ok (.iconst 0, 1) := by decide +kernel
theorem dX6_leftOn_1 : decode cX6_leftOn 1 = .ok (.aload_n 0, 1) := by decide +kernel
theorem dX6_leftOn_2 : decode cX6_leftOn 2 = .ok (.iload_n 1, 1) := by decide +kernel
theorem dX6_leftOn_3 : decode cX6_leftOn 3 = .ok (.invokevirtual 64, 3) := by decide +kernel
theorem dX6_leftOn_6 : decode cX6_leftOn 6 = .ok (.aload_n 0, 1) := by decide +kernel
theorem dX6_leftOn_7 : decode cX6_leftOn 7 = .ok (.getfield 23, 3) := by decide +kernel
theorem dX6_leftOn_10 : decode cX6_leftOn 10 = .ok (.iload_n 1, 1) := by decide +kernel
theorem dX6_leftOn_11 : decode cX6_leftOn 11 = .ok (.iaload, 1) := by decide +kernel
theorem dX6_leftOn_12 : decode cX6_leftOn 12 = .ok (.isub, 1) := by decide +kernel
theorem dX6_leftOn_13 : decode cX6_leftOn 13 = .ok (.invokestatic 79, 3) := by decide +kernel
theorem dX6_leftOn_16 : decode cX6_leftOn 16 = .ok (.ireturn, 1) := by decide +kernel
theorem dX7_init_0 : decode cX7_init 0 = .ok (.aload_n 0, 1) := by decide +kernel
theorem dX7_init_1 : decode cX7_init 1 = .ok (.invokespecial 3, 3) := by decide +kernel
theorem dX7_init_4 : decode cX7_init 4 = .ok (.aload_n 0, 1) := by decide +kernel
theorem dX7_init_5 : decode cX7_init 5 = .ok (.sipush 400, 3) := by decide +kernel
theorem dX7_init_8 : decode cX7_init 8 = .ok (.newarray .int, 2) := by decide +kernel
theorem dX7_init_10 : decode cX7_init 10 = .ok (.putfield 11, 3) := by decide +kernel
theorem dX7_init_13 : decode cX7_init 13 = .ok (.return_, 1) := by decide +kernel
theorem dX7_size_0 : decode cX7_size 0 = .ok (.aload_n 0, 1) := by decide +kernel
theorem dX7_size_1 : decode cX7_size 1 = .ok (.getfield 15, 3) := by decide +kernel
theorem dX7_size_4 : decode cX7_size 4 = .ok (.ireturn, 1) := by decide +kernel
theorem dX7_hasRoomForTwenty_0 : decode cX7_hasRoomForTwenty 0 = .ok (.aload_n 0, 1) := by decide +kernel
theorem dX7_hasRoomForTwenty_1 : decode cX7_hasRoomForTwenty 1 = .ok (.getfield 15, 3) := by decide +kernel
theorem dX7_hasRoomForTwenty_4 : decode cX7_hasRoomForTwenty 4 = .ok (.sipush 380, 3) := by decide +kernel
theorem dX7_hasRoomForTwenty_7 : decode cX7_hasRoomForTwenty 7 = .ok (.if_icmp .gt 7, 3) := by decide +kernel
theorem dX7_hasRoomForTwenty_10 : decode cX7_hasRoomForTwenty 10 = .ok (.iconst 1, 1) := by decide +kernel
theorem dX7_hasRoomForTwenty_11 : decode cX7_hasRoomForTwenty 11 = .ok (.goto 4, 3) := by decide +kernel
theorem dX7_hasRoomForTwenty_14 : decode cX7_hasRoomForTwenty 14 = .ok (.iconst 0, 1) := by decide +kernel
theorem dX7_hasRoomForTwenty_15 : decode cX7_hasRoomForTwenty 15 = .ok (.ireturn, 1) := by decide +kernel
theorem dX7_addFour_0 : decode cX7_addFour 0 = .ok (.bipush 24, 2) := by decide +kernel
theorem dX7_addFour_2 : decode cX7_addFour 2 = .ok (.istore_n 2, 1) := by decide +kernel
theorem dX7_addFour_3 : decode cX7_addFour 3 = .ok (.iload_n 2, 1) := by decide +kernel
theorem dX7_addFour_4 : decode cX7_addFour 4 = .ok (.ifCond .lt 45, 3) := by decide +kernel
theorem dX7_addFour_7 : decode cX7_addFour 7 = .ok (.aload_n 0, 1) := by decide +kernel
theorem dX7_addFour_8 : decode cX7_addFour 8 = .ok (.getfield 15, 3) := by decide +kernel
theorem dX7_addFour_11 : decode cX7_addFour 11 = .ok (.sipush 400, 3) := by decide +kernel
theorem dX7_addFour_14 : decode cX7_addFour 14 = .ok (.if_icmp .ge 35, 3) := by decide +kernel
theorem dX7_addFour_17 : decode cX7_addFour 17 = .ok (.aload_n 0, 1) := by decide +kernel
theorem dX7_addFour_18 : decode cX7_addFour 18 = .ok (.getfield 11, 3) := by decide +kernel
theorem dX7_addFour_21 : decode cX7_addFour 21 = .ok (.aload_n 0, 1) := by decide +kernel
theorem dX7_addFour_22 : decode cX7_addFour 22 = .ok (.getfield 15, 3) := by decide +kernel
theorem dX7_addFour_25 : decode cX7_addFour 25 = .ok (.iload_n 1, 1) := by decide +kernel
theorem dX7_addFour_26 : decode cX7_addFour 26 = .ok (.iload_n 2, 1) := by decide +kernel
theorem dX7_addFour_27 : decode cX7_addFour 27 = .ok (.iushr, 1) := by decide +kernel
theorem dX7_addFour_28 : decode cX7_addFour 28 = .ok (.sipush 255, 3) := by decide +kernel
theorem dX7_addFour_31 : decode cX7_addFour 31 = .ok (.iand, 1) := by decide +kernel
theorem dX7_addFour_32 : decode cX7_addFour 32 = .ok (.iastore, 1) := by decide +kernel
theorem dX7_addFour_33 : decode cX7_addFour 33 = .ok (.aload_n 0, 1) := by decide +kernel
theorem dX7_addFour_34 : decode cX7_addFour 34 = .ok (.dup, 1) := by decide +kernel
theorem dX7_addFour_35 : decode cX7_addFour 35 = .ok (.getfield 15, 3) := by decide +kernel
theorem dX7_addFour_38 : decode cX7_addFour 38 = .ok (.iconst 1, 1) := by decide +kernel
theorem dX7_addFour_39 : decode cX7_addFour 39 = .ok (.iadd, 1) := by decide +kernel
theorem dX7_addFour_40 : decode cX7_addFour 40 = .ok (.putfield 15, 3) := by decide +kernel
theorem dX7_addFour_43 : decode cX7_addFour 43 = .ok (.iinc 2 (-8), 3) := by decide +kernel
theorem dX7_addFour_46 : decode cX7_addFour 46 = .ok (.goto (-43), 3) := by decide +kernel
theorem dX7_addFour_49 : decode cX7_addFour 49 = .ok (.return_, 1) := by decide +kernel
theorem dX7_keepFirst_0 : decode cX7_keepFirst 0 = .ok (.iload_n 1, 1) := by decide +kernel
theorem dX7_keepFirst_1 : decode cX7_keepFirst 1 = .ok (.ifCond .lt 11, 3) := by decide +kernel
theorem dX7_keepFirst_4 : decode cX7_keepFirst 4 = .ok (.iload_n 1, 1) := by decide +kernel
theorem dX7_keepFirst_5 : decode cX7_keepFirst 5 = .ok (.aload_n 0, 1) := by decide +kernel
theorem dX7_keepFirst_6 : decode cX7_keepFirst 6 = .ok (.getfield 15, 3) := by decide +kernel
theorem dX7_keepFirst_9 : decode cX7_keepFirst 9 = .ok (.if_icmp .le 5, 3) := by decide +kernel
theorem dX7_keepFirst_12 : decode cX7_keepFirst 12 = .ok (.iconst 0, 1) := by decide +kernel
theorem dX7_keepFirst_13 : decode cX7_keepFirst 13 = .ok (.ireturn, 1) := by decide +kernel
theorem dX7_keepFirst_14 : decode cX7_keepFirst 14 = .ok (.aload_n 0, 1) := by decide +kernel
theorem dX7_keepFirst_15 : decode cX7_keepFirst 15 = .ok (.iload_n 1, 1) := by decide +kernel
theorem dX7_keepFirst_16 : decode cX7_keepFirst 16 = .ok (.putfield 15, 3) := by decide +kernel
theorem dX7_keepFirst_19 : decode cX7_keepFirst 19 = .ok (.iconst 1, 1) := by decide +kernel
theorem dX7_keepFirst_20 : decode cX7_keepFirst 20 = .ok (.ireturn, 1) := by decide +kernel
theorem dX7_byteAt_0 : decode cX7_byteAt 0 = .ok (.iload_n 1, 1) := by decide +kernel
theorem dX7_byteAt_1 : decode cX7_byteAt 1 = .ok (.ifCond .lt 20, 3) := by decide +kernel
theorem dX7_byteAt_4 : decode cX7_byteAt 4 = .ok (.iload_n 1, 1) := by decide +kernel
theorem dX7_byteAt_5 : decode cX7_byteAt 5 = .ok (.aload_n 0, 1) := by decide +kernel
theorem dX7_byteAt_6 : decode cX7_byteAt 6 = .ok (.getfield 15, 3) := by decide +kernel
theorem dX7_byteAt_9 : decode cX7_byteAt 9 = .ok (.if_icmp .ge 12, 3) := by decide +kernel
theorem dX7_byteAt_12 : decode cX7_byteAt 12 = .ok (.aload_n 0, 1) := by decide +kernel
theorem dX7_byteAt_13 : decode cX7_byteAt 13 = .ok (.getfield 11, 3) := by decide +kernel
theorem dX7_byteAt_16 : decode cX7_byteAt 16 = .ok (.iload_n 1, 1) := by decide +kernel
theorem dX7_byteAt_17 : decode cX7_byteAt 17 = .ok (.iaload, 1) := by decide +kernel
theorem dX7_byteAt_18 : decode cX7_byteAt 18 = .ok (.goto 4, 3) := by decide +kernel
theorem dX7_byteAt_21 : decode cX7_byteAt 21 = .ok (.iconst (-1), 1) := by decide +kernel
theorem dX7_byteAt_22 : decode cX7_byteAt 22 = .ok (.ireturn, 1) := by decide +kernel
theorem dX8_init_0 : decode cX8_init 0 = .ok (.aload_n 0, 1) := by decide +kernel
theorem dX8_init_1 : decode cX8_init 1 = .ok (.invokespecial 3, 3) := by decide +kernel
theorem dX8_init_4 : decode cX8_init 4 = .ok (.aload_n 0, 1) := by decide +kernel
theorem dX8_init_5 : decode cX8_init 5 = .ok (.bipush 6, 2) := by decide +kernel
theorem dX8_init_7 : decode cX8_init 7 = .ok (.newarray .int, 2) := by decide +kernel
theorem dX8_init_9 : decode cX8_init 9 = .ok (.putfield 11, 3) := by decide +kernel
theorem dX8_init_12 : decode cX8_init 12 = .ok (.aload_n 0, 1) := by decide +kernel
theorem dX8_init_13 : decode cX8_init 13 = .ok (.iconst 0, 1) := by decide +kernel
theorem dX8_init_14 : decode cX8_init 14 = .ok (.putfield 15, 3) := by decide +kernel
theorem dX8_init_17 : decode cX8_init 17 = .ok (.aload_n 0, 1) := by decide +kernel
theorem dX8_init_18 : decode cX8_init 18 = .ok (.iconst (-1), 1) := by decide +kernel
theorem dX8_init_19 : decode cX8_init 19 = .ok (.putfield 19, 3) := by decide +kernel
theorem dX8_init_22 : decode cX8_init 22 = .ok (.aload_n 0, 1) := by decide +kernel
theorem dX8_init_23 : decode cX8_init 23 = .ok (.aload_n 1, 1) := by decide +kernel
theorem dX8_init_24 : decode cX8_init 24 = .ok (.putfield 22, 3) := by decide +kernel
theorem dX8_init_27 : decode cX8_init 27 = .ok (.return_, 1) := by decide +kernel
theorem dX8_faultKind_0 : decode cX8_faultKind 0 = .ok (.aload_n 0, 1) := by decide +kernel
theorem dX8_faultKind_1 : decode cX8_faultKind 1 = .ok (.getfield 15, 3) := by decide +kernel
theorem dX8_faultKind_4 : decode cX8_faultKind 4 = .ok (.ireturn, 1) := by decide +kernel
theorem dX8_faultPlace_0 : decode cX8_faultPlace 0 = .ok (.aload_n 0, 1) := by decide +kernel
theorem dX8_faultPlace_1 : decode cX8_faultPlace 1 = .ok (.getfield 19, 3) := by decide +kernel
theorem dX8_faultPlace_4 : decode cX8_faultPlace 4 = .ok (.ireturn, 1) := by decide +kernel
theorem dX8_readOnto_0 : decode cX8_readOnto 0 = .ok (.aload_n 0, 1) := by decide +kernel
theorem dX8_readOnto_1 : decode cX8_readOnto 1 = .ok (.iconst 0, 1) := by decide +kernel
theorem dX8_readOnto_2 : decode cX8_readOnto 2 = .ok (.putfield 26, 3) := by decide +kernel
theorem dX8_readOnto_5 : decode cX8_readOnto 5 = .ok (.aload_n 0, 1) := by decide +kernel
theorem dX8_readOnto_6 : decode cX8_readOnto 6 = .ok (.iconst 0, 1) := by decide +kernel
theorem dX8_readOnto_7 : decode cX8_readOnto 7 = .ok (.putfield 15, 3) := by decide +kernel
theorem dX8_readOnto_10 : decode cX8_readOnto 10 = .ok (.aload_n 0, 1) := by decide +kernel
theorem dX8_readOnto_11 : decode cX8_readOnto 11 = .ok (.iconst (-1), 1) := by decide +kernel
theorem dX8_readOnto_12 : decode cX8_readOnto 12 = .ok (.putfield 19, 3) := by decide +kernel
theorem dX8_readOnto_15 : decode cX8_readOnto 15 = .ok (.aload_n 0, 1) := by decide +kernel
theorem dX8_readOnto_16 : decode cX8_readOnto 16 = .ok (.invokevirtual 29, 3) := by decide +kernel
theorem dX8_readOnto_19 : decode cX8_readOnto 19 = .ok (.iconst 0, 1) := by decide +kernel
theorem dX8_readOnto_20 : decode cX8_readOnto 20 = .ok (.istore_n 2, 1) := by decide +kernel
theorem dX8_readOnto_21 : decode cX8_readOnto 21 = .ok (.iload_n 2, 1) := by decide +kernel
theorem dX8_readOnto_22 : decode cX8_readOnto 22 = .ok (.sipush 400, 3) := by decide +kernel
theorem dX8_readOnto_25 : decode cX8_readOnto 25 = .ok (.if_icmp .ge 39, 3) := by decide +kernel
theorem dX8_readOnto_28 : decode cX8_readOnto 28 = .ok (.aload_n 0, 1) := by decide +kernel
theorem dX8_readOnto_29 : decode cX8_readOnto 29 = .ok (.getfield 15, 3) := by decide +kernel
theorem dX8_readOnto_32 : decode cX8_readOnto 32 = .ok (.ifCond .ne 32, 3) := by decide +kernel
theorem dX8_readOnto_35 : decode cX8_readOnto 35 = .ok (.aload_n 0, 1) := by decide +kernel
theorem dX8_readOnto_36 : decode cX8_readOnto 36 = .ok (.getfield 26, 3) := by decide +kernel
theorem dX8_readOnto_39 : decode cX8_readOnto 39 = .ok (.aload_n 0, 1) := by decide +kernel
theorem dX8_readOnto_40 : decode cX8_readOnto 40 = .ok (.getfield 22, 3) := by decide +kernel
theorem dX8_readOnto_43 : decode cX8_readOnto 43 = .ok (.invokevirtual 34, 3) := by decide +kernel
theorem dX8_readOnto_46 : decode cX8_readOnto 46 = .ok (.if_icmp .ge 18, 3) := by decide +kernel
theorem dX8_readOnto_49 : decode cX8_readOnto 49 = .ok (.aload_n 0, 1) := by decide +kernel
theorem dX8_readOnto_50 : decode cX8_readOnto 50 = .ok (.aload_n 1, 1) := by decide +kernel
theorem dX8_readOnto_51 : decode cX8_readOnto 51 = .ok (.invokevirtual 38, 3) := by decide +kernel
theorem dX8_readOnto_54 : decode cX8_readOnto 54 = .ok (.aload_n 0, 1) := by decide +kernel
theorem dX8_readOnto_55 : decode cX8_readOnto 55 = .ok (.invokevirtual 29, 3) := by decide +kernel
theorem dX8_readOnto_58 : decode cX8_readOnto 58 = .ok (.iinc 2 1, 3) := by decide +kernel
theorem dX8_readOnto_61 : decode cX8_readOnto 61 = .ok (.goto (-40), 3) := by decide +kernel
theorem dX8_readOnto_64 : decode cX8_readOnto 64 = .ok (.aload_n 0, 1) := by decide +kernel
theorem dX8_readOnto_65 : decode cX8_readOnto 65 = .ok (.getfield 15, 3) := by decide +kernel
theorem dX8_readOnto_68 : decode cX8_readOnto 68 = .ok (.ifCond .ne 7, 3) := by decide +kernel
theorem dX8_readOnto_71 : decode cX8_readOnto 71 = .ok (.iconst 1, 1) := by decide +kernel
theorem dX8_readOnto_72 : decode cX8_readOnto 72 = .ok (.goto 4, 3) := by decide +kernel
theorem dX8_readOnto_75 : decode cX8_readOnto 75 = .ok (.iconst 0, 1) := by decide +kernel
theorem dX8_readOnto_76 : decode cX8_readOnto 76 = .ok (.ireturn, 1) := by decide +kernel
theorem dX8_readStatement_0 : decode cX8_readStatement 0 = .ok (.aload_n 0, 1) := by decide +kernel
theorem dX8_readStatement_1 : decode cX8_readStatement 1 = .ok (.getfield 26, 3) := by decide +kernel
theorem dX8_readStatement_4 : decode cX8_readStatement 4 = .ok (.istore_n 2, 1) := by decide +kernel
theorem dX8_readStatement_5 : decode cX8_readStatement 5 = .ok (.aload_n 0, 1) := by decide +kernel
theorem dX8_readStatement_6 : decode cX8_readStatement 6 = .ok (.ldc 42, 2) := by decide +kernel
theorem dX8_readStatement_8 : decode cX8_readStatement 8 = .ok (.invokevirtual 44, 3) := by decide +kernel
theorem dX8_readStatement_11 : decode cX8_readStatement 11 = .ok (.ifCond .eq 12, 3) := by decide +kernel
theorem dX8_readStatement_14 : decode cX8_readStatement 14 = .ok (.aload_n 0, 1) := by decide +kernel
theorem dX8_readStatement_15 : decode cX8_readStatement 15 = .ok (.aload_n 1, 1) := by decide +kernel
theorem dX8_readStatement_16 : decode cX8_readStatement 16 = .ok (.iconst 1, 1) := by decide +kernel
theorem dX8_readStatement_17 : decode cX8_readStatement 17 = .ok (.invokevirtual 48, 3) := by decide +kernel
theorem dX8_readStatement_20 : decode cX8_readStatement 20 = .ok (.goto 62, 3) := by decide +kernel
theorem dX8_readStatement_23 : decode cX8_readStatement 23 = .ok (.aload_n 0, 1) := by decide +kernel
theorem dX8_readStatement_24 : decode cX8_readStatement 24 = .ok (.ldc 52, 2) := by decide +kernel
theorem dX8_readStatement_26 : decode cX8_readStatement 26 = .ok (.invokevirtual 44, 3) := by decide +kernel
theorem dX8_readStatement_29 : decode cX8_readStatement 29 = .ok (.ifCond .eq 12, 3) := by decide +kernel
theorem dX8_readStatement_32 : decode cX8_readStatement 32 = .ok (.aload_n 0, 1) := by decide +kernel
theorem dX8_readStatement_33 : decode cX8_readStatement 33 = .ok (.aload_n 1, 1) := by decide +kernel
theorem dX8_readStatement_34 : decode cX8_readStatement 34 = .ok (.iconst 0, 1) := by decide +kernel
theorem dX8_readStatement_35 : decode cX8_readStatement 35 = .ok (.invokevirtual 48, 3) := by decide +kernel
theorem dX8_readStatement_38 : decode cX8_readStatement 38 = .ok (.goto 44, 3) := by decide +kernel
theorem dX8_readStatement_41 : decode cX8_readStatement 41 = .ok (.aload_n 0, 1) := by decide +kernel
theorem dX8_readStatement_42 : decode cX8_readStatement 42 = .ok (.ldc 54, 2) := by decide +kernel
theorem dX8_readStatement_44 : decode cX8_readStatement 44 = .ok (.invokevirtual 44, 3) := by decide +kernel
theorem dX8_readStatement_47 : decode cX8_readStatement 47 = .ok (.ifCond .eq 11, 3) := by decide +kernel
theorem dX8_readStatement_50 : decode cX8_readStatement 50 = .ok (.aload_n 0, 1) := by decide +kernel
theorem dX8_readStatement_51 : decode cX8_readStatement 51 = .ok (.aload_n 1, 1) := by decide +kernel
theorem dX8_readStatement_52 : decode cX8_readStatement 52 = .ok (.invokevirtual 56, 3) := by decide +kernel
theorem dX8_readStatement_55 : decode cX8_readStatement 55 = .ok (.goto 27, 3) := by decide +kernel
theorem dX8_readStatement_58 : decode cX8_readStatement 58 = .ok (.aload_n 0, 1) := by decide +kernel
theorem dX8_readStatement_59 : decode cX8_readStatement 59 = .ok (.ldc 59, 2) := by decide +kernel
theorem dX8_readStatement_61 : decode cX8_readStatement 61 = .ok (.invokevirtual 44, 3) := by decide +kernel
theorem dX8_readStatement_64 : decode cX8_readStatement 64 = .ok (.ifCond .eq 12, 3) := by decide +kernel
theorem dX8_readStatement_67 : decode cX8_readStatement 67 = .ok (.aload_n 0, 1) := by decide +kernel
theorem dX8_readStatement_68 : decode cX8_readStatement 68 = .ok (.aload_n 1, 1) := by decide +kernel
theorem dX8_readStatement_69 : decode cX8_readStatement 69 = .ok (.iload_n 2, 1) := by decide +kernel
theorem dX8_readStatement_70 : decode cX8_readStatement 70 = .ok (.invokevirtual 61, 3) := by decide +kernel
theorem dX8_readStatement_73 : decode cX8_readStatement 73 = .ok (.goto 9, 3) := by decide +kernel
theorem dX8_readStatement_76 : decode cX8_readStatement 76 = .ok (.aload_n 0, 1) := by decide +kernel
theorem dX8_readStatement_77 : decode cX8_readStatement 77 = .ok (.iconst 1, 1) := by decide +kernel
theorem dX8_readStatement_78 : decode cX8_readStatement 78 = .ok (.iload_n 2, 1) := by decide +kernel
theorem dX8_readStatement_79 : decode cX8_readStatement 79 = .ok (.invokevirtual 64, 3) := by decide +kernel
theorem dX8_readStatement_82 : decode cX8_readStatement 82 = .ok (.return_, 1) := by decide +kernel
theorem dX8_readBlock_0 : decode cX8_readBlock 0 = .ok (.iconst 0, 1) := by decide +kernel
theorem dX8_readBlock_1 : decode cX8_readBlock 1 = .ok (.istore_n 3, 1) := by decide +kernel
theorem dX8_readBlock_2 : decode cX8_readBlock 2 = .ok (.iload_n 3, 1) := by decide +kernel
theorem dX8_readBlock_3 : decode cX8_readBlock 3 = .ok (.bipush 6, 2) := by decide +kernel
theorem dX8_readBlock_5 : decode cX8_readBlock 5 = .ok (.if_icmp .ge 21, 3) := by decide +kernel
theorem dX8_readBlock_8 : decode cX8_readBlock 8 = .ok (.aload_n 0, 1) := by decide +kernel
theorem dX8_readBlock_9 : decode cX8_readBlock 9 = .ok (.getfield 15, 3) := by decide +kernel
theorem dX8_readBlock_12 : decode cX8_readBlock 12 = .ok (.ifCond .ne 14, 3) := by decide +kernel
theorem dX8_readBlock_15 : decode cX8_readBlock 15 = .ok (.aload_n 0, 1) := by decide +kernel
theorem dX8_readBlock_16 : decode cX8_readBlock 16 = .ok (.iload_n 3, 1) := by decide +kernel
theorem dX8_readBlock_17 : decode cX8_readBlock 17 = .ok (.invokevirtual 68, 3) := by decide +kernel
theorem dX8_readBlock_20 : decode cX8_readBlock 20 = .ok (.iinc 3 1, 3) := by decide +kernel
theorem dX8_readBlock_23 : decode cX8_readBlock 23 = .ok (.goto (-21), 3) := by decide +kernel
theorem dX8_readBlock_26 : decode cX8_readBlock 26 = .ok (.aload_n 0, 1) := by decide +kernel
theorem dX8_readBlock_27 : decode cX8_readBlock 27 = .ok (.invokevirtual 72, 3) := by decide +kernel
theorem dX8_readBlock_30 : decode cX8_readBlock 30 = .ok (.aload_n 0, 1) := by decide +kernel
theorem dX8_readBlock_31 : decode cX8_readBlock 31 = .ok (.getfield 15, 3) := by decide +kernel
theorem dX8_readBlock_34 : decode cX8_readBlock 34 = .ok (.ifCond .ne 12, 3) := by decide +kernel
theorem dX8_readBlock_37 : decode cX8_readBlock 37 = .ok (.aload_n 1, 1) := by decide +kernel
theorem dX8_readBlock_38 : decode cX8_readBlock 38 = .ok (.aload_n 0, 1) := by decide +kernel
theorem dX8_readBlock_39 : decode cX8_readBlock 39 = .ok (.getfield 11, 3) := by decide +kernel
theorem dX8_readBlock_42 : decode cX8_readBlock 42 = .ok (.iload_n 2, 1) := by decide +kernel
theorem dX8_readBlock_43 : decode cX8_readBlock 43 = .ok (.invokevirtual 75, 3) := by decide +kernel
theorem dX8_readBlock_46 : decode cX8_readBlock 46 = .ok (.return_, 1) := by decide +kernel
theorem dX8_readNumber_0 : decode cX8_readNumber 0 = .ok (.aload_n 0, 1) := by decide +kernel
theorem dX8_readNumber_1 : decode cX8_readNumber 1 = .ok (.getfield 26, 3) := by decide +kernel
theorem dX8_readNumber_4 : decode cX8_readNumber 4 = .ok (.istore_n 2, 1) := by decide +kernel
theorem dX8_readNumber_5 : decode cX8_readNumber 5 = .ok (.aload_n 0, 1) := by decide +kernel
theorem dX8_readNumber_6 : decode cX8_readNumber 6 = .ok (.invokevirtual 29, 3) := by decide +kernel
theorem dX8_readNumber_9 : decode cX8_readNumber 9 = .ok (.aload_n 0, 1) := by decide +kernel
theorem dX8_readNumber_10 : decode cX8_readNumber 10 = .ok (.getfield 22, 3) := by decide +kernel
theorem dX8_readNumber_13 : decode cX8_readNumber 13 = .ok (.aload_n 0, 1) := by decide +kernel
theorem dX8_readNumber_14 : decode cX8_readNumber 14 = .ok (.getfield 26, 3) := by decide +kernel
theorem dX8_readNumber_17 : decode cX8_readNumber 17 = .ok (.invokevirtual 81, 3) := by decide +kernel
theorem dX8_readNumber_20 : decode cX8_readNumber 20 = .ok (.bipush 48, 2) := by decide +kernel
theorem dX8_readNumber_22 : decode cX8_readNumber 22 = .ok (.isub, 1) := by decide +kernel
theorem dX8_readNumber_23 : decode cX8_readNumber 23 = .ok (.istore_n 3, 1) := by decide +kernel
theorem dX8_readNumber_24 : decode cX8_readNumber 24 = .ok (.aload_n 0, 1) := by decide +kernel
theorem dX8_readNumber_25 : decode cX8_readNumber 25 = .ok (.getfield 26, 3) := by decide +kernel
theorem dX8_readNumber_28 : decode cX8_readNumber 28 = .ok (.iload_n 2, 1) := by decide +kernel
theorem dX8_readNumber_29 : decode cX8_readNumber 29 = .ok (.if_icmp .le 7, 3) := by decide +kernel
theorem dX8_readNumber_32 : decode cX8_readNumber 32 = .ok (.iconst 1, 1) := by decide +kernel
theorem dX8_readNumber_33 : decode cX8_readNumber 33 = .ok (.goto 4, 3) := by decide +kernel
theorem dX8_readNumber_36 : decode cX8_readNumber 36 = .ok (.iconst 0, 1) := by decide +kernel
theorem dX8_readNumber_37 : decode cX8_readNumber 37 = .ok (.istore 4, 2) := by decide +kernel
theorem dX8_readNumber_39 : decode cX8_readNumber 39 = .ok (.iload 4, 2) := by decide +kernel
theorem dX8_readNumber_41 : decode cX8_readNumber 41 = .ok (.ifCond .eq 13, 3) := by decide +kernel
theorem dX8_readNumber_44 : decode cX8_readNumber 44 = .ok (.iload_n 3, 1) := by decide +kernel
theorem dX8_readNumber_45 : decode cX8_readNumber 45 = .ok (.ifCond .lt 9, 3) := by decide +kernel
theorem dX8_readNumber_48 : decode cX8_readNumber 48 = .ok (.iload_n 3, 1) := by decide +kernel
theorem dX8_readNumber_49 : decode cX8_readNumber 49 = .ok (.bipush 9, 2) := by decide +kernel
theorem dX8_readNumber_51 : decode cX8_readNumber 51 = .ok (.if_icmp .le 15, 3) := by decide +kernel
theorem dX8_readNumber_54 : decode cX8_readNumber 54 = .ok (.aload_n 0, 1) := by decide +kernel
theorem dX8_readNumber_55 : decode cX8_readNumber 55 = .ok (.iconst 1, 1) := by decide +kernel
theorem dX8_readNumber_56 : decode cX8_readNumber 56 = .ok (.aload_n 0, 1) := by decide +kernel
theorem dX8_readNumber_57 : decode cX8_readNumber 57 = .ok (.getfield 26, 3) := by decide +kernel
theorem dX8_readNumber_60 : decode cX8_readNumber 60 = .ok (.invokevirtual 64, 3) := by decide +kernel
theorem dX8_readNumber_63 : decode cX8_readNumber 63 = .ok (.goto 41, 3) := by decide +kernel
theorem dX8_readNumber_66 : decode cX8_readNumber 66 = .ok (.iload_n 1, 1) := by decide +kernel
theorem dX8_readNumber_67 : decode cX8_readNumber 67 = .ok (.iconst 3, 1) := by decide +kernel
theorem dX8_readNumber_68 : decode cX8_readNumber 68 = .ok (.if_icmp .lt 19, 3) := by decide +kernel
theorem dX8_readNumber_71 : decode cX8_readNumber 71 = .ok (.iload_n 3, 1) := by decide +kernel
theorem dX8_readNumber_72 : decode cX8_readNumber 72 = .ok (.ifCond .ne 15, 3) := by decide +kernel
theorem dX8_readNumber_75 : decode cX8_readNumber 75 = .ok (.aload_n 0, 1) := by decide +kernel
theorem dX8_readNumber_76 : decode cX8_readNumber 76 = .ok (.iconst 2, 1) := by decide +kernel
theorem dX8_readNumber_77 : decode cX8_readNumber 77 = .ok (.aload_n 0, 1) := by decide +kernel
theorem dX8_readNumber_78 : decode cX8_readNumber 78 = .ok (.getfield 26, 3) := by decide +kernel
theorem dX8_readNumber_81 : decode cX8_readNumber 81 = .ok (.invokevirtual 64, 3) := by decide +kernel
theorem dX8_readNumber_84 : decode cX8_readNumber 84 = .ok (.goto 20, 3) := by decide +kernel
theorem dX8_readNumber_87 : decode cX8_readNumber 87 = .ok (.aload_n 0, 1) := by decide +kernel
theorem dX8_readNumber_88 : decode cX8_readNumber 88 = .ok (.getfield 11, 3) := by decide +kernel
theorem dX8_readNumber_91 : decode cX8_readNumber 91 = .ok (.iload_n 1, 1) := by decide +kernel
theorem dX8_readNumber_92 : decode cX8_readNumber 92 = .ok (.iload_n 3, 1) := by decide +kernel
theorem dX8_readNumber_93 : decode cX8_readNumber 93 = .ok (.iastore, 1) := by decide +kernel
theorem dX8_readNumber_94 : decode cX8_readNumber 94 = .ok (.aload_n 0, 1) := by decide +kernel
theorem dX8_readNumber_95 : decode cX8_readNumber 95 = .ok (.dup, 1) := by decide +kernel
theorem dX8_readNumber_96 : decode cX8_readNumber 96 = .ok (.getfield 26, 3) := by decide +kernel
theorem dX8_readNumber_99 : decode cX8_readNumber 99 = .ok (.iconst 1, 1) := by decide +kernel
theorem dX8_readNumber_100 : decode cX8_readNumber 100 = .ok (.iadd, 1) := by decide +kernel
theorem dX8_readNumber_101 : decode cX8_readNumber 101 = .ok (.putfield 26, 3) := by decide +kernel
theorem dX8_readNumber_104 : decode cX8_readNumber 104 = .ok (.return_, 1) := by decide +kernel
theorem dX8_readMirror_0 : decode cX8_readMirror 0 = .ok (.aload_n 0, 1) := by decide +kernel
theorem dX8_readMirror_1 : decode cX8_readMirror 1 = .ok (.invokevirtual 29, 3) := by decide +kernel
theorem dX8_readMirror_4 : decode cX8_readMirror 4 = .ok (.aload_n 0, 1) := by decide +kernel
theorem dX8_readMirror_5 : decode cX8_readMirror 5 = .ok (.getfield 26, 3) := by decide +kernel
theorem dX8_readMirror_8 : decode cX8_readMirror 8 = .ok (.istore_n 2, 1) := by decide +kernel
theorem dX8_readMirror_9 : decode cX8_readMirror 9 = .ok (.aload_n 0, 1) := by decide +kernel
theorem dX8_readMirror_10 : decode cX8_readMirror 10 = .ok (.invokevirtual 85, 3) := by decide +kernel
theorem dX8_readMirror_13 : decode cX8_readMirror 13 = .ok (.istore_n 3, 1) := by decide +kernel
theorem dX8_readMirror_14 : decode cX8_readMirror 14 = .ok (.iload_n 3, 1) := by decide +kernel
theorem dX8_readMirror_15 : decode cX8_readMirror 15 = .ok (.iconst (-1), 1) := by decide +kernel
theorem dX8_readMirror_16 : decode cX8_readMirror 16 = .ok (.if_icmp .ne 9, 3) := by decide +kernel
theorem dX8_readMirror_19 : decode cX8_readMirror 19 = .ok (.aload_n 0, 1) := by decide +kernel
theorem dX8_readMirror_20 : decode cX8_readMirror 20 = .ok (.iconst 1, 1) := by decide +kernel
theorem dX8_readMirror_21 : decode cX8_readMirror 21 = .ok (.iload_n 2, 1) := by decide +kernel
theorem dX8_readMirror_22 : decode cX8_readMirror 22 = .ok (.invokevirtual 64, 3) := by decide +kernel
theorem dX8_readMirror_25 : decode cX8_readMirror 25 = .ok (.aload_n 0, 1) := by decide +kernel
theorem dX8_readMirror_26 : decode cX8_readMirror 26 = .ok (.invokevirtual 72, 3) := by decide +kernel
theorem dX8_readMirror_29 : decode cX8_readMirror 29 = .ok (.aload_n 0, 1) := by decide +kernel
theorem dX8_readMirror_30 : decode cX8_readMirror 30 = .ok (.getfield 15, 3) := by decide +kernel
theorem dX8_readMirror_33 : decode cX8_readMirror 33 = .ok (.ifCond .ne 8, 3) := by decide +kernel
theorem dX8_readMirror_36 : decode cX8_readMirror 36 = .ok (.aload_n 1, 1) := by decide +kernel
theorem dX8_readMirror_37 : decode cX8_readMirror 37 = .ok (.iload_n 3, 1) := by decide +kernel
theorem dX8_readMirror_38 : decode cX8_readMirror 38 = .ok (.invokevirtual 88, 3) := by decide +kernel
theorem dX8_readMirror_41 : decode cX8_readMirror 41 = .ok (.return_, 1) := by decide +kernel
theorem dX8_readTurn_0 : decode cX8_readTurn 0 = .ok (.aload_n 1, 1) := by decide +kernel
theorem dX8_readTurn_1 : decode cX8_readTurn 1 = .ok (.invokevirtual 91, 3) := by decide +kernel
theorem dX8_readTurn_4 : decode cX8_readTurn 4 = .ok (.ifCond .ne 9, 3) := by decide +kernel
theorem dX8_readTurn_7 : decode cX8_readTurn 7 = .ok (.aload_n 0, 1) := by decide +kernel
theorem dX8_readTurn_8 : decode cX8_readTurn 8 = .ok (.iconst 2, 1) := by decide +kernel
theorem dX8_readTurn_9 : decode cX8_readTurn 9 = .ok (.iload_n 2, 1) := by decide +kernel
theorem dX8_readTurn_10 : decode cX8_readTurn 10 = .ok (.invokevirtual 64, 3) := by decide +kernel
theorem dX8_readTurn_13 : decode cX8_readTurn 13 = .ok (.aload_n 0, 1) := by decide +kernel
theorem dX8_readTurn_14 : decode cX8_readTurn 14 = .ok (.invokevirtual 72, 3) := by decide +kernel
theorem dX8_readTurn_17 : decode cX8_readTurn 17 = .ok (.aload_n 0, 1) := by decide +kernel
theorem dX8_readTurn_18 : decode cX8_readTurn 18 = .ok (.getfield 15, 3) := by decide +kernel
theorem dX8_readTurn_21 : decode cX8_readTurn 21 = .ok (.ifCond .ne 7, 3) := by decide +kernel
theorem dX8_readTurn_24 : decode cX8_readTurn 24 = .ok (.aload_n 1, 1) := by decide +kernel
theorem dX8_readTurn_25 : decode cX8_readTurn 25 = .ok (.invokevirtual 95, 3) := by decide +kernel
theorem dX8_readTurn_28 : decode cX8_readTurn 28 = .ok (.return_, 1) := by decide +kernel
theorem dX8_readSemicolon_0 : decode cX8_readSemicolon 0 = .ok (.aload_n 0, 1) := by decide +kernel
theorem dX8_readSemicolon_1 : decode cX8_readSemicolon 1 = .ok (.invokevirtual 29, 3) := by decide +kernel
theorem dX8_readSemicolon_4 : decode cX8_readSemicolon 4 = .ok (.aload_n 0, 1) := by decide +kernel
theorem dX8_readSemicolon_5 : decode cX8_readSemicolon 5 = .ok (.getfield 22, 3) := by decide +kernel
theorem dX8_readSemicolon_8 : decode cX8_readSemicolon 8 = .ok (.aload_n 0, 1) := by decide +kernel
theorem dX8_readSemicolon_9 : decode cX8_readSemicolon 9 = .ok (.getfield 26, 3) := by decide +kernel
theorem dX8_readSemicolon_12 : decode cX8_readSemicolon 12 = .ok (.invokevirtual 81, 3) := by decide +kernel
theorem dX8_readSemicolon_15 : decode cX8_readSemicolon 15 = .ok (.bipush 59, 2) := by decide +kernel
theorem dX8_readSemicolon_17 : decode cX8_readSemicolon 17 = .ok (.if_icmp .ne 16, 3) := by decide +kernel
theorem dX8_readSemicolon_20 : decode cX8_readSemicolon 20 = .ok (.aload_n 0, 1) := by decide +kernel
theorem dX8_readSemicolon_21 : decode cX8_readSemicolon 21 = .ok (.dup, 1) := by decide +kernel
theorem dX8_readSemicolon_22 : decode cX8_readSemicolon 22 = .ok (.getfield 26, 3) := by decide +kernel
theorem dX8_readSemicolon_25 : decode cX8_readSemicolon 25 = .ok (.iconst 1, 1) := by decide +kernel
theorem dX8_readSemicolon_26 : decode cX8_readSemicolon 26 = .ok (.iadd, 1) := by decide +kernel
theorem dX8_readSemicolon_27 : decode cX8_readSemicolon 27 = .ok (.putfield 26, 3) := by decide +kernel
theorem dX8_readSemicolon_30 : decode cX8_readSemicolon 30 = .ok (.goto 12, 3) := by decide +kernel
theorem dX8_readSemicolon_33 : decode cX8_readSemicolon 33 = .ok (.aload_n 0, 1) := by decide +kernel
theorem dX8_readSemicolon_34 : decode cX8_readSemicolon 34 = .ok (.iconst 1, 1) := by decide +kernel
theorem dX8_readSemicolon_35 : decode cX8_readSemicolon 35 = .ok (.aload_n 0, 1) := by decide +kernel
theorem dX8_readSemicolon_36 : decode cX8_readSemicolon 36 = .ok (.getfield 26, 3) := by decide +kernel
theorem dX8_readSemicolon_39 : decode cX8_readSemicolon 39 = .ok (.invokevirtual 64, 3) := by decide +kernel
theorem dX8_readSemicolon_42 : decode cX8_readSemicolon 42 = .ok (.return_, 1) := by decide +kernel
theorem dX8_takeAxis_0 : decode cX8_takeAxis 0 = .ok (.aload_n 0, 1) := by decide +kernel
theorem dX8_takeAxis_1 : decode cX8_takeAxis 1 = .ok (.ldc 98, 2) := by decide +kernel
theorem dX8_takeAxis_3 : decode cX8_takeAxis 3 = .ok (.invokevirtual 44, 3) := by decide +kernel
theorem dX8_takeAxis_6 : decode cX8_takeAxis 6 = .ok (.ifCond .eq 5, 3) := by decide +kernel
theorem dX8_takeAxis_9 : decode cX8_takeAxis 9 = .ok (.iconst 0, 1) := by decide +kernel
theorem dX8_takeAxis_10 : decode cX8_takeAxis 10 = .ok (.ireturn, 1) := by decide +kernel
theorem dX8_takeAxis_11 : decode cX8_takeAxis 11 = .ok (.aload_n 0, 1) := by decide +kernel
theorem dX8_takeAxis_12 : decode cX8_takeAxis 12 = .ok (.ldc 100, 2) := by decide +kernel
theorem dX8_takeAxis_14 : decode cX8_takeAxis 14 = .ok (.invokevirtual 44, 3) := by decide +kernel
theorem dX8_takeAxis_17 : decode cX8_takeAxis 17 = .ok (.ifCond .eq 5, 3) := by decide +kernel
theorem dX8_takeAxis_20 : decode cX8_takeAxis 20 = .ok (.iconst 1, 1) := by decide +kernel
theorem dX8_takeAxis_21 : decode cX8_takeAxis 21 = .ok (.ireturn, 1) := by decide +kernel
theorem dX8_takeAxis_22 : decode cX8_takeAxis 22 = .ok (.aload_n 0, 1) := by decide +kernel
theorem dX8_takeAxis_23 : decode cX8_takeAxis 23 = .ok (.ldc 102, 2) := by decide +kernel
theorem dX8_takeAxis_25 : decode cX8_takeAxis 25 = .ok (.invokevirtual 44, 3) := by decide +kernel
theorem dX8_takeAxis_28 : decode cX8_takeAxis 28 = .ok (.ifCond .eq 7, 3) := by decide +kernel
theorem dX8_takeAxis_31 : decode cX8_takeAxis 31 = .ok (.iconst 2, 1) := by decide +kernel
theorem dX8_takeAxis_32 : decode cX8_takeAxis 32 = .ok (.goto 4, 3) := by decide +kernel
theorem dX8_takeAxis_35 : decode cX8_takeAxis 35 = .ok (.iconst (-1), 1) := by decide +kernel
theorem dX8_takeAxis_36 : decode cX8_takeAxis 36 = .ok (.ireturn, 1) := by decide +kernel
theorem dX8_takeWord_0 : decode cX8_takeWord 0 = .ok (.aload_n 1, 1) := by decide +kernel
theorem dX8_takeWord_1 : decode cX8_takeWord 1 = .ok (.invokevirtual 104, 3) := by decide +kernel
theorem dX8_takeWord_4 : decode cX8_takeWord 4 = .ok (.istore_n 2, 1) := by decide +kernel
theorem dX8_takeWord_5 : decode cX8_takeWord 5 = .ok (.iconst 0, 1) := by decide +kernel
theorem dX8_takeWord_6 : decode cX8_takeWord 6 = .ok (.istore_n 3, 1) := by decide +kernel
theorem dX8_takeWord_7 : decode cX8_takeWord 7 = .ok (.iload_n 3, 1) := by decide +kernel
theorem dX8_takeWord_8 : decode cX8_takeWord 8 = .ok (.iload_n 2, 1) := by decide +kernel
theorem dX8_takeWord_9 : decode cX8_takeWord 9 = .ok (.if_icmp .ge 32, 3) := by decide +kernel
theorem dX8_takeWord_12 : decode cX8_takeWord 12 = .ok (.aload_n 0, 1) := by decide +kernel
theorem dX8_takeWord_13 : decode cX8_takeWord 13 = .ok (.getfield 22, 3) := by decide +kernel
theorem dX8_takeWord_16 : decode cX8_takeWord 16 = .ok (.aload_n 0, 1) := by decide +kernel
theorem dX8_takeWord_17 : decode cX8_takeWord 17 = .ok (.getfield 26, 3) := by decide +kernel
theorem dX8_takeWord_20 : decode cX8_takeWord 20 = .ok (.iload_n 3, 1) := by decide +kernel
theorem dX8_takeWord_21 : decode cX8_takeWord 21 = .ok (.iadd, 1) := by decide +kernel
theorem dX8_takeWord_22 : decode cX8_takeWord 22 = .ok (.invokevirtual 81, 3) := by decide +kernel
theorem dX8_takeWord_25 : decode cX8_takeWord 25 = .ok (.aload_n 1, 1) := by decide +kernel
theorem dX8_takeWord_26 : decode cX8_takeWord 26 = .ok (.iload_n 3, 1) := by decide +kernel
theorem dX8_takeWord_27 : decode cX8_takeWord 27 = .ok (.invokevirtual 109, 3) := by decide +kernel
theorem dX8_takeWord_30 : decode cX8_takeWord 30 = .ok (.if_icmp .eq 5, 3) := by decide +kernel
theorem dX8_takeWord_33 : decode cX8_takeWord 33 = .ok (.iconst 0, 1) := by decide +kernel
theorem dX8_takeWord_34 : decode cX8_takeWord 34 = .ok (.ireturn, 1) := by decide +kernel
theorem dX8_takeWord_35 : decode cX8_takeWord 35 = .ok (.iinc 3 1, 3) := by decide +kernel
theorem dX8_takeWord_38 : decode cX8_takeWord 38 = .ok (.goto (-31), 3) := by decide +kernel
theorem dX8_takeWord_41 : decode cX8_takeWord 41 = .ok (.aload_n 0, 1) := by decide +kernel
theorem dX8_takeWord_42 : decode cX8_takeWord 42 = .ok (.getfield 22, 3) := by decide +kernel
theorem dX8_takeWord_45 : decode cX8_takeWord 45 = .ok (.aload_n 0, 1) := by decide +kernel
theorem dX8_takeWord_46 : decode cX8_takeWord 46 = .ok (.getfield 26, 3) := by decide +kernel
theorem dX8_takeWord_49 : decode cX8_takeWord 49 = .ok (.iload_n 2, 1) := by decide +kernel
theorem dX8_takeWord_50 : decode cX8_takeWord 50 = .ok (.iadd, 1) := by decide +kernel
theorem dX8_takeWord_51 : decode cX8_takeWord 51 = .ok (.invokevirtual 81, 3) := by decide +kernel
theorem dX8_takeWord_54 : decode cX8_takeWord 54 = .ok (.invokestatic 113, 3) := by decide +kernel
theorem dX8_takeWord_57 : decode cX8_takeWord 57 = .ok (.ifCond .eq 5, 3) := by decide +kernel
theorem dX8_takeWord_60 : decode cX8_takeWord 60 = .ok (.iconst 0, 1) := by decide +kernel
theorem dX8_takeWord_61 : decode cX8_takeWord 61 = .ok (.ireturn, 1) := by decide +kernel
theorem dX8_takeWord_62 : decode cX8_takeWord 62 = .ok (.aload_n 0, 1) := by decide +kernel
theorem dX8_takeWord_63 : decode cX8_takeWord 63 = .ok (.dup, 1) := by decide +kernel
theorem dX8_takeWord_64 : decode cX8_takeWord 64 = .ok (.getfield 26, 3) := by decide +kernel
theorem dX8_takeWord_67 : decode cX8_takeWord 67 = .ok (.iload_n 2, 1) := by decide +kernel
theorem dX8_takeWord_68 : decode cX8_takeWord 68 = .ok (.iadd, 1) := by decide +kernel
theorem dX8_takeWord_69 : decode cX8_takeWord 69 = .ok (.putfield 26, 3) := by decide +kernel
theorem dX8_takeWord_72 : decode cX8_takeWord 72 = .ok (.iconst 1, 1) := by decide +kernel
theorem dX8_takeWord_73 : decode cX8_takeWord 73 = .ok (.ireturn, 1) := by decide +kernel
theorem dX8_isLetter_0 : decode cX8_isLetter 0 = .ok (.iload_n 0, 1) := by decide +kernel
theorem dX8_isLetter_1 : decode cX8_isLetter 1 = .ok (.bipush 97, 2) := by decide +kernel
theorem dX8_isLetter_3 : decode cX8_isLetter 3 = .ok (.if_icmp .lt 13, 3) := by decide +kernel
theorem dX8_isLetter_6 : decode cX8_isLetter 6 = .ok (.iload_n 0, 1) := by decide +kernel
theorem dX8_isLetter_7 : decode cX8_isLetter 7 = .ok (.bipush 122, 2) := by decide +kernel
theorem dX8_isLetter_9 : decode cX8_isLetter 9 = .ok (.if_icmp .gt 7, 3) := by decide +kernel
theorem dX8_isLetter_12 : decode cX8_isLetter 12 = .ok (.iconst 1, 1) := by decide +kernel
theorem dX8_isLetter_13 : decode cX8_isLetter 13 = .ok (.goto 4, 3) := by decide +kernel
theorem dX8_isLetter_16 : decode cX8_isLetter 16 = .ok (.iconst 0, 1) := by decide +kernel
theorem dX8_isLetter_17 : decode cX8_isLetter 17 = .ok (.ireturn, 1) := by decide +kernel
theorem dX8_skipBlanks_0 : decode cX8_skipBlanks 0 = .ok (.aload_n 0, 1) := by decide +kernel
theorem dX8_skipBlanks_1 : decode cX8_skipBlanks 1 = .ok (.getfield 26, 3) := by decide +kernel
theorem dX8_skipBlanks_4 : decode cX8_skipBlanks 4 = .ok (.aload_n 0, 1) := by decide +kernel
theorem dX8_skipBlanks_5 : decode cX8_skipBlanks 5 = .ok (.getfield 22, 3) := by decide +kernel
theorem dX8_skipBlanks_8 : decode cX8_skipBlanks 8 = .ok (.invokevirtual 34, 3) := by decide +kernel
theorem dX8_skipBlanks_11 : decode cX8_skipBlanks 11 = .ok (.if_icmp .ge 33, 3) := by decide +kernel
theorem dX8_skipBlanks_14 : decode cX8_skipBlanks 14 = .ok (.aload_n 0, 1) := by decide +kernel
theorem dX8_skipBlanks_15 : decode cX8_skipBlanks 15 = .ok (.getfield 22, 3) := by decide +kernel
theorem dX8_skipBlanks_18 : decode cX8_skipBlanks 18 = .ok (.aload_n 0, 1) := by decide +kernel
theorem dX8_skipBlanks_19 : decode cX8_skipBlanks 19 = .ok (.getfield 26, 3) := by decide +kernel
theorem dX8_skipBlanks_22 : decode cX8_skipBlanks 22 = .ok (.invokevirtual 81, 3) := by decide +kernel
theorem dX8_skipBlanks_25 : decode cX8_skipBlanks 25 = .ok (.invokestatic 117, 3) := by decide +kernel
theorem dX8_skipBlanks_28 : decode cX8_skipBlanks 28 = .ok (.ifCond .eq 16, 3) := by decide +kernel
theorem dX8_skipBlanks_31 : decode cX8_skipBlanks 31 = .ok (.aload_n 0, 1) := by decide +kernel
theorem dX8_skipBlanks_32 : decode cX8_skipBlanks 32 = .ok (.dup, 1) := by decide +kernel
theorem dX8_skipBlanks_33 : decode cX8_skipBlanks 33 = .ok (.getfield 26, 3) := by decide +kernel
theorem dX8_skipBlanks_36 : decode cX8_skipBlanks 36 = .ok (.iconst 1, 1) := by decide +kernel
theorem dX8_skipBlanks_37 : decode cX8_skipBlanks 37 = .ok (.iadd, 1) := by decide +kernel
theorem dX8_skipBlanks_38 : decode cX8_skipBlanks 38 = .ok (.putfield 26, 3) := by decide +kernel
theorem dX8_skipBlanks_41 : decode cX8_skipBlanks 41 = .ok (.goto (-41), 3) := by decide +kernel
theorem dX8_skipBlanks_44 : decode cX8_skipBlanks 44 = .ok (.return_, 1) := by decide +kernel
theorem dX8_isBlank_0 : decode cX8_isBlank 0 = .ok (.iload_n 0, 1) := by decide +kernel
theorem dX8_isBlank_1 : decode cX8_isBlank 1 = .ok (.bipush 10, 2) := by decide +kernel
theorem dX8_isBlank_3 : decode cX8_isBlank 3 = .ok (.if_icmp .eq 9, 3) := by decide +kernel
theorem dX8_isBlank_6 : decode cX8_isBlank 6 = .ok (.iload_n 0, 1) := by decide +kernel
theorem dX8_isBlank_7 : decode cX8_isBlank 7 = .ok (.bipush 32, 2) := by decide +kernel
theorem dX8_isBlank_9 : decode cX8_isBlank 9 = .ok (.if_icmp .ne 7, 3) := by decide +kernel
theorem dX8_isBlank_12 : decode cX8_isBlank 12 = .ok (.iconst 1, 1) := by decide +kernel
theorem dX8_isBlank_13 : decode cX8_isBlank 13 = .ok (.goto 4, 3) := by decide +kernel
theorem dX8_isBlank_16 : decode cX8_isBlank 16 = .ok (.iconst 0, 1) := by decide +kernel
theorem dX8_isBlank_17 : decode cX8_isBlank 17 = .ok (.ireturn, 1) := by decide +kernel
theorem dX8_refuse_0 : decode cX8_refuse 0 = .ok (.aload_n 0, 1) := by decide +kernel
theorem dX8_refuse_1 : decode cX8_refuse 1 = .ok (.getfield 15, 3) := by decide +kernel
theorem dX8_refuse_4 : decode cX8_refuse 4 = .ok (.ifCond .ne 13, 3) := by decide +kernel
theorem dX8_refuse_7 : decode cX8_refuse 7 = .ok (.aload_n 0, 1) := by decide +kernel
theorem dX8_refuse_8 : decode cX8_refuse 8 = .ok (.iload_n 1, 1) := by decide +kernel
theorem dX8_refuse_9 : decode cX8_refuse 9 = .ok (.putfield 15, 3) := by decide +kernel
theorem dX8_refuse_12 : decode cX8_refuse 12 = .ok (.aload_n 0, 1) := by decide +kernel
theorem dX8_refuse_13 : decode cX8_refuse 13 = .ok (.iload_n 2, 1) := by decide +kernel
theorem dX8_refuse_14 : decode cX8_refuse 14 = .ok (.putfield 19, 3) := by decide +kernel
theorem dX8_refuse_17 : decode cX8_refuse 17 = .ok (.return_, 1) := by decide +kernel
theorem dX9_init_0 : decode cX9_init 0 = .ok (.aload_n 0, 1) := by decide +kernel
theorem dX9_init_1 : decode cX9_init 1 = .ok (.invokespecial 1, 3) := by decide +kernel
theorem dX9_init_4 : decode cX9_init 4 = .ok (.aload_n 0, 1) := by decide +kernel
theorem dX9_init_5 : decode cX9_init 5 = .ok (.new 7, 3) := by decide +kernel
theorem dX9_init_8 : decode cX9_init 8 = .ok (.dup, 1) := by decide +kernel
theorem dX9_init_9 : decode cX9_init 9 = .ok (.invokespecial 9, 3) := by decide +kernel
theorem dX9_init_12 : decode cX9_init 12 = .ok (.putfield 10, 3) := by decide +kernel
theorem dX9_init_15 : decode cX9_init 15 = .ok (.aload_n 0, 1) := by decide +kernel
theorem dX9_init_16 : decode cX9_init 16 = .ok (.new 16, 3) := by decide +kernel
theorem dX9_init_19 : decode cX9_init 19 = .ok (.dup, 1) := by decide +kernel
theorem dX9_init_20 : decode cX9_init 20 = .ok (.aload_n 0, 1) := by decide +kernel
theorem dX9_init_21 : decode cX9_init 21 = .ok (.getfield 10, 3) := by decide +kernel
theorem dX9_init_24 : decode cX9_init 24 = .ok (.invokespecial 18, 3) := by decide +kernel
theorem dX9_init_27 : decode cX9_init 27 = .ok (.putfield 21, 3) := by decide +kernel
theorem dX9_init_30 : decode cX9_init 30 = .ok (.aload_n 0, 1) := by decide +kernel
theorem dX9_init_31 : decode cX9_init 31 = .ok (.new 25, 3) := by decide +kernel
theorem dX9_init_34 : decode cX9_init 34 = .ok (.dup, 1) := by decide +kernel
theorem dX9_init_35 : decode cX9_init 35 = .ok (.invokespecial 27, 3) := by decide +kernel
theorem dX9_init_38 : decode cX9_init 38 = .ok (.putfield 28, 3) := by decide +kernel
theorem dX9_init_41 : decode cX9_init 41 = .ok (.aload_n 0, 1) := by decide +kernel
theorem dX9_init_42 : decode cX9_init 42 = .ok (.new 25, 3) := by decide +kernel
theorem dX9_init_45 : decode cX9_init 45 = .ok (.dup, 1) := by decide +kernel
theorem dX9_init_46 : decode cX9_init 46 = .ok (.invokespecial 27, 3) := by decide +kernel
theorem dX9_init_49 : decode cX9_init 49 = .ok (.putfield 32, 3) := by decide +kernel
theorem dX9_init_52 : decode cX9_init 52 = .ok (.aload_n 0, 1) := by decide +kernel
theorem dX9_init_53 : decode cX9_init 53 = .ok (.new 35, 3) := by decide +kernel
theorem dX9_init_56 : decode cX9_init 56 = .ok (.dup, 1) := by decide +kernel
theorem dX9_init_57 : decode cX9_init 57 = .ok (.aload_n 0, 1) := by decide +kernel
theorem dX9_init_58 : decode cX9_init 58 = .ok (.getfield 28, 3) := by decide +kernel
theorem dX9_init_61 : decode cX9_init 61 = .ok (.invokespecial 37, 3) := by decide +kernel
theorem dX9_init_64 : decode cX9_init 64 = .ok (.putfield 40, 3) := by decide +kernel
theorem dX9_init_67 : decode cX9_init 67 = .ok (.aload_n 0, 1) := by decide +kernel
theorem dX9_init_68 : decode cX9_init 68 = .ok (.new 44, 3) := by decide +kernel
theorem dX9_init_71 : decode cX9_init 71 = .ok (.dup, 1) := by decide +kernel
theorem dX9_init_72 : decode cX9_init 72 = .ok (.invokespecial 46, 3) := by decide +kernel
theorem dX9_init_75 : decode cX9_init 75 = .ok (.putfield 47, 3) := by decide +kernel
theorem dX9_init_78 : decode cX9_init 78 = .ok (.aload_n 0, 1) := by decide +kernel
theorem dX9_init_79 : decode cX9_init 79 = .ok (.new 51, 3) := by decide +kernel
theorem dX9_init_82 : decode cX9_init 82 = .ok (.dup, 1) := by decide +kernel
theorem dX9_init_83 : decode cX9_init 83 = .ok (.aload_n 0, 1) := by decide +kernel
theorem dX9_init_84 : decode cX9_init 84 = .ok (.getfield 40, 3) := by decide +kernel
theorem dX9_init_87 : decode cX9_init 87 = .ok (.aload_n 0, 1) := by decide +kernel
theorem dX9_init_88 : decode cX9_init 88 = .ok (.getfield 47, 3) := by decide +kernel
theorem dX9_init_91 : decode cX9_init 91 = .ok (.invokespecial 53, 3) := by decide +kernel
theorem dX9_init_94 : decode cX9_init 94 = .ok (.putfield 56, 3) := by decide +kernel
theorem dX9_init_97 : decode cX9_init 97 = .ok (.aload_n 0, 1) := by decide +kernel
theorem dX9_init_98 : decode cX9_init 98 = .ok (.new 60, 3) := by decide +kernel
theorem dX9_init_101 : decode cX9_init 101 = .ok (.dup, 1) := by decide +kernel
theorem dX9_init_102 : decode cX9_init 102 = .ok (.invokespecial 62, 3) := by decide +kernel
theorem dX9_init_105 : decode cX9_init 105 = .ok (.putfield 63, 3) := by decide +kernel
theorem dX9_init_108 : decode cX9_init 108 = .ok (.aload_n 0, 1) := by decide +kernel
theorem dX9_init_109 : decode cX9_init 109 = .ok (.new 67, 3) := by decide +kernel
theorem dX9_init_112 : decode cX9_init 112 = .ok (.dup, 1) := by decide +kernel
theorem dX9_init_113 : decode cX9_init 113 = .ok (.invokespecial 69, 3) := by decide +kernel
theorem dX9_init_116 : decode cX9_init 116 = .ok (.putfield 70, 3) := by decide +kernel
theorem dX9_init_119 : decode cX9_init 119 = .ok (.return_, 1) := by decide +kernel
theorem dX9_feed_0 : decode cX9_feed 0 = .ok (.aload_n 0, 1) := by decide +kernel
theorem dX9_feed_1 : decode cX9_feed 1 = .ok (.getfield 10, 3) := by decide +kernel
theorem dX9_feed_4 : decode cX9_feed 4 = .ok (.invokevirtual 74, 3) := by decide +kernel
theorem dX9_feed_7 : decode cX9_feed 7 = .ok (.ifCond .ne 5, 3) := by decide +kernel
theorem dX9_feed_10 : decode cX9_feed 10 = .ok (.iconst (-1), 1) := by decide +kernel
theorem dX9_feed_11 : decode cX9_feed 11 = .ok (.ireturn, 1) := by decide +kernel
theorem dX9_feed_12 : decode cX9_feed 12 = .ok (.aload_n 0, 1) := by decide +kernel
theorem dX9_feed_13 : decode cX9_feed 13 = .ok (.getfield 10, 3) := by decide +kernel
theorem dX9_feed_16 : decode cX9_feed 16 = .ok (.iload_n 1, 1) := by decide +kernel
theorem dX9_feed_17 : decode cX9_feed 17 = .ok (.invokevirtual 78, 3) := by decide +kernel
theorem dX9_feed_20 : decode cX9_feed 20 = .ok (.aload_n 0, 1) := by decide +kernel
theorem dX9_feed_21 : decode cX9_feed 21 = .ok (.getfield 10, 3) := by decide +kernel
theorem dX9_feed_24 : decode cX9_feed 24 = .ok (.iload_n 2, 1) := by decide +kernel
theorem dX9_feed_25 : decode cX9_feed 25 = .ok (.invokevirtual 78, 3) := by decide +kernel
theorem dX9_feed_28 : decode cX9_feed 28 = .ok (.aload_n 0, 1) := by decide +kernel
theorem dX9_feed_29 : decode cX9_feed 29 = .ok (.getfield 10, 3) := by decide +kernel
theorem dX9_feed_32 : decode cX9_feed 32 = .ok (.iload_n 3, 1) := by decide +kernel
theorem dX9_feed_33 : decode cX9_feed 33 = .ok (.invokevirtual 78, 3) := by decide +kernel
theorem dX9_feed_36 : decode cX9_feed 36 = .ok (.aload_n 0, 1) := by decide +kernel
theorem dX9_feed_37 : decode cX9_feed 37 = .ok (.getfield 10, 3) := by decide +kernel
theorem dX9_feed_40 : decode cX9_feed 40 = .ok (.iload 4, 2) := by decide +kernel
theorem dX9_feed_42 : decode cX9_feed 42 = .ok (.invokevirtual 78, 3) := by decide +kernel
theorem dX9_feed_45 : decode cX9_feed 45 = .ok (.aload_n 0, 1) := by decide +kernel
theorem dX9_feed_46 : decode cX9_feed 46 = .ok (.getfield 10, 3) := by decide +kernel
theorem dX9_feed_49 : decode cX9_feed 49 = .ok (.iload 5, 2) := by decide +kernel
theorem dX9_feed_51 : decode cX9_feed 51 = .ok (.invokevirtual 78, 3) := by decide +kernel
theorem dX9_feed_54 : decode cX9_feed 54 = .ok (.aload_n 0, 1) := by decide +kernel
theorem dX9_feed_55 : decode cX9_feed 55 = .ok (.getfield 10, 3) := by decide +kernel
theorem dX9_feed_58 : decode cX9_feed 58 = .ok (.invokevirtual 82, 3) := by decide +kernel
theorem dX9_feed_61 : decode cX9_feed 61 = .ok (.ireturn, 1) := by decide +kernel
theorem dX9_end_0 : decode cX9_end 0 = .ok (.aload_n 0, 1) := by decide +kernel
theorem dX9_end_1 : decode cX9_end 1 = .ok (.getfield 10, 3) := by decide +kernel
theorem dX9_end_4 : decode cX9_end 4 = .ok (.iload_n 1, 1) := by decide +kernel
theorem dX9_end_5 : decode cX9_end 5 = .ok (.invokevirtual 86, 3) := by decide +kernel
theorem dX9_end_8 : decode cX9_end 8 = .ok (.ireturn, 1) := by decide +kernel
theorem dX9_form_0 : decode cX9_form 0 = .ok (.iload_n 1, 1) := by decide +kernel
theorem dX9_form_1 : decode cX9_form 1 = .ok (.invokestatic 90, 3) := by decide +kernel
theorem dX9_form_4 : decode cX9_form 4 = .ok (.ifCond .eq 17, 3) := by decide +kernel
theorem dX9_form_7 : decode cX9_form 7 = .ok (.iload_n 2, 1) := by decide +kernel
theorem dX9_form_8 : decode cX9_form 8 = .ok (.invokestatic 90, 3) := by decide +kernel
theorem dX9_form_11 : decode cX9_form 11 = .ok (.ifCond .eq 10, 3) := by decide +kernel
theorem dX9_form_14 : decode cX9_form 14 = .ok (.iload_n 3, 1) := by decide +kernel
theorem dX9_form_15 : decode cX9_form 15 = .ok (.invokestatic 90, 3) := by decide +kernel
theorem dX9_form_18 : decode cX9_form 18 = .ok (.ifCond .ne 6, 3) := by decide +kernel
theorem dX9_form_21 : decode cX9_form 21 = .ok (.bipush (-2), 2) := by decide +kernel
theorem dX9_form_23 : decode cX9_form 23 = .ok (.ireturn, 1) := by decide +kernel
theorem dX9_form_24 : decode cX9_form 24 = .ok (.aload_n 0, 1) := by decide +kernel
theorem dX9_form_25 : decode cX9_form 25 = .ok (.getfield 32, 3) := by decide +kernel
theorem dX9_form_28 : decode cX9_form 28 = .ok (.iload_n 1, 1) := by decide +kernel
theorem dX9_form_29 : decode cX9_form 29 = .ok (.iload_n 2, 1) := by decide +kernel
theorem dX9_form_30 : decode cX9_form 30 = .ok (.iload_n 3, 1) := by decide +kernel
theorem dX9_form_31 : decode cX9_form 31 = .ok (.invokevirtual 93, 3) := by decide +kernel
theorem dX9_form_34 : decode cX9_form 34 = .ok (.aload_n 0, 1) := by decide +kernel
theorem dX9_form_35 : decode cX9_form 35 = .ok (.getfield 21, 3) := by decide +kernel
theorem dX9_form_38 : decode cX9_form 38 = .ok (.aload_n 0, 1) := by decide +kernel
theorem dX9_form_39 : decode cX9_form 39 = .ok (.getfield 32, 3) := by decide +kernel
theorem dX9_form_42 : decode cX9_form 42 = .ok (.invokevirtual 97, 3) := by decide +kernel
theorem dX9_form_45 : decode cX9_form 45 = .ok (.istore 4, 2) := by decide +kernel
theorem dX9_form_47 : decode cX9_form 47 = .ok (.aload_n 0, 1) := by decide +kernel
theorem dX9_form_48 : decode cX9_form 48 = .ok (.getfield 10, 3) := by decide +kernel
theorem dX9_form_51 : decode cX9_form 51 = .ok (.iconst 0, 1) := by decide +kernel
theorem dX9_form_52 : decode cX9_form 52 = .ok (.invokevirtual 86, 3) := by decide +kernel
theorem dX9_form_55 : decode cX9_form 55 = .ok (.pop, 1) := by decide +kernel
theorem dX9_form_56 : decode cX9_form 56 = .ok (.iload 4, 2) := by decide +kernel
theorem dX9_form_58 : decode cX9_form 58 = .ok (.ifCond .ne 5, 3) := by decide +kernel
theorem dX9_form_61 : decode cX9_form 61 = .ok (.iconst (-1), 1) := by decide +kernel
theorem dX9_form_62 : decode cX9_form 62 = .ok (.ireturn, 1) := by decide +kernel
theorem dX9_form_63 : decode cX9_form 63 = .ok (.aload_n 0, 1) := by decide +kernel
theorem dX9_form_64 : decode cX9_form 64 = .ok (.getfield 28, 3) := by decide +kernel
theorem dX9_form_67 : decode cX9_form 67 = .ok (.aload_n 0, 1) := by decide +kernel
theorem dX9_form_68 : decode cX9_form 68 = .ok (.getfield 32, 3) := by decide +kernel
theorem dX9_form_71 : decode cX9_form 71 = .ok (.invokevirtual 101, 3) := by decide +kernel
theorem dX9_form_74 : decode cX9_form 74 = .ok (.aload_n 0, 1) := by decide +kernel
theorem dX9_form_75 : decode cX9_form 75 = .ok (.getfield 40, 3) := by decide +kernel
theorem dX9_form_78 : decode cX9_form 78 = .ok (.invokevirtual 104, 3) := by decide +kernel
theorem dX9_form_81 : decode cX9_form 81 = .ok (.aload_n 0, 1) := by decide +kernel
theorem dX9_form_82 : decode cX9_form 82 = .ok (.getfield 56, 3) := by decide +kernel
theorem dX9_form_85 : decode cX9_form 85 = .ok (.invokevirtual 107, 3) := by decide +kernel
theorem dX9_form_88 : decode cX9_form 88 = .ok (.aload_n 0, 1) := by decide +kernel
theorem dX9_form_89 : decode cX9_form 89 = .ok (.getfield 28, 3) := by decide +kernel
theorem dX9_form_92 : decode cX9_form 92 = .ok (.invokevirtual 110, 3) := by decide +kernel
theorem dX9_form_95 : decode cX9_form 95 = .ok (.ireturn, 1) := by decide +kernel
theorem dX9_fault_0 : decode cX9_fault 0 = .ok (.iload_n 1, 1) := by decide +kernel
theorem dX9_fault_1 : decode cX9_fault 1 = .ok (.lookupswitch 43 #[(0, 27), (1, 35)], 27) := by decide +kernel
theorem dX9_fault_28 : decode cX9_fault 28 = .ok (.aload_n 0, 1) := by decide +kernel
theorem dX9_fault_29 : decode cX9_fault 29 = .ok (.getfield 21, 3) := by decide +kernel
theorem dX9_fault_32 : decode cX9_fault 32 = .ok (.invokevirtual 113, 3) := by decide +kernel
theorem dX9_fault_35 : decode cX9_fault 35 = .ok (.ireturn, 1) := by decide +kernel
theorem dX9_fault_36 : decode cX9_fault 36 = .ok (.aload_n 0, 1) := by decide +kernel
theorem dX9_fault_37 : decode cX9_fault 37 = .ok (.getfield 21, 3) := by decide +kernel
theorem dX9_fault_40 : decode cX9_fault 40 = .ok (.invokevirtual 116, 3) := by decide +kernel
theorem dX9_fault_43 : decode cX9_fault 43 = .ok (.ireturn, 1) := by decide +kernel
theorem dX9_fault_44 : decode cX9_fault 44 = .ok (.iconst (-1), 1) := by decide +kernel
theorem dX9_fault_45 : decode cX9_fault 45 = .ok (.ireturn, 1) := by decide +kernel
theorem dX9_solid_0 : decode cX9_solid 0 = .ok (.aload_n 0, 1) := by decide +kernel
theorem dX9_solid_1 : decode cX9_solid 1 = .ok (.getfield 28, 3) := by decide +kernel
theorem dX9_solid_4 : decode cX9_solid 4 = .ok (.iload_n 1, 1) := by decide +kernel
theorem dX9_solid_5 : decode cX9_solid 5 = .ok (.iload_n 2, 1) := by decide +kernel
theorem dX9_solid_6 : decode cX9_solid 6 = .ok (.iload_n 3, 1) := by decide +kernel
theorem dX9_solid_7 : decode cX9_solid 7 = .ok (.iconst 0, 1) := by decide +kernel
theorem dX9_solid_8 : decode cX9_solid 8 = .ok (.invokevirtual 119, 3) := by decide +kernel
theorem dX9_solid_11 : decode cX9_solid 11 = .ok (.ifCond .ne 5, 3) := by decide +kernel
theorem dX9_solid_14 : decode cX9_solid 14 = .ok (.iconst (-1), 1) := by decide +kernel
theorem dX9_solid_15 : decode cX9_solid 15 = .ok (.ireturn, 1) := by decide +kernel
theorem dX9_solid_16 : decode cX9_solid 16 = .ok (.aload_n 0, 1) := by decide +kernel
theorem dX9_solid_17 : decode cX9_solid 17 = .ok (.getfield 28, 3) := by decide +kernel
theorem dX9_solid_20 : decode cX9_solid 20 = .ok (.iload_n 1, 1) := by decide +kernel
theorem dX9_solid_21 : decode cX9_solid 21 = .ok (.iload_n 2, 1) := by decide +kernel
theorem dX9_solid_22 : decode cX9_solid 22 = .ok (.iload_n 3, 1) := by decide +kernel
theorem dX9_solid_23 : decode cX9_solid 23 = .ok (.invokestatic 123, 3) := by decide +kernel
theorem dX9_solid_26 : decode cX9_solid 26 = .ok (.invokevirtual 127, 3) := by decide +kernel
theorem dX9_solid_29 : decode cX9_solid 29 = .ok (.ifCond .eq 7, 3) := by decide +kernel
theorem dX9_solid_32 : decode cX9_solid 32 = .ok (.iconst 1, 1) := by decide +kernel
theorem dX9_solid_33 : decode cX9_solid 33 = .ok (.goto 4, 3) := by decide +kernel
theorem dX9_solid_36 : decode cX9_solid 36 = .ok (.iconst 0, 1) := by decide +kernel
theorem dX9_solid_37 : decode cX9_solid 37 = .ok (.ireturn, 1) := by decide +kernel
theorem dX9_free_0 : decode cX9_free 0 = .ok (.aload_n 0, 1) := by decide +kernel
theorem dX9_free_1 : decode cX9_free 1 = .ok (.getfield 40, 3) := by decide +kernel
theorem dX9_free_4 : decode cX9_free 4 = .ok (.iload_n 1, 1) := by decide +kernel
theorem dX9_free_5 : decode cX9_free 5 = .ok (.iload_n 2, 1) := by decide +kernel
theorem dX9_free_6 : decode cX9_free 6 = .ok (.iload_n 3, 1) := by decide +kernel
theorem dX9_free_7 : decode cX9_free 7 = .ok (.invokevirtual 130, 3) := by decide +kernel
theorem dX9_free_10 : decode cX9_free 10 = .ok (.istore 4, 2) := by decide +kernel
theorem dX9_free_12 : decode cX9_free 12 = .ok (.iload 4, 2) := by decide +kernel
theorem dX9_free_14 : decode cX9_free 14 = .ok (.iconst (-1), 1) := by decide +kernel
theorem dX9_free_15 : decode cX9_free 15 = .ok (.if_icmp .ne 7, 3) := by decide +kernel
theorem dX9_free_18 : decode cX9_free 18 = .ok (.iconst (-1), 1) := by decide +kernel
theorem dX9_free_19 : decode cX9_free 19 = .ok (.goto 12, 3) := by decide +kernel
theorem dX9_free_22 : decode cX9_free 22 = .ok (.aload_n 0, 1) := by decide +kernel
theorem dX9_free_23 : decode cX9_free 23 = .ok (.getfield 40, 3) := by decide +kernel
theorem dX9_free_26 : decode cX9_free 26 = .ok (.iload 4, 2) := by decide +kernel
theorem dX9_free_28 : decode cX9_free 28 = .ok (.invokevirtual 133, 3) := by decide +kernel
theorem dX9_free_31 : decode cX9_free 31 = .ok (.ireturn, 1) := by decide +kernel
theorem dX9_shut_0 : decode cX9_shut 0 = .ok (.aload_n 0, 1) := by decide +kernel
theorem dX9_shut_1 : decode cX9_shut 1 = .ok (.getfield 28, 3) := by decide +kernel
theorem dX9_shut_4 : decode cX9_shut 4 = .ok (.invokevirtual 137, 3) := by decide +kernel
theorem dX9_shut_7 : decode cX9_shut 7 = .ok (.ifCond .eq 13, 3) := by decide +kernel
theorem dX9_shut_10 : decode cX9_shut 10 = .ok (.aload_n 0, 1) := by decide +kernel
theorem dX9_shut_11 : decode cX9_shut 11 = .ok (.getfield 40, 3) := by decide +kernel
theorem dX9_shut_14 : decode cX9_shut 14 = .ok (.invokevirtual 140, 3) := by decide +kernel
theorem dX9_shut_17 : decode cX9_shut 17 = .ok (.goto 4, 3) := by decide +kernel
theorem dX9_shut_20 : decode cX9_shut 20 = .ok (.iconst (-1), 1) := by decide +kernel
theorem dX9_shut_21 : decode cX9_shut 21 = .ok (.ireturn, 1) := by decide +kernel
theorem dX9_draw_0 : decode cX9_draw 0 = .ok (.aload_n 0, 1) := by decide +kernel
theorem dX9_draw_1 : decode cX9_draw 1 = .ok (.getfield 28, 3) := by decide +kernel
theorem dX9_draw_4 : decode cX9_draw 4 = .ok (.invokevirtual 137, 3) := by decide +kernel
theorem dX9_draw_7 : decode cX9_draw 7 = .ok (.ifCond .ne 5, 3) := by decide +kernel
theorem dX9_draw_10 : decode cX9_draw 10 = .ok (.iconst (-1), 1) := by decide +kernel
theorem dX9_draw_11 : decode cX9_draw 11 = .ok (.ireturn, 1) := by decide +kernel
theorem dX9_draw_12 : decode cX9_draw 12 = .ok (.aload_n 0, 1) := by decide +kernel
theorem dX9_draw_13 : decode cX9_draw 13 = .ok (.getfield 56, 3) := by decide +kernel
theorem dX9_draw_16 : decode cX9_draw 16 = .ok (.invokevirtual 143, 3) := by decide +kernel
theorem dX9_draw_19 : decode cX9_draw 19 = .ok (.ifCond .eq 13, 3) := by decide +kernel
theorem dX9_draw_22 : decode cX9_draw 22 = .ok (.aload_n 0, 1) := by decide +kernel
theorem dX9_draw_23 : decode cX9_draw 23 = .ok (.getfield 47, 3) := by decide +kernel
theorem dX9_draw_26 : decode cX9_draw 26 = .ok (.invokevirtual 146, 3) := by decide +kernel
theorem dX9_draw_29 : decode cX9_draw 29 = .ok (.goto 5, 3) := by decide +kernel
theorem dX9_draw_32 : decode cX9_draw 32 = .ok (.bipush (-2), 2) := by decide +kernel
theorem dX9_draw_34 : decode cX9_draw 34 = .ok (.ireturn, 1) := by decide +kernel
theorem dX9_way_0 : decode cX9_way 0 = .ok (.aload_n 0, 1) := by decide +kernel
theorem dX9_way_1 : decode cX9_way 1 = .ok (.getfield 56, 3) := by decide +kernel
theorem dX9_way_4 : decode cX9_way 4 = .ok (.iload_n 1, 1) := by decide +kernel
theorem dX9_way_5 : decode cX9_way 5 = .ok (.invokevirtual 149, 3) := by decide +kernel
theorem dX9_way_8 : decode cX9_way 8 = .ok (.ireturn, 1) := by decide +kernel
theorem dX9_pieceAt_0 : decode cX9_pieceAt 0 = .ok (.aload_n 0, 1) := by decide +kernel
theorem dX9_pieceAt_1 : decode cX9_pieceAt 1 = .ok (.getfield 40, 3) := by decide +kernel
theorem dX9_pieceAt_4 : decode cX9_pieceAt 4 = .ok (.iload_n 1, 1) := by decide +kernel
theorem dX9_pieceAt_5 : decode cX9_pieceAt 5 = .ok (.iload_n 2, 1) := by decide +kernel
theorem dX9_pieceAt_6 : decode cX9_pieceAt 6 = .ok (.iload_n 3, 1) := by decide +kernel
theorem dX9_pieceAt_7 : decode cX9_pieceAt 7 = .ok (.invokevirtual 130, 3) := by decide +kernel
theorem dX9_pieceAt_10 : decode cX9_pieceAt 10 = .ok (.istore 4, 2) := by decide +kernel
theorem dX9_pieceAt_12 : decode cX9_pieceAt 12 = .ok (.iload 4, 2) := by decide +kernel
theorem dX9_pieceAt_14 : decode cX9_pieceAt 14 = .ok (.iconst (-1), 1) := by decide +kernel
theorem dX9_pieceAt_15 : decode cX9_pieceAt 15 = .ok (.if_icmp .ne 7, 3) := by decide +kernel
theorem dX9_pieceAt_18 : decode cX9_pieceAt 18 = .ok (.iconst (-1), 1) := by decide +kernel
theorem dX9_pieceAt_19 : decode cX9_pieceAt 19 = .ok (.goto 12, 3) := by decide +kernel
theorem dX9_pieceAt_22 : decode cX9_pieceAt 22 = .ok (.aload_n 0, 1) := by decide +kernel
theorem dX9_pieceAt_23 : decode cX9_pieceAt 23 = .ok (.getfield 56, 3) := by decide +kernel
theorem dX9_pieceAt_26 : decode cX9_pieceAt 26 = .ok (.iload 4, 2) := by decide +kernel
theorem dX9_pieceAt_28 : decode cX9_pieceAt 28 = .ok (.invokevirtual 152, 3) := by decide +kernel
theorem dX9_pieceAt_31 : decode cX9_pieceAt 31 = .ok (.ireturn, 1) := by decide +kernel
theorem dX9_piece_0 : decode cX9_piece 0 = .ok (.aload_n 0, 1) := by decide +kernel
theorem dX9_piece_1 : decode cX9_piece 1 = .ok (.getfield 47, 3) := by decide +kernel
theorem dX9_piece_4 : decode cX9_piece 4 = .ok (.iload_n 1, 1) := by decide +kernel
theorem dX9_piece_5 : decode cX9_piece 5 = .ok (.iload_n 2, 1) := by decide +kernel
theorem dX9_piece_6 : decode cX9_piece 6 = .ok (.invokevirtual 155, 3) := by decide +kernel
theorem dX9_piece_9 : decode cX9_piece 9 = .ok (.ireturn, 1) := by decide +kernel
theorem dX9_wear_0 : decode cX9_wear 0 = .ok (.aload_n 0, 1) := by decide +kernel
theorem dX9_wear_1 : decode cX9_wear 1 = .ok (.getfield 47, 3) := by decide +kernel
theorem dX9_wear_4 : decode cX9_wear 4 = .ok (.iload_n 1, 1) := by decide +kernel
theorem dX9_wear_5 : decode cX9_wear 5 = .ok (.iload_n 2, 1) := by decide +kernel
theorem dX9_wear_6 : decode cX9_wear 6 = .ok (.invokevirtual 159, 3) := by decide +kernel
theorem dX9_wear_9 : decode cX9_wear 9 = .ok (.ireturn, 1) := by decide +kernel
theorem dX9_pour_0 : decode cX9_pour 0 = .ok (.aload_n 0, 1) := by decide +kernel
theorem dX9_pour_1 : decode cX9_pour 1 = .ok (.getfield 47, 3) := by decide +kernel
theorem dX9_pour_4 : decode cX9_pour 4 = .ok (.iload_n 1, 1) := by decide +kernel
theorem dX9_pour_5 : decode cX9_pour 5 = .ok (.invokevirtual 163, 3) := by decide +kernel
theorem dX9_pour_8 : decode cX9_pour 8 = .ok (.ifCond .eq 14, 3) := by decide +kernel
theorem dX9_pour_11 : decode cX9_pour 11 = .ok (.aload_n 0, 1) := by decide +kernel
theorem dX9_pour_12 : decode cX9_pour 12 = .ok (.getfield 47, 3) := by decide +kernel
theorem dX9_pour_15 : decode cX9_pour 15 = .ok (.iload_n 1, 1) := by decide +kernel
theorem dX9_pour_16 : decode cX9_pour 16 = .ok (.invokevirtual 166, 3) := by decide +kernel
theorem dX9_pour_19 : decode cX9_pour 19 = .ok (.goto 4, 3) := by decide +kernel
theorem dX9_pour_22 : decode cX9_pour 22 = .ok (.iconst (-1), 1) := by decide +kernel
theorem dX9_pour_23 : decode cX9_pour 23 = .ok (.ireturn, 1) := by decide +kernel
theorem dX9_mend_0 : decode cX9_mend 0 = .ok (.aload_n 0, 1) := by decide +kernel
theorem dX9_mend_1 : decode cX9_mend 1 = .ok (.getfield 47, 3) := by decide +kernel
theorem dX9_mend_4 : decode cX9_mend 4 = .ok (.iload_n 1, 1) := by decide +kernel
theorem dX9_mend_5 : decode cX9_mend 5 = .ok (.invokevirtual 169, 3) := by decide +kernel
theorem dX9_mend_8 : decode cX9_mend 8 = .ok (.ifCond .eq 14, 3) := by decide +kernel
theorem dX9_mend_11 : decode cX9_mend 11 = .ok (.aload_n 0, 1) := by decide +kernel
theorem dX9_mend_12 : decode cX9_mend 12 = .ok (.getfield 47, 3) := by decide +kernel
theorem dX9_mend_15 : decode cX9_mend 15 = .ok (.iload_n 1, 1) := by decide +kernel
theorem dX9_mend_16 : decode cX9_mend 16 = .ok (.invokevirtual 172, 3) := by decide +kernel
theorem dX9_mend_19 : decode cX9_mend 19 = .ok (.goto 4, 3) := by decide +kernel
theorem dX9_mend_22 : decode cX9_mend 22 = .ok (.iconst (-1), 1) := by decide +kernel
theorem dX9_mend_23 : decode cX9_mend 23 = .ok (.ireturn, 1) := by decide +kernel
theorem dX9_run_0 : decode cX9_run 0 = .ok (.aload_n 0, 1) := by decide +kernel
theorem dX9_run_1 : decode cX9_run 1 = .ok (.getfield 47, 3) := by decide +kernel
theorem dX9_run_4 : decode cX9_run 4 = .ok (.iload_n 1, 1) := by decide +kernel
theorem dX9_run_5 : decode cX9_run 5 = .ok (.invokevirtual 163, 3) := by decide +kernel
theorem dX9_run_8 : decode cX9_run 8 = .ok (.ifCond .eq 14, 3) := by decide +kernel
theorem dX9_run_11 : decode cX9_run 11 = .ok (.aload_n 0, 1) := by decide +kernel
theorem dX9_run_12 : decode cX9_run 12 = .ok (.getfield 47, 3) := by decide +kernel
theorem dX9_run_15 : decode cX9_run 15 = .ok (.iload_n 1, 1) := by decide +kernel
theorem dX9_run_16 : decode cX9_run 16 = .ok (.invokevirtual 175, 3) := by decide +kernel
theorem dX9_run_19 : decode cX9_run 19 = .ok (.goto 4, 3) := by decide +kernel
theorem dX9_run_22 : decode cX9_run 22 = .ok (.iconst (-1), 1) := by decide +kernel
theorem dX9_run_23 : decode cX9_run 23 = .ok (.ireturn, 1) := by decide +kernel
theorem dX9_dry_0 : decode cX9_dry 0 = .ok (.aload_n 0, 1) := by decide +kernel
theorem dX9_dry_1 : decode cX9_dry 1 = .ok (.getfield 63, 3) := by decide +kernel
theorem dX9_dry_4 : decode cX9_dry 4 = .ok (.iload_n 1, 1) := by decide +kernel
theorem dX9_dry_5 : decode cX9_dry 5 = .ok (.invokevirtual 178, 3) := by decide +kernel
theorem dX9_dry_8 : decode cX9_dry 8 = .ok (.ireturn, 1) := by decide +kernel
theorem dX9_order_0 : decode cX9_order 0 = .ok (.aload_n 0, 1) := by decide +kernel
theorem dX9_order_1 : decode cX9_order 1 = .ok (.getfield 63, 3) := by decide +kernel
theorem dX9_order_4 : decode cX9_order 4 = .ok (.iload_n 1, 1) := by decide +kernel
theorem dX9_order_5 : decode cX9_order 5 = .ok (.iload_n 2, 1) := by decide +kernel
theorem dX9_order_6 : decode cX9_order 6 = .ok (.iload_n 3, 1) := by decide +kernel
theorem dX9_order_7 : decode cX9_order 7 = .ok (.invokevirtual 181, 3) := by decide +kernel
theorem dX9_order_10 : decode cX9_order 10 = .ok (.ireturn, 1) := by decide +kernel
theorem dX9_cancel_0 : decode cX9_cancel 0 = .ok (.aload_n 0, 1) := by decide +kernel
theorem dX9_cancel_1 : decode cX9_cancel 1 = .ok (.getfield 63, 3) := by decide +kernel
theorem dX9_cancel_4 : decode cX9_cancel 4 = .ok (.iload_n 1, 1) := by decide +kernel
theorem dX9_cancel_5 : decode cX9_cancel 5 = .ok (.invokevirtual 184, 3) := by decide +kernel
theorem dX9_cancel_8 : decode cX9_cancel 8 = .ok (.ireturn, 1) := by decide +kernel
theorem dX9_row_0 : decode cX9_row 0 = .ok (.aload_n 0, 1) := by decide +kernel
theorem dX9_row_1 : decode cX9_row 1 = .ok (.getfield 63, 3) := by decide +kernel
theorem dX9_row_4 : decode cX9_row 4 = .ok (.invokevirtual 187, 3) := by decide +kernel
theorem dX9_row_7 : decode cX9_row 7 = .ok (.ireturn, 1) := by decide +kernel
theorem dX9_next_0 : decode cX9_next 0 = .ok (.aload_n 0, 1) := by decide +kernel
theorem dX9_next_1 : decode cX9_next 1 = .ok (.getfield 63, 3) := by decide +kernel
theorem dX9_next_4 : decode cX9_next 4 = .ok (.iload_n 1, 1) := by decide +kernel
theorem dX9_next_5 : decode cX9_next 5 = .ok (.invokevirtual 190, 3) := by decide +kernel
theorem dX9_next_8 : decode cX9_next 8 = .ok (.ireturn, 1) := by decide +kernel
theorem dX9_late_0 : decode cX9_late 0 = .ok (.aload_n 0, 1) := by decide +kernel
theorem dX9_late_1 : decode cX9_late 1 = .ok (.getfield 63, 3) := by decide +kernel
theorem dX9_late_4 : decode cX9_late 4 = .ok (.iload_n 1, 1) := by decide +kernel
theorem dX9_late_5 : decode cX9_late 5 = .ok (.invokevirtual 193, 3) := by decide +kernel
theorem dX9_late_8 : decode cX9_late 8 = .ok (.ireturn, 1) := by decide +kernel
theorem dX9_cast_0 : decode cX9_cast 0 = .ok (.aload_n 0, 1) := by decide +kernel
theorem dX9_cast_1 : decode cX9_cast 1 = .ok (.getfield 70, 3) := by decide +kernel
theorem dX9_cast_4 : decode cX9_cast 4 = .ok (.iload_n 1, 1) := by decide +kernel
theorem dX9_cast_5 : decode cX9_cast 5 = .ok (.iload_n 2, 1) := by decide +kernel
theorem dX9_cast_6 : decode cX9_cast 6 = .ok (.iload_n 3, 1) := by decide +kernel
theorem dX9_cast_7 : decode cX9_cast 7 = .ok (.invokevirtual 196, 3) := by decide +kernel
theorem dX9_cast_10 : decode cX9_cast 10 = .ok (.ireturn, 1) := by decide +kernel
theorem dX9_copies_0 : decode cX9_copies 0 = .ok (.aload_n 0, 1) := by decide +kernel
theorem dX9_copies_1 : decode cX9_copies 1 = .ok (.getfield 70, 3) := by decide +kernel
theorem dX9_copies_4 : decode cX9_copies 4 = .ok (.iload_n 1, 1) := by decide +kernel
theorem dX9_copies_5 : decode cX9_copies 5 = .ok (.iload_n 2, 1) := by decide +kernel
theorem dX9_copies_6 : decode cX9_copies 6 = .ok (.iload_n 3, 1) := by decide +kernel
theorem dX9_copies_7 : decode cX9_copies 7 = .ok (.invokevirtual 200, 3) := by decide +kernel
theorem dX9_copies_10 : decode cX9_copies 10 = .ok (.ireturn, 1) := by decide +kernel
theorem dX9_mother_0 : decode cX9_mother 0 = .ok (.aload_n 0, 1) := by decide +kernel
theorem dX9_mother_1 : decode cX9_mother 1 = .ok (.getfield 70, 3) := by decide +kernel
theorem dX9_mother_4 : decode cX9_mother 4 = .ok (.iload_n 1, 1) := by decide +kernel
theorem dX9_mother_5 : decode cX9_mother 5 = .ok (.invokevirtual 203, 3) := by decide +kernel
theorem dX9_mother_8 : decode cX9_mother 8 = .ok (.ifCond .ne 5, 3) := by decide +kernel
theorem dX9_mother_11 : decode cX9_mother 11 = .ok (.iconst (-1), 1) := by decide +kernel
theorem dX9_mother_12 : decode cX9_mother 12 = .ok (.ireturn, 1) := by decide +kernel
theorem dX9_mother_13 : decode cX9_mother 13 = .ok (.aload_n 0, 1) := by decide +kernel
theorem dX9_mother_14 : decode cX9_mother 14 = .ok (.getfield 70, 3) := by decide +kernel
theorem dX9_mother_17 : decode cX9_mother 17 = .ok (.iload_n 1, 1) := by decide +kernel
theorem dX9_mother_18 : decode cX9_mother 18 = .ok (.invokevirtual 204, 3) := by decide +kernel
theorem dX9_mother_21 : decode cX9_mother 21 = .ok (.istore_n 2, 1) := by decide +kernel
theorem dX9_mother_22 : decode cX9_mother 22 = .ok (.iload_n 2, 1) := by decide +kernel
theorem dX9_mother_23 : decode cX9_mother 23 = .ok (.iconst (-1), 1) := by decide +kernel
theorem dX9_mother_24 : decode cX9_mother 24 = .ok (.if_icmp .ne 8, 3) := by decide +kernel
theorem dX9_mother_27 : decode cX9_mother 27 = .ok (.bipush (-2), 2) := by decide +kernel
theorem dX9_mother_29 : decode cX9_mother 29 = .ok (.goto 4, 3) := by decide +kernel
theorem dX9_mother_32 : decode cX9_mother 32 = .ok (.iload_n 2, 1) := by decide +kernel
theorem dX9_mother_33 : decode cX9_mother 33 = .ok (.ireturn, 1) := by decide +kernel
theorem dX9_steps_0 : decode cX9_steps 0 = .ok (.aload_n 0, 1) := by decide +kernel
theorem dX9_steps_1 : decode cX9_steps 1 = .ok (.getfield 70, 3) := by decide +kernel
theorem dX9_steps_4 : decode cX9_steps 4 = .ok (.iload_n 1, 1) := by decide +kernel
theorem dX9_steps_5 : decode cX9_steps 5 = .ok (.invokevirtual 203, 3) := by decide +kernel
theorem dX9_steps_8 : decode cX9_steps 8 = .ok (.ifCond .eq 14, 3) := by decide +kernel
theorem dX9_steps_11 : decode cX9_steps 11 = .ok (.aload_n 0, 1) := by decide +kernel
theorem dX9_steps_12 : decode cX9_steps 12 = .ok (.getfield 70, 3) := by decide +kernel
theorem dX9_steps_15 : decode cX9_steps 15 = .ok (.iload_n 1, 1) := by decide +kernel
theorem dX9_steps_16 : decode cX9_steps 16 = .ok (.invokevirtual 207, 3) := by decide +kernel
theorem dX9_steps_19 : decode cX9_steps 19 = .ok (.goto 4, 3) := by decide +kernel
theorem dX9_steps_22 : decode cX9_steps 22 = .ok (.iconst (-1), 1) := by decide +kernel
theorem dX9_steps_23 : decode cX9_steps 23 = .ok (.ireturn, 1) := by decide +kernel
theorem dX9_told_0 : decode cX9_told 0 = .ok (.iload_n 1, 1) := by decide +kernel
theorem dX9_told_1 : decode cX9_told 1 = .ok (.lookupswitch 43 #[(0, 27), (1, 35)], 27) := by decide +kernel
theorem dX9_told_28 : decode cX9_told 28 = .ok (.aload_n 0, 1) := by decide +kernel
theorem dX9_told_29 : decode cX9_told 29 = .ok (.getfield 70, 3) := by decide +kernel
theorem dX9_told_32 : decode cX9_told 32 = .ok (.invokevirtual 210, 3) := by decide +kernel
theorem dX9_told_35 : decode cX9_told 35 = .ok (.ireturn, 1) := by decide +kernel
theorem dX9_told_36 : decode cX9_told 36 = .ok (.aload_n 0, 1) := by decide +kernel
theorem dX9_told_37 : decode cX9_told 37 = .ok (.getfield 70, 3) := by decide +kernel
theorem dX9_told_40 : decode cX9_told 40 = .ok (.invokevirtual 213, 3) := by decide +kernel
theorem dX9_told_43 : decode cX9_told 43 = .ok (.ireturn, 1) := by decide +kernel
theorem dX9_told_44 : decode cX9_told 44 = .ok (.iconst (-1), 1) := by decide +kernel
theorem dX9_told_45 : decode cX9_told 45 = .ok (.ireturn, 1) := by decide +kernel
theorem dJ6_bitCount_0f7a4_0 : decode cJ6_bitCount_0f7a4 0 = .ok (.iload_n 0, 1) := by decide +kernel
theorem dJ6_bitCount_0f7a4_1 : decode cJ6_bitCount_0f7a4 1 = .ok (.iload_n 0, 1) := by decide +kernel
theorem dJ6_bitCount_0f7a4_2 : decode cJ6_bitCount_0f7a4 2 = .ok (.iconst 1, 1) := by decide +kernel
theorem dJ6_bitCount_0f7a4_3 : decode cJ6_bitCount_0f7a4 3 = .ok (.iushr, 1) := by decide +kernel
theorem dJ6_bitCount_0f7a4_4 : decode cJ6_bitCount_0f7a4 4 = .ok (.ldc_w 265, 3) := by decide +kernel
theorem dJ6_bitCount_0f7a4_7 : decode cJ6_bitCount_0f7a4 7 = .ok (.iand, 1) := by decide +kernel
theorem dJ6_bitCount_0f7a4_8 : decode cJ6_bitCount_0f7a4 8 = .ok (.isub, 1) := by decide +kernel
theorem dJ6_bitCount_0f7a4_9 : decode cJ6_bitCount_0f7a4 9 = .ok (.istore_n 0, 1) := by decide +kernel
theorem dJ6_bitCount_0f7a4_10 : decode cJ6_bitCount_0f7a4 10 = .ok (.iload_n 0, 1) := by decide +kernel
theorem dJ6_bitCount_0f7a4_11 : decode cJ6_bitCount_0f7a4 11 = .ok (.ldc_w 266, 3) := by decide +kernel
theorem dJ6_bitCount_0f7a4_14 : decode cJ6_bitCount_0f7a4 14 = .ok (.iand, 1) := by decide +kernel
theorem dJ6_bitCount_0f7a4_15 : decode cJ6_bitCount_0f7a4 15 = .ok (.iload_n 0, 1) := by decide +kernel
theorem dJ6_bitCount_0f7a4_16 : decode cJ6_bitCount_0f7a4 16 = .ok (.iconst 2, 1) := by decide +kernel
theorem dJ6_bitCount_0f7a4_17 : decode cJ6_bitCount_0f7a4 17 = .ok (.iushr, 1) := by decide +kernel
theorem dJ6_bitCount_0f7a4_18 : decode cJ6_bitCount_0f7a4 18 = .ok (.ldc_w 266, 3) := by decide +kernel
theorem dJ6_bitCount_0f7a4_21 : decode cJ6_bitCount_0f7a4 21 = .ok (.iand, 1) := by decide +kernel
theorem dJ6_bitCount_0f7a4_22 : decode cJ6_bitCount_0f7a4 22 = .ok (.iadd, 1) := by decide +kernel
theorem dJ6_bitCount_0f7a4_23 : decode cJ6_bitCount_0f7a4 23 = .ok (.istore_n 0, 1) := by decide +kernel
theorem dJ6_bitCount_0f7a4_24 : decode cJ6_bitCount_0f7a4 24 = .ok (.iload_n 0, 1) := by decide +kernel
theorem dJ6_bitCount_0f7a4_25 : decode cJ6_bitCount_0f7a4 25 = .ok (.iload_n 0, 1) := by decide +kernel
theorem dJ6_bitCount_0f7a4_26 : decode cJ6_bitCount_0f7a4 26 = .ok (.iconst 4, 1) := by decide +kernel
theorem dJ6_bitCount_0f7a4_27 : decode cJ6_bitCount_0f7a4 27 = .ok (.iushr, 1) := by decide +kernel
theorem dJ6_bitCount_0f7a4_28 : decode cJ6_bitCount_0f7a4 28 = .ok (.iadd, 1) := by decide +kernel
theorem dJ6_bitCount_0f7a4_29 : decode cJ6_bitCount_0f7a4 29 = .ok (.ldc_w 267, 3) := by decide +kernel
theorem dJ6_bitCount_0f7a4_32 : decode cJ6_bitCount_0f7a4 32 = .ok (.iand, 1) := by decide +kernel
theorem dJ6_bitCount_0f7a4_33 : decode cJ6_bitCount_0f7a4 33 = .ok (.istore_n 0, 1) := by decide +kernel
theorem dJ6_bitCount_0f7a4_34 : decode cJ6_bitCount_0f7a4 34 = .ok (.iload_n 0, 1) := by decide +kernel
theorem dJ6_bitCount_0f7a4_35 : decode cJ6_bitCount_0f7a4 35 = .ok (.iload_n 0, 1) := by decide +kernel
theorem dJ6_bitCount_0f7a4_36 : decode cJ6_bitCount_0f7a4 36 = .ok (.bipush 8, 2) := by decide +kernel
theorem dJ6_bitCount_0f7a4_38 : decode cJ6_bitCount_0f7a4 38 = .ok (.iushr, 1) := by decide +kernel
theorem dJ6_bitCount_0f7a4_39 : decode cJ6_bitCount_0f7a4 39 = .ok (.iadd, 1) := by decide +kernel
theorem dJ6_bitCount_0f7a4_40 : decode cJ6_bitCount_0f7a4 40 = .ok (.istore_n 0, 1) := by decide +kernel
theorem dJ6_bitCount_0f7a4_41 : decode cJ6_bitCount_0f7a4 41 = .ok (.iload_n 0, 1) := by decide +kernel
theorem dJ6_bitCount_0f7a4_42 : decode cJ6_bitCount_0f7a4 42 = .ok (.iload_n 0, 1) := by decide +kernel
theorem dJ6_bitCount_0f7a4_43 : decode cJ6_bitCount_0f7a4 43 = .ok (.bipush 16, 2) := by decide +kernel
theorem dJ6_bitCount_0f7a4_45 : decode cJ6_bitCount_0f7a4 45 = .ok (.iushr, 1) := by decide +kernel
theorem dJ6_bitCount_0f7a4_46 : decode cJ6_bitCount_0f7a4 46 = .ok (.iadd, 1) := by decide +kernel
theorem dJ6_bitCount_0f7a4_47 : decode cJ6_bitCount_0f7a4 47 = .ok (.istore_n 0, 1) := by decide +kernel
theorem dJ6_bitCount_0f7a4_48 : decode cJ6_bitCount_0f7a4 48 = .ok (.iload_n 0, 1) := by decide +kernel
theorem dJ6_bitCount_0f7a4_49 : decode cJ6_bitCount_0f7a4 49 = .ok (.bipush 63, 2) := by decide +kernel
theorem dJ6_bitCount_0f7a4_51 : decode cJ6_bitCount_0f7a4 51 = .ok (.iand, 1) := by decide +kernel
theorem dJ6_bitCount_0f7a4_52 : decode cJ6_bitCount_0f7a4 52 = .ok (.ireturn, 1) := by decide +kernel
theorem dJ9_abs_0f7a4_0 : decode cJ9_abs_0f7a4 0 = .ok (.iload_n 0, 1) := by decide +kernel
theorem dJ9_abs_0f7a4_1 : decode cJ9_abs_0f7a4 1 = .ok (.ifCond .ge 8, 3) := by decide +kernel
theorem dJ9_abs_0f7a4_4 : decode cJ9_abs_0f7a4 4 = .ok (.iload_n 0, 1) := by decide +kernel
theorem dJ9_abs_0f7a4_5 : decode cJ9_abs_0f7a4 5 = .ok (.ineg, 1) := by decide +kernel
theorem dJ9_abs_0f7a4_6 : decode cJ9_abs_0f7a4 6 = .ok (.goto 4, 3) := by decide +kernel
theorem dJ9_abs_0f7a4_9 : decode cJ9_abs_0f7a4 9 = .ok (.iload_n 0, 1) := by decide +kernel
theorem dJ9_abs_0f7a4_10 : decode cJ9_abs_0f7a4 10 = .ok (.ireturn, 1) := by decide +kernel
theorem dJ9_max_7cf53_0 : decode cJ9_max_7cf53 0 = .ok (.iload_n 0, 1) := by decide +kernel
theorem dJ9_max_7cf53_1 : decode cJ9_max_7cf53 1 = .ok (.iload_n 1, 1) := by decide +kernel
theorem dJ9_max_7cf53_2 : decode cJ9_max_7cf53 2 = .ok (.if_icmp .lt 7, 3) := by decide +kernel
theorem dJ9_max_7cf53_5 : decode cJ9_max_7cf53 5 = .ok (.iload_n 0, 1) := by decide +kernel
theorem dJ9_max_7cf53_6 : decode cJ9_max_7cf53 6 = .ok (.goto 4, 3) := by decide +kernel
theorem dJ9_max_7cf53_9 : decode cJ9_max_7cf53 9 = .ok (.iload_n 1, 1) := by decide +kernel
theorem dJ9_max_7cf53_10 : decode cJ9_max_7cf53 10 = .ok (.ireturn, 1) := by decide +kernel
theorem dJ9_min_7cf53_0 : decode cJ9_min_7cf53 0 = .ok (.iload_n 0, 1) := by decide +kernel
theorem dJ9_min_7cf53_1 : decode cJ9_min_7cf53 1 = .ok (.iload_n 1, 1) := by decide +kernel
theorem dJ9_min_7cf53_2 : decode cJ9_min_7cf53 2 = .ok (.if_icmp .gt 7, 3) := by decide +kernel
theorem dJ9_min_7cf53_5 : decode cJ9_min_7cf53 5 = .ok (.iload_n 0, 1) := by decide +kernel
theorem dJ9_min_7cf53_6 : decode cJ9_min_7cf53 6 = .ok (.goto 4, 3) := by decide +kernel
theorem dJ9_min_7cf53_9 : decode cJ9_min_7cf53 9 = .ok (.iload_n 1, 1) := by decide +kernel
theorem dJ9_min_7cf53_10 : decode cJ9_min_7cf53 10 = .ok (.ireturn, 1) := by decide +kernel
theorem dJ0_length_8abf5_0 : decode cJ0_length_8abf5 0 = .ok (.aload_n 0, 1) := by decide +kernel
theorem dJ0_length_8abf5_1 : decode cJ0_length_8abf5 1 = .ok (.getfield 9, 3) := by decide +kernel
theorem dJ0_length_8abf5_4 : decode cJ0_length_8abf5 4 = .ok (.arraylength, 1) := by decide +kernel
theorem dJ0_length_8abf5_5 : decode cJ0_length_8abf5 5 = .ok (.aload_n 0, 1) := by decide +kernel
theorem dJ0_length_8abf5_6 : decode cJ0_length_8abf5 6 = .ok (.invokevirtual 335, 3) := by decide +kernel
theorem dJ0_length_8abf5_9 : decode cJ0_length_8abf5 9 = .ok (.ishr, 1) := by decide +kernel
theorem dJ0_length_8abf5_10 : decode cJ0_length_8abf5 10 = .ok (.ireturn, 1) := by decide +kernel
theorem dJ0_charAt_5068e_0 : decode cJ0_charAt_5068e 0 = .ok (.aload_n 0, 1) := by decide +kernel
theorem dJ0_charAt_5068e_1 : decode cJ0_charAt_5068e 1 = .ok (.invokevirtual 492, 3) := by decide +kernel
theorem dJ0_charAt_5068e_4 : decode cJ0_charAt_5068e 4 = .ok (.ifCond .eq 12, 3) := by decide +kernel
theorem dJ0_charAt_5068e_7 : decode cJ0_charAt_5068e 7 = .ok (.aload_n 0, 1) := by decide +kernel
theorem dJ0_charAt_5068e_8 : decode cJ0_charAt_5068e 8 = .ok (.getfield 9, 3) := by decide +kernel
theorem dJ0_charAt_5068e_11 : decode cJ0_charAt_5068e 11 = .ok (.iload_n 1, 1) := by decide +kernel
theorem dJ0_charAt_5068e_12 : decode cJ0_charAt_5068e 12 = .ok (.invokestatic 495, 3) := by decide +kernel
theorem dJ0_charAt_5068e_15 : decode cJ0_charAt_5068e 15 = .ok (.ireturn, 1) := by decide +kernel
theorem dJ0_charAt_5068e_16 : decode cJ0_charAt_5068e 16 = .ok (.aload_n 0, 1) := by decide +kernel
theorem dJ0_charAt_5068e_17 : decode cJ0_charAt_5068e 17 = .ok (.getfield 9, 3) := by decide +kernel
theorem dJ0_charAt_5068e_20 : decode cJ0_charAt_5068e 20 = .ok (.iload_n 1, 1) := by decide +kernel
theorem dJ0_charAt_5068e_21 : decode cJ0_charAt_5068e 21 = .ok (.invokestatic 498, 3) := by decide +kernel
theorem dJ0_charAt_5068e_24 : decode cJ0_charAt_5068e 24 = .ok (.ireturn, 1) := by decide +kernel
theorem dJ0_coder_7d493_0 : decode cJ0_coder_7d493 0 = .ok (.getstatic 38, 3) := by decide +kernel
theorem dJ0_coder_7d493_3 : decode cJ0_coder_7d493 3 = .ok (.ifCond .eq 10, 3) := by decide +kernel
theorem dJ0_coder_7d493_6 : decode cJ0_coder_7d493 6 = .ok (.aload_n 0, 1) := by decide +kernel
theorem dJ0_coder_7d493_7 : decode cJ0_coder_7d493 7 = .ok (.getfield 15, 3) := by decide +kernel
theorem dJ0_coder_7d493_10 : decode cJ0_coder_7d493 10 = .ok (.goto 4, 3) := by decide +kernel
theorem dJ0_coder_7d493_13 : decode cJ0_coder_7d493 13 = .ok (.iconst 1, 1) := by decide +kernel
theorem dJ0_coder_7d493_14 : decode cJ0_coder_7d493 14 = .ok (.ireturn, 1) := by decide +kernel
theorem dJ0_isLatin1_aae02_0 : decode cJ0_isLatin1_aae02 0 = .ok (.getstatic 38, 3) := by decide +kernel
theorem dJ0_isLatin1_aae02_3 : decode cJ0_isLatin1_aae02 3 = .ok (.ifCond .eq 14, 3) := by decide +kernel
theorem dJ0_isLatin1_aae02_6 : decode cJ0_isLatin1_aae02 6 = .ok (.aload_n 0, 1) := by decide +kernel
theorem dJ0_isLatin1_aae02_7 : decode cJ0_isLatin1_aae02 7 = .ok (.getfield 15, 3) := by decide +kernel
theorem dJ0_isLatin1_aae02_10 : decode cJ0_isLatin1_aae02 10 = .ok (.ifCond .ne 7, 3) := by decide +kernel
theorem dJ0_isLatin1_aae02_13 : decode cJ0_isLatin1_aae02 13 = .ok (.iconst 1, 1) := by decide +kernel
theorem dJ0_isLatin1_aae02_14 : decode cJ0_isLatin1_aae02 14 = .ok (.goto 4, 3) := by decide +kernel
theorem dJ0_isLatin1_aae02_17 : decode cJ0_isLatin1_aae02 17 = .ok (.iconst 0, 1) := by decide +kernel
theorem dJ0_isLatin1_aae02_18 : decode cJ0_isLatin1_aae02 18 = .ok (.ireturn, 1) := by decide +kernel
theorem dJ0_checkIndex_df160_0 : decode cJ0_checkIndex_df160 0 = .ok (.iload_n 0, 1) := by decide +kernel
theorem dJ0_checkIndex_df160_1 : decode cJ0_checkIndex_df160 1 = .ok (.iload_n 1, 1) := by decide +kernel
theorem dJ0_checkIndex_df160_2 : decode cJ0_checkIndex_df160 2 = .ok (.getstatic 1053, 3) := by decide +kernel
theorem dJ0_checkIndex_df160_5 : decode cJ0_checkIndex_df160 5 = .ok (.invokestatic 1059, 3) := by decide +kernel
theorem dJ0_checkIndex_df160_8 : decode cJ0_checkIndex_df160 8 = .ok (.pop, 1) := by decide +kernel
theorem dJ0_checkIndex_df160_9 : decode cJ0_checkIndex_df160 9 = .ok (.return_, 1) := by decide +kernel
theorem dJ1_charAt_3b067_0 : decode cJ1_charAt_3b067 0 = .ok (.iload_n 1, 1) := by decide +kernel
theorem dJ1_charAt_3b067_1 : decode cJ1_charAt_3b067 1 = .ok (.aload_n 0, 1) := by decide +kernel
theorem dJ1_charAt_3b067_2 : decode cJ1_charAt_3b067 2 = .ok (.arraylength, 1) := by decide +kernel
theorem dJ1_charAt_3b067_3 : decode cJ1_charAt_3b067 3 = .ok (.invokestatic 9, 3) := by decide +kernel
theorem dJ1_charAt_3b067_6 : decode cJ1_charAt_3b067 6 = .ok (.aload_n 0, 1) := by decide +kernel
theorem dJ1_charAt_3b067_7 : decode cJ1_charAt_3b067 7 = .ok (.iload_n 1, 1) := by decide +kernel
theorem dJ1_charAt_3b067_8 : decode cJ1_charAt_3b067 8 = .ok (.baload, 1) := by decide +kernel
theorem dJ1_charAt_3b067_9 : decode cJ1_charAt_3b067 9 = .ok (.sipush 255, 3) := by decide +kernel
theorem dJ1_charAt_3b067_12 : decode cJ1_charAt_3b067 12 = .ok (.iand, 1) := by decide +kernel
theorem dJ1_charAt_3b067_13 : decode cJ1_charAt_3b067 13 = .ok (.i2c, 1) := by decide +kernel
theorem dJ1_charAt_3b067_14 : decode cJ1_charAt_3b067 14 = .ok (.ireturn, 1) := by decide +kernel
theorem dJ2_getChar_3b067_0 : decode cJ2_getChar_3b067 0 = .ok (.getstatic 44, 3) := by decide +kernel
theorem dJ2_getChar_3b067_3 : decode cJ2_getChar_3b067 3 = .ok (.ifCond .ne 25, 3) := by decide +kernel
theorem dJ2_getChar_3b067_6 : decode cJ2_getChar_3b067 6 = .ok (.iload_n 1, 1) := by decide +kernel
theorem dJ2_getChar_3b067_7 : decode cJ2_getChar_3b067 7 = .ok (.ifCond .lt 11, 3) := by decide +kernel
theorem dJ2_getChar_3b067_10 : decode cJ2_getChar_3b067 10 = .ok (.iload_n 1, 1) := by decide +kernel
theorem dJ2_getChar_3b067_11 : decode cJ2_getChar_3b067 11 = .ok (.aload_n 0, 1) := by decide +kernel
theorem dJ2_getChar_3b067_12 : decode cJ2_getChar_3b067 12 = .ok (.invokestatic 48, 3) := by decide +kernel
theorem dJ2_getChar_3b067_15 : decode cJ2_getChar_3b067 15 = .ok (.if_icmp .lt 13, 3) := by decide +kernel
theorem dJ2_getChar_3b067_18 : decode cJ2_getChar_3b067 18 = .ok (.new 52, 3) := by decide +kernel
theorem dJ2_getChar_3b067_21 : decode cJ2_getChar_3b067 21 = .ok (.dup, 1) := by decide +kernel
theorem dJ2_getChar_3b067_22 : decode cJ2_getChar_3b067 22 = .ok (.ldc 54, 2) := by decide +kernel
theorem dJ2_getChar_3b067_24 : decode cJ2_getChar_3b067 24 = .ok (.invokespecial 56, 3) := by decide +kernel
theorem dJ2_getChar_3b067_27 : decode cJ2_getChar_3b067 27 = .ok (.athrow, 1) := by decide +kernel
theorem dJ2_getChar_3b067_28 : decode cJ2_getChar_3b067 28 = .ok (.iload_n 1, 1) := by decide +kernel
theorem dJ2_getChar_3b067_29 : decode cJ2_getChar_3b067 29 = .ok (.iconst 1, 1) := by decide +kernel
theorem dJ2_getChar_3b067_30 : decode cJ2_getChar_3b067 30 = .ok (.ishl, 1) := by decide +kernel
theorem dJ2_getChar_3b067_31 : decode cJ2_getChar_3b067 31 = .ok (.istore_n 1, 1) := by decide +kernel
theorem dJ2_getChar_3b067_32 : decode cJ2_getChar_3b067 32 = .ok (.aload_n 0, 1) := by decide +kernel
theorem dJ2_getChar_3b067_33 : decode cJ2_getChar_3b067 33 = .ok (.iload_n 1, 1) := by decide +kernel
theorem dJ2_getChar_3b067_34 : decode cJ2_getChar_3b067 34 = .ok (.iinc 1 1, 3) := by decide +kernel
theorem dJ2_getChar_3b067_37 : decode cJ2_getChar_3b067 37 = .ok (.baload, 1) := by decide +kernel
theorem dJ2_getChar_3b067_38 : decode cJ2_getChar_3b067 38 = .ok (.sipush 255, 3) := by decide +kernel
theorem dJ2_getChar_3b067_41 : decode cJ2_getChar_3b067 41 = .ok (.iand, 1) := by decide +kernel
theorem dJ2_getChar_3b067_42 : decode cJ2_getChar_3b067 42 = .ok (.getstatic 59, 3) := by decide +kernel
theorem dJ2_getChar_3b067_45 : decode cJ2_getChar_3b067 45 = .ok (.ishl, 1) := by decide +kernel
theorem dJ2_getChar_3b067_46 : decode cJ2_getChar_3b067 46 = .ok (.aload_n 0, 1) := by decide +kernel
theorem dJ2_getChar_3b067_47 : decode cJ2_getChar_3b067 47 = .ok (.iload_n 1, 1) := by decide +kernel
theorem dJ2_getChar_3b067_48 : decode cJ2_getChar_3b067 48 = .ok (.baload, 1) := by decide +kernel
theorem dJ2_getChar_3b067_49 : decode cJ2_getChar_3b067 49 = .ok (.sipush 255, 3) := by decide +kernel
theorem dJ2_getChar_3b067_52 : decode cJ2_getChar_3b067 52 = .ok (.iand, 1) := by decide +kernel
theorem dJ2_getChar_3b067_53 : decode cJ2_getChar_3b067 53 = .ok (.getstatic 63, 3) := by decide +kernel
theorem dJ2_getChar_3b067_56 : decode cJ2_getChar_3b067 56 = .ok (.ishl, 1) := by decide +kernel
theorem dJ2_getChar_3b067_57 : decode cJ2_getChar_3b067 57 = .ok (.ior, 1) := by decide +kernel
theorem dJ2_getChar_3b067_58 : decode cJ2_getChar_3b067 58 = .ok (.i2c, 1) := by decide +kernel
theorem dJ2_getChar_3b067_59 : decode cJ2_getChar_3b067 59 = .ok (.ireturn, 1) := by decide +kernel
theorem dJ2_length_9d52b_0 : decode cJ2_length_9d52b 0 = .ok (.aload_n 0, 1) := by decide +kernel
theorem dJ2_length_9d52b_1 : decode cJ2_length_9d52b 1 = .ok (.arraylength, 1) := by decide +kernel
theorem dJ2_length_9d52b_2 : decode cJ2_length_9d52b 2 = .ok (.iconst 1, 1) := by decide +kernel
theorem dJ2_length_9d52b_3 : decode cJ2_length_9d52b 3 = .ok (.ishr, 1) := by decide +kernel
theorem dJ2_length_9d52b_4 : decode cJ2_length_9d52b 4 = .ok (.ireturn, 1) := by decide +kernel
theorem dJ2_charAt_3b067_0 : decode cJ2_charAt_3b067 0 = .ok (.iload_n 1, 1) := by decide +kernel
theorem dJ2_charAt_3b067_1 : decode cJ2_charAt_3b067 1 = .ok (.aload_n 0, 1) := by decide +kernel
theorem dJ2_charAt_3b067_2 : decode cJ2_charAt_3b067 2 = .ok (.invokestatic 67, 3) := by decide +kernel
theorem dJ2_charAt_3b067_5 : decode cJ2_charAt_3b067 5 = .ok (.aload_n 0, 1) := by decide +kernel
theorem dJ2_charAt_3b067_6 : decode cJ2_charAt_3b067 6 = .ok (.iload_n 1, 1) := by decide +kernel
theorem dJ2_charAt_3b067_7 : decode cJ2_charAt_3b067 7 = .ok (.invokestatic 71, 3) := by decide +kernel
theorem dJ2_charAt_3b067_10 : decode cJ2_charAt_3b067 10 = .ok (.ireturn, 1) := by decide +kernel
theorem dJ2_checkIndex_2214a_0 : decode cJ2_checkIndex_2214a 0 = .ok (.iload_n 0, 1) := by decide +kernel
theorem dJ2_checkIndex_2214a_1 : decode cJ2_checkIndex_2214a 1 = .ok (.aload_n 1, 1) := by decide +kernel
theorem dJ2_checkIndex_2214a_2 : decode cJ2_checkIndex_2214a 2 = .ok (.invokestatic 48, 3) := by decide +kernel
theorem dJ2_checkIndex_2214a_5 : decode cJ2_checkIndex_2214a 5 = .ok (.invokestatic 414, 3) := by decide +kernel
theorem dJ2_checkIndex_2214a_8 : decode cJ2_checkIndex_2214a 8 = .ok (.return_, 1) := by decide +kernel
theorem dJ7_fill_53178_0 : decode cJ7_fill_53178 0 = .ok (.iconst 0, 1) := by decide +kernel
theorem dJ7_fill_53178_1 : decode cJ7_fill_53178 1 = .ok (.istore_n 2, 1) := by decide +kernel
theorem dJ7_fill_53178_2 : decode cJ7_fill_53178 2 = .ok (.aload_n 0, 1) := by decide +kernel
theorem dJ7_fill_53178_3 : decode cJ7_fill_53178 3 = .ok (.arraylength, 1) := by decide +kernel
theorem dJ7_fill_53178_4 : decode cJ7_fill_53178 4 = .ok (.istore_n 3, 1) := by decide +kernel
theorem dJ7_fill_53178_5 : decode cJ7_fill_53178 5 = .ok (.iload_n 2, 1) := by decide +kernel
theorem dJ7_fill_53178_6 : decode cJ7_fill_53178 6 = .ok (.iload_n 3, 1) := by decide +kernel
theorem dJ7_fill_53178_7 : decode cJ7_fill_53178 7 = .ok (.if_icmp .ge 13, 3) := by decide +kernel
theorem dJ7_fill_53178_10 : decode cJ7_fill_53178 10 = .ok (.aload_n 0, 1) := by decide +kernel
theorem dJ7_fill_53178_11 : decode cJ7_fill_53178 11 = .ok (.iload_n 2, 1) := by decide +kernel
theorem dJ7_fill_53178_12 : decode cJ7_fill_53178 12 = .ok (.iload_n 1, 1) := by decide +kernel
theorem dJ7_fill_53178_13 : decode cJ7_fill_53178 13 = .ok (.iastore, 1) := by decide +kernel
theorem dJ7_fill_53178_14 : decode cJ7_fill_53178 14 = .ok (.iinc 2 1, 3) := by decide +kernel
theorem dJ7_fill_53178_17 : decode cJ7_fill_53178 17 = .ok (.goto (-12), 3) := by decide +kernel
theorem dJ7_fill_53178_20 : decode cJ7_fill_53178 20 = .ok (.return_, 1) := by decide +kernel
theorem dJ3_checkIndex_8e157_0 : decode cJ3_checkIndex_8e157 0 = .ok (.iload_n 0, 1) := by decide +kernel
theorem dJ3_checkIndex_8e157_1 : decode cJ3_checkIndex_8e157 1 = .ok (.ifCond .lt 8, 3) := by decide +kernel
theorem dJ3_checkIndex_8e157_4 : decode cJ3_checkIndex_8e157 4 = .ok (.iload_n 0, 1) := by decide +kernel
theorem dJ3_checkIndex_8e157_5 : decode cJ3_checkIndex_8e157 5 = .ok (.iload_n 1, 1) := by decide +kernel
theorem dJ3_checkIndex_8e157_6 : decode cJ3_checkIndex_8e157 6 = .ok (.if_icmp .lt 10, 3) := by decide +kernel
theorem dJ3_checkIndex_8e157_9 : decode cJ3_checkIndex_8e157 9 = .ok (.aload_n 2, 1) := by decide +kernel
theorem dJ3_checkIndex_8e157_10 : decode cJ3_checkIndex_8e157 10 = .ok (.iload_n 0, 1) := by decide +kernel
theorem dJ3_checkIndex_8e157_11 : decode cJ3_checkIndex_8e157 11 = .ok (.iload_n 1, 1) := by decide +kernel
theorem dJ3_checkIndex_8e157_12 : decode cJ3_checkIndex_8e157 12 = .ok (.invokestatic 95, 3) := by decide +kernel
theorem dJ3_checkIndex_8e157_15 : decode cJ3_checkIndex_8e157 15 = .ok (.athrow, 1) := by decide +kernel
theorem dJ3_checkIndex_8e157_16 : decode cJ3_checkIndex_8e157 16 = .ok (.iload_n 0, 1) := by decide +kernel
theorem dJ3_checkIndex_8e157_17 : decode cJ3_checkIndex_8e157 17 = .ok (.ireturn, 1) := by decide +kernel
