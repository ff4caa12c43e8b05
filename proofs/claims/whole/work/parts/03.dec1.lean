theorem dX0_init_0 : decode cX0_init 0 = .ok (.aload_n 0, 1) := by decide +kernel
theorem dX0_init_1 : decode cX0_init 1 = .ok (.invokespecial 3, 3) := by decide +kernel
theorem dX0_init_4 : decode cX0_init 4 = .ok (.return_, 1) := by decide +kernel
theorem dX0_begin_0 : decode cX0_begin 0 = .ok (.aload_n 0, 1) := by decide +kernel
theorem dX0_begin_1 : decode cX0_begin 1 = .ok (.iload_n 1, 1) := by decide +kernel
theorem dX0_begin_2 : decode cX0_begin 2 = .ok (.putfield 9, 3) := by decide +kernel
theorem dX0_begin_5 : decode cX0_begin 5 = .ok (.aload_n 0, 1) := by decide +kernel
theorem dX0_begin_6 : decode cX0_begin 6 = .ok (.iload_n 1, 1) := by decide +kernel
theorem dX0_begin_7 : decode cX0_begin 7 = .ok (.putfield 15, 3) := by decide +kernel
theorem dX0_begin_10 : decode cX0_begin 10 = .ok (.aload_n 0, 1) := by decide +kernel
theorem dX0_begin_11 : decode cX0_begin 11 = .ok (.iconst 0, 1) := by decide +kernel
theorem dX0_begin_12 : decode cX0_begin 12 = .ok (.putfield 18, 3) := by decide +kernel
theorem dX0_begin_15 : decode cX0_begin 15 = .ok (.aload_n 0, 1) := by decide +kernel
theorem dX0_begin_16 : decode cX0_begin 16 = .ok (.iconst 0, 1) := by decide +kernel
theorem dX0_begin_17 : decode cX0_begin 17 = .ok (.putfield 21, 3) := by decide +kernel
theorem dX0_begin_20 : decode cX0_begin 20 = .ok (.aload_n 0, 1) := by decide +kernel
theorem dX0_begin_21 : decode cX0_begin 21 = .ok (.iconst 1, 1) := by decide +kernel
theorem dX0_begin_22 : decode cX0_begin 22 = .ok (.putfield 24, 3) := by decide +kernel
theorem dX0_begin_25 : decode cX0_begin 25 = .ok (.aload_n 0, 1) := by decide +kernel
theorem dX0_begin_26 : decode cX0_begin 26 = .ok (.iconst 0, 1) := by decide +kernel
theorem dX0_begin_27 : decode cX0_begin 27 = .ok (.putfield 27, 3) := by decide +kernel
theorem dX0_begin_30 : decode cX0_begin 30 = .ok (.aload_n 0, 1) := by decide +kernel
theorem dX0_begin_31 : decode cX0_begin 31 = .ok (.iconst 0, 1) := by decide +kernel
theorem dX0_begin_32 : decode cX0_begin 32 = .ok (.putfield 30, 3) := by decide +kernel
theorem dX0_begin_35 : decode cX0_begin 35 = .ok (.aload_n 0, 1) := by decide +kernel
theorem dX0_begin_36 : decode cX0_begin 36 = .ok (.iconst 0, 1) := by decide +kernel
theorem dX0_begin_37 : decode cX0_begin 37 = .ok (.putfield 34, 3) := by decide +kernel
theorem dX0_begin_40 : decode cX0_begin 40 = .ok (.aload_n 0, 1) := by decide +kernel
theorem dX0_begin_41 : decode cX0_begin 41 = .ok (.iconst 0, 1) := by decide +kernel
theorem dX0_begin_42 : decode cX0_begin 42 = .ok (.putfield 37, 3) := by decide +kernel
theorem dX0_begin_45 : decode cX0_begin 45 = .ok (.return_, 1) := by decide +kernel
theorem dX0_copyFrom_0 : decode cX0_copyFrom 0 = .ok (.aload_n 0, 1) := by decide +kernel
theorem dX0_copyFrom_1 : decode cX0_copyFrom 1 = .ok (.aload_n 1, 1) := by decide +kernel
theorem dX0_copyFrom_2 : decode cX0_copyFrom 2 = .ok (.getfield 9, 3) := by decide +kernel
theorem dX0_copyFrom_5 : decode cX0_copyFrom 5 = .ok (.putfield 9, 3) := by decide +kernel
theorem dX0_copyFrom_8 : decode cX0_copyFrom 8 = .ok (.aload_n 0, 1) := by decide +kernel
theorem dX0_copyFrom_9 : decode cX0_copyFrom 9 = .ok (.aload_n 1, 1) := by decide +kernel
theorem dX0_copyFrom_10 : decode cX0_copyFrom 10 = .ok (.getfield 15, 3) := by decide +kernel
theorem dX0_copyFrom_13 : decode cX0_copyFrom 13 = .ok (.putfield 15, 3) := by decide +kernel
theorem dX0_copyFrom_16 : decode cX0_copyFrom 16 = .ok (.aload_n 0, 1) := by decide +kernel
theorem dX0_copyFrom_17 : decode cX0_copyFrom 17 = .ok (.aload_n 1, 1) := by decide +kernel
theorem dX0_copyFrom_18 : decode cX0_copyFrom 18 = .ok (.getfield 18, 3) := by decide +kernel
theorem dX0_copyFrom_21 : decode cX0_copyFrom 21 = .ok (.putfield 18, 3) := by decide +kernel
theorem dX0_copyFrom_24 : decode cX0_copyFrom 24 = .ok (.aload_n 0, 1) := by decide +kernel
theorem dX0_copyFrom_25 : decode cX0_copyFrom 25 = .ok (.aload_n 1, 1) := by decide +kernel
theorem dX0_copyFrom_26 : decode cX0_copyFrom 26 = .ok (.getfield 21, 3) := by decide +kernel
theorem dX0_copyFrom_29 : decode cX0_copyFrom 29 = .ok (.putfield 21, 3) := by decide +kernel
theorem dX0_copyFrom_32 : decode cX0_copyFrom 32 = .ok (.aload_n 0, 1) := by decide +kernel
theorem dX0_copyFrom_33 : decode cX0_copyFrom 33 = .ok (.aload_n 1, 1) := by decide +kernel
theorem dX0_copyFrom_34 : decode cX0_copyFrom 34 = .ok (.getfield 24, 3) := by decide +kernel
theorem dX0_copyFrom_37 : decode cX0_copyFrom 37 = .ok (.putfield 24, 3) := by decide +kernel
theorem dX0_copyFrom_40 : decode cX0_copyFrom 40 = .ok (.aload_n 0, 1) := by decide +kernel
theorem dX0_copyFrom_41 : decode cX0_copyFrom 41 = .ok (.aload_n 1, 1) := by decide +kernel
theorem dX0_copyFrom_42 : decode cX0_copyFrom 42 = .ok (.getfield 27, 3) := by decide +kernel
theorem dX0_copyFrom_45 : decode cX0_copyFrom 45 = .ok (.putfield 27, 3) := by decide +kernel
theorem dX0_copyFrom_48 : decode cX0_copyFrom 48 = .ok (.aload_n 0, 1) := by decide +kernel
theorem dX0_copyFrom_49 : decode cX0_copyFrom 49 = .ok (.aload_n 1, 1) := by decide +kernel
theorem dX0_copyFrom_50 : decode cX0_copyFrom 50 = .ok (.getfield 30, 3) := by decide +kernel
theorem dX0_copyFrom_53 : decode cX0_copyFrom 53 = .ok (.putfield 30, 3) := by decide +kernel
theorem dX0_copyFrom_56 : decode cX0_copyFrom 56 = .ok (.aload_n 0, 1) := by decide +kernel
theorem dX0_copyFrom_57 : decode cX0_copyFrom 57 = .ok (.aload_n 1, 1) := by decide +kernel
theorem dX0_copyFrom_58 : decode cX0_copyFrom 58 = .ok (.getfield 34, 3) := by decide +kernel
theorem dX0_copyFrom_61 : decode cX0_copyFrom 61 = .ok (.putfield 34, 3) := by decide +kernel
theorem dX0_copyFrom_64 : decode cX0_copyFrom 64 = .ok (.aload_n 0, 1) := by decide +kernel
theorem dX0_copyFrom_65 : decode cX0_copyFrom 65 = .ok (.aload_n 1, 1) := by decide +kernel
theorem dX0_copyFrom_66 : decode cX0_copyFrom 66 = .ok (.getfield 40, 3) := by decide +kernel
theorem dX0_copyFrom_69 : decode cX0_copyFrom 69 = .ok (.putfield 40, 3) := by decide +kernel
theorem dX0_copyFrom_72 : decode cX0_copyFrom 72 = .ok (.aload_n 0, 1) := by decide +kernel
theorem dX0_copyFrom_73 : decode cX0_copyFrom 73 = .ok (.aload_n 1, 1) := by decide +kernel
theorem dX0_copyFrom_74 : decode cX0_copyFrom 74 = .ok (.getfield 43, 3) := by decide +kernel
theorem dX0_copyFrom_77 : decode cX0_copyFrom 77 = .ok (.putfield 43, 3) := by decide +kernel
theorem dX0_copyFrom_80 : decode cX0_copyFrom 80 = .ok (.aload_n 0, 1) := by decide +kernel
theorem dX0_copyFrom_81 : decode cX0_copyFrom 81 = .ok (.aload_n 1, 1) := by decide +kernel
theorem dX0_copyFrom_82 : decode cX0_copyFrom 82 = .ok (.getfield 46, 3) := by decide +kernel
theorem dX0_copyFrom_85 : decode cX0_copyFrom 85 = .ok (.putfield 46, 3) := by decide +kernel
theorem dX0_copyFrom_88 : decode cX0_copyFrom 88 = .ok (.aload_n 0, 1) := by decide +kernel
theorem dX0_copyFrom_89 : decode cX0_copyFrom 89 = .ok (.aload_n 1, 1) := by decide +kernel
theorem dX0_copyFrom_90 : decode cX0_copyFrom 90 = .ok (.getfield 37, 3) := by decide +kernel
theorem dX0_copyFrom_93 : decode cX0_copyFrom 93 = .ok (.putfield 37, 3) := by decide +kernel
theorem dX0_copyFrom_96 : decode cX0_copyFrom 96 = .ok (.aload_n 0, 1) := by decide +kernel
theorem dX0_copyFrom_97 : decode cX0_copyFrom 97 = .ok (.aload_n 1, 1) := by decide +kernel
theorem dX0_copyFrom_98 : decode cX0_copyFrom 98 = .ok (.getfield 49, 3) := by decide +kernel
theorem dX0_copyFrom_101 : decode cX0_copyFrom 101 = .ok (.putfield 49, 3) := by decide +kernel
theorem dX0_copyFrom_104 : decode cX0_copyFrom 104 = .ok (.aload_n 0, 1) := by decide +kernel
theorem dX0_copyFrom_105 : decode cX0_copyFrom 105 = .ok (.aload_n 1, 1) := by decide +kernel
theorem dX0_copyFrom_106 : decode cX0_copyFrom 106 = .ok (.getfield 52, 3) := by decide +kernel
theorem dX0_copyFrom_109 : decode cX0_copyFrom 109 = .ok (.putfield 52, 3) := by decide +kernel
theorem dX0_copyFrom_112 : decode cX0_copyFrom 112 = .ok (.return_, 1) := by decide +kernel
theorem dX0_strength_0 : decode cX0_strength 0 = .ok (.aload_n 0, 1) := by decide +kernel
theorem dX0_strength_1 : decode cX0_strength 1 = .ok (.getfield 9, 3) := by decide +kernel
theorem dX0_strength_4 : decode cX0_strength 4 = .ok (.sipush 200, 3) := by decide +kernel
theorem dX0_strength_7 : decode cX0_strength 7 = .ok (.aload_n 0, 1) := by decide +kernel
theorem dX0_strength_8 : decode cX0_strength 8 = .ok (.getfield 18, 3) := by decide +kernel
theorem dX0_strength_11 : decode cX0_strength 11 = .ok (.isub, 1) := by decide +kernel
theorem dX0_strength_12 : decode cX0_strength 12 = .ok (.imul, 1) := by decide +kernel
theorem dX0_strength_13 : decode cX0_strength 13 = .ok (.sipush 200, 3) := by decide +kernel
theorem dX0_strength_16 : decode cX0_strength 16 = .ok (.idiv, 1) := by decide +kernel
theorem dX0_strength_17 : decode cX0_strength 17 = .ok (.ireturn, 1) := by decide +kernel
theorem dX0_isShutIn_0 : decode cX0_isShutIn 0 = .ok (.aload_n 0, 1) := by decide +kernel
theorem dX0_isShutIn_1 : decode cX0_isShutIn 1 = .ok (.getfield 37, 3) := by decide +kernel
theorem dX0_isShutIn_4 : decode cX0_isShutIn 4 = .ok (.ifCond .eq 23, 3) := by decide +kernel
theorem dX0_isShutIn_7 : decode cX0_isShutIn 7 = .ok (.aload_n 0, 1) := by decide +kernel
theorem dX0_isShutIn_8 : decode cX0_isShutIn 8 = .ok (.getfield 49, 3) := by decide +kernel
theorem dX0_isShutIn_11 : decode cX0_isShutIn 11 = .ok (.iload_n 1, 1) := by decide +kernel
theorem dX0_isShutIn_12 : decode cX0_isShutIn 12 = .ok (.if_icmp .gt 15, 3) := by decide +kernel
theorem dX0_isShutIn_15 : decode cX0_isShutIn 15 = .ok (.iload_n 1, 1) := by decide +kernel
theorem dX0_isShutIn_16 : decode cX0_isShutIn 16 = .ok (.aload_n 0, 1) := by decide +kernel
theorem dX0_isShutIn_17 : decode cX0_isShutIn 17 = .ok (.getfield 52, 3) := by decide +kernel
theorem dX0_isShutIn_20 : decode cX0_isShutIn 20 = .ok (.if_icmp .gt 7, 3) := by decide +kernel
theorem dX0_isShutIn_23 : decode cX0_isShutIn 23 = .ok (.iconst 1, 1) := by decide +kernel
theorem dX0_isShutIn_24 : decode cX0_isShutIn 24 = .ok (.goto 4, 3) := by decide +kernel
theorem dX0_isShutIn_27 : decode cX0_isShutIn 27 = .ok (.iconst 0, 1) := by decide +kernel
theorem dX0_isShutIn_28 : decode cX0_isShutIn 28 = .ok (.ireturn, 1) := by decide +kernel
theorem dX0_whyNotFiredIn_0 : decode cX0_whyNotFiredIn 0 = .ok (.aload_n 0, 1) := by decide +kernel
theorem dX0_whyNotFiredIn_1 : decode cX0_whyNotFiredIn 1 = .ok (.getfield 21, 3) := by decide +kernel
theorem dX0_whyNotFiredIn_4 : decode cX0_whyNotFiredIn 4 = .ok (.iconst 2, 1) := by decide +kernel
theorem dX0_whyNotFiredIn_5 : decode cX0_whyNotFiredIn 5 = .ok (.if_icmp .ne 5, 3) := by decide +kernel
theorem dX0_whyNotFiredIn_8 : decode cX0_whyNotFiredIn 8 = .ok (.iconst 1, 1) := by decide +kernel
theorem dX0_whyNotFiredIn_9 : decode cX0_whyNotFiredIn 9 = .ok (.ireturn, 1) := by decide +kernel
theorem dX0_whyNotFiredIn_10 : decode cX0_whyNotFiredIn 10 = .ok (.aload_n 0, 1) := by decide +kernel
theorem dX0_whyNotFiredIn_11 : decode cX0_whyNotFiredIn 11 = .ok (.getfield 21, 3) := by decide +kernel
theorem dX0_whyNotFiredIn_14 : decode cX0_whyNotFiredIn 14 = .ok (.iconst 1, 1) := by decide +kernel
theorem dX0_whyNotFiredIn_15 : decode cX0_whyNotFiredIn 15 = .ok (.if_icmp .ne 5, 3) := by decide +kernel
theorem dX0_whyNotFiredIn_18 : decode cX0_whyNotFiredIn 18 = .ok (.iconst 2, 1) := by decide +kernel
theorem dX0_whyNotFiredIn_19 : decode cX0_whyNotFiredIn 19 = .ok (.ireturn, 1) := by decide +kernel
theorem dX0_whyNotFiredIn_20 : decode cX0_whyNotFiredIn 20 = .ok (.aload_n 0, 1) := by decide +kernel
theorem dX0_whyNotFiredIn_21 : decode cX0_whyNotFiredIn 21 = .ok (.getfield 30, 3) := by decide +kernel
theorem dX0_whyNotFiredIn_24 : decode cX0_whyNotFiredIn 24 = .ok (.ifCond .eq 5, 3) := by decide +kernel
theorem dX0_whyNotFiredIn_27 : decode cX0_whyNotFiredIn 27 = .ok (.iconst 3, 1) := by decide +kernel
theorem dX0_whyNotFiredIn_28 : decode cX0_whyNotFiredIn 28 = .ok (.ireturn, 1) := by decide +kernel
theorem dX0_whyNotFiredIn_29 : decode cX0_whyNotFiredIn 29 = .ok (.aload_n 0, 1) := by decide +kernel
theorem dX0_whyNotFiredIn_30 : decode cX0_whyNotFiredIn 30 = .ok (.iload_n 1, 1) := by decide +kernel
theorem dX0_whyNotFiredIn_31 : decode cX0_whyNotFiredIn 31 = .ok (.invokevirtual 55, 3) := by decide +kernel
theorem dX0_whyNotFiredIn_34 : decode cX0_whyNotFiredIn 34 = .ok (.ifCond .eq 5, 3) := by decide +kernel
theorem dX0_whyNotFiredIn_37 : decode cX0_whyNotFiredIn 37 = .ok (.iconst 4, 1) := by decide +kernel
theorem dX0_whyNotFiredIn_38 : decode cX0_whyNotFiredIn 38 = .ok (.ireturn, 1) := by decide +kernel
theorem dX0_whyNotFiredIn_39 : decode cX0_whyNotFiredIn 39 = .ok (.aload_n 0, 1) := by decide +kernel
theorem dX0_whyNotFiredIn_40 : decode cX0_whyNotFiredIn 40 = .ok (.getfield 34, 3) := by decide +kernel
theorem dX0_whyNotFiredIn_43 : decode cX0_whyNotFiredIn 43 = .ok (.ifCond .ne 5, 3) := by decide +kernel
theorem dX0_whyNotFiredIn_46 : decode cX0_whyNotFiredIn 46 = .ok (.iconst 5, 1) := by decide +kernel
theorem dX0_whyNotFiredIn_47 : decode cX0_whyNotFiredIn 47 = .ok (.ireturn, 1) := by decide +kernel
theorem dX0_whyNotFiredIn_48 : decode cX0_whyNotFiredIn 48 = .ok (.aload_n 0, 1) := by decide +kernel
theorem dX0_whyNotFiredIn_49 : decode cX0_whyNotFiredIn 49 = .ok (.getfield 15, 3) := by decide +kernel
theorem dX0_whyNotFiredIn_52 : decode cX0_whyNotFiredIn 52 = .ok (.aload_n 0, 1) := by decide +kernel
theorem dX0_whyNotFiredIn_53 : decode cX0_whyNotFiredIn 53 = .ok (.getfield 43, 3) := by decide +kernel
theorem dX0_whyNotFiredIn_56 : decode cX0_whyNotFiredIn 56 = .ok (.if_icmp .le 8, 3) := by decide +kernel
theorem dX0_whyNotFiredIn_59 : decode cX0_whyNotFiredIn 59 = .ok (.bipush 6, 2) := by decide +kernel
theorem dX0_whyNotFiredIn_61 : decode cX0_whyNotFiredIn 61 = .ok (.goto 4, 3) := by decide +kernel
theorem dX0_whyNotFiredIn_64 : decode cX0_whyNotFiredIn 64 = .ok (.iconst 0, 1) := by decide +kernel
theorem dX0_whyNotFiredIn_65 : decode cX0_whyNotFiredIn 65 = .ok (.ireturn, 1) := by decide +kernel
theorem dX0_whyNotInspectedBy_0 : decode cX0_whyNotInspectedBy 0 = .ok (.aload_n 0, 1) := by decide +kernel
theorem dX0_whyNotInspectedBy_1 : decode cX0_whyNotInspectedBy 1 = .ok (.getfield 21, 3) := by decide +kernel
theorem dX0_whyNotInspectedBy_4 : decode cX0_whyNotInspectedBy 4 = .ok (.iconst 2, 1) := by decide +kernel
theorem dX0_whyNotInspectedBy_5 : decode cX0_whyNotInspectedBy 5 = .ok (.if_icmp .ne 5, 3) := by decide +kernel
theorem dX0_whyNotInspectedBy_8 : decode cX0_whyNotInspectedBy 8 = .ok (.iconst 1, 1) := by decide +kernel
theorem dX0_whyNotInspectedBy_9 : decode cX0_whyNotInspectedBy 9 = .ok (.ireturn, 1) := by decide +kernel
theorem dX0_whyNotInspectedBy_10 : decode cX0_whyNotInspectedBy 10 = .ok (.aload_n 0, 1) := by decide +kernel
theorem dX0_whyNotInspectedBy_11 : decode cX0_whyNotInspectedBy 11 = .ok (.getfield 21, 3) := by decide +kernel
theorem dX0_whyNotInspectedBy_14 : decode cX0_whyNotInspectedBy 14 = .ok (.iconst 1, 1) := by decide +kernel
theorem dX0_whyNotInspectedBy_15 : decode cX0_whyNotInspectedBy 15 = .ok (.if_icmp .ne 5, 3) := by decide +kernel
theorem dX0_whyNotInspectedBy_18 : decode cX0_whyNotInspectedBy 18 = .ok (.iconst 2, 1) := by decide +kernel
theorem dX0_whyNotInspectedBy_19 : decode cX0_whyNotInspectedBy 19 = .ok (.ireturn, 1) := by decide +kernel
theorem dX0_whyNotInspectedBy_20 : decode cX0_whyNotInspectedBy 20 = .ok (.aload_n 0, 1) := by decide +kernel
theorem dX0_whyNotInspectedBy_21 : decode cX0_whyNotInspectedBy 21 = .ok (.getfield 24, 3) := by decide +kernel
theorem dX0_whyNotInspectedBy_24 : decode cX0_whyNotInspectedBy 24 = .ok (.ifCond .ne 5, 3) := by decide +kernel
theorem dX0_whyNotInspectedBy_27 : decode cX0_whyNotInspectedBy 27 = .ok (.iconst 3, 1) := by decide +kernel
theorem dX0_whyNotInspectedBy_28 : decode cX0_whyNotInspectedBy 28 = .ok (.ireturn, 1) := by decide +kernel
theorem dX0_whyNotInspectedBy_29 : decode cX0_whyNotInspectedBy 29 = .ok (.aload_n 0, 1) := by decide +kernel
theorem dX0_whyNotInspectedBy_30 : decode cX0_whyNotInspectedBy 30 = .ok (.getfield 30, 3) := by decide +kernel
theorem dX0_whyNotInspectedBy_33 : decode cX0_whyNotInspectedBy 33 = .ok (.ifCond .eq 5, 3) := by decide +kernel
theorem dX0_whyNotInspectedBy_36 : decode cX0_whyNotInspectedBy 36 = .ok (.iconst 4, 1) := by decide +kernel
theorem dX0_whyNotInspectedBy_37 : decode cX0_whyNotInspectedBy 37 = .ok (.ireturn, 1) := by decide +kernel
theorem dX0_whyNotInspectedBy_38 : decode cX0_whyNotInspectedBy 38 = .ok (.aload_n 1, 1) := by decide +kernel
theorem dX0_whyNotInspectedBy_39 : decode cX0_whyNotInspectedBy 39 = .ok (.invokevirtual 59, 3) := by decide +kernel
theorem dX0_whyNotInspectedBy_42 : decode cX0_whyNotInspectedBy 42 = .ok (.iconst 1, 1) := by decide +kernel
theorem dX0_whyNotInspectedBy_43 : decode cX0_whyNotInspectedBy 43 = .ok (.if_icmp .ge 7, 3) := by decide +kernel
theorem dX0_whyNotInspectedBy_46 : decode cX0_whyNotInspectedBy 46 = .ok (.iconst 5, 1) := by decide +kernel
theorem dX0_whyNotInspectedBy_47 : decode cX0_whyNotInspectedBy 47 = .ok (.goto 4, 3) := by decide +kernel
theorem dX0_whyNotInspectedBy_50 : decode cX0_whyNotInspectedBy 50 = .ok (.iconst 0, 1) := by decide +kernel
theorem dX0_whyNotInspectedBy_51 : decode cX0_whyNotInspectedBy 51 = .ok (.ireturn, 1) := by decide +kernel
theorem dX0_takePaper_0 : decode cX0_takePaper 0 = .ok (.aload_n 0, 1) := by decide +kernel
theorem dX0_takePaper_1 : decode cX0_takePaper 1 = .ok (.iconst 1, 1) := by decide +kernel
theorem dX0_takePaper_2 : decode cX0_takePaper 2 = .ok (.putfield 34, 3) := by decide +kernel
theorem dX0_takePaper_5 : decode cX0_takePaper 5 = .ok (.aload_n 0, 1) := by decide +kernel
theorem dX0_takePaper_6 : decode cX0_takePaper 6 = .ok (.iload_n 1, 1) := by decide +kernel
theorem dX0_takePaper_7 : decode cX0_takePaper 7 = .ok (.putfield 40, 3) := by decide +kernel
theorem dX0_takePaper_10 : decode cX0_takePaper 10 = .ok (.aload_n 0, 1) := by decide +kernel
theorem dX0_takePaper_11 : decode cX0_takePaper 11 = .ok (.iload_n 2, 1) := by decide +kernel
theorem dX0_takePaper_12 : decode cX0_takePaper 12 = .ok (.putfield 43, 3) := by decide +kernel
theorem dX0_takePaper_15 : decode cX0_takePaper 15 = .ok (.aload_n 0, 1) := by decide +kernel
theorem dX0_takePaper_16 : decode cX0_takePaper 16 = .ok (.iload_n 3, 1) := by decide +kernel
theorem dX0_takePaper_17 : decode cX0_takePaper 17 = .ok (.putfield 46, 3) := by decide +kernel
theorem dX0_takePaper_20 : decode cX0_takePaper 20 = .ok (.return_, 1) := by decide +kernel
theorem dX0_refusePaper_0 : decode cX0_refusePaper 0 = .ok (.aload_n 0, 1) := by decide +kernel
theorem dX0_refusePaper_1 : decode cX0_refusePaper 1 = .ok (.iconst 0, 1) := by decide +kernel
theorem dX0_refusePaper_2 : decode cX0_refusePaper 2 = .ok (.putfield 34, 3) := by decide +kernel
theorem dX0_refusePaper_5 : decode cX0_refusePaper 5 = .ok (.aload_n 0, 1) := by decide +kernel
theorem dX0_refusePaper_6 : decode cX0_refusePaper 6 = .ok (.iconst 1, 1) := by decide +kernel
theorem dX0_refusePaper_7 : decode cX0_refusePaper 7 = .ok (.putfield 30, 3) := by decide +kernel
theorem dX0_refusePaper_10 : decode cX0_refusePaper 10 = .ok (.return_, 1) := by decide +kernel
theorem dX0_becomeCold_0 : decode cX0_becomeCold 0 = .ok (.aload_n 0, 1) := by decide +kernel
theorem dX0_becomeCold_1 : decode cX0_becomeCold 1 = .ok (.iconst 0, 1) := by decide +kernel
theorem dX0_becomeCold_2 : decode cX0_becomeCold 2 = .ok (.putfield 21, 3) := by decide +kernel
theorem dX0_becomeCold_5 : decode cX0_becomeCold 5 = .ok (.aload_n 0, 1) := by decide +kernel
theorem dX0_becomeCold_6 : decode cX0_becomeCold 6 = .ok (.iconst 0, 1) := by decide +kernel
theorem dX0_becomeCold_7 : decode cX0_becomeCold 7 = .ok (.putfield 24, 3) := by decide +kernel
theorem dX0_becomeCold_10 : decode cX0_becomeCold 10 = .ok (.return_, 1) := by decide +kernel
theorem dX0_age_0 : decode cX0_age 0 = .ok (.aload_n 0, 1) := by decide +kernel
theorem dX0_age_1 : decode cX0_age 1 = .ok (.getfield 21, 3) := by decide +kernel
theorem dX0_age_4 : decode cX0_age 4 = .ok (.iconst 1, 1) := by decide +kernel
theorem dX0_age_5 : decode cX0_age 5 = .ok (.if_icmp .ne 30, 3) := by decide +kernel
theorem dX0_age_8 : decode cX0_age 8 = .ok (.aload_n 0, 1) := by decide +kernel
theorem dX0_age_9 : decode cX0_age 9 = .ok (.sipush 200, 3) := by decide +kernel
theorem dX0_age_12 : decode cX0_age 12 = .ok (.aload_n 0, 1) := by decide +kernel
theorem dX0_age_13 : decode cX0_age 13 = .ok (.getfield 18, 3) := by decide +kernel
theorem dX0_age_16 : decode cX0_age 16 = .ok (.iconst 1, 1) := by decide +kernel
theorem dX0_age_17 : decode cX0_age 17 = .ok (.iadd, 1) := by decide +kernel
theorem dX0_age_18 : decode cX0_age 18 = .ok (.aload_n 0, 1) := by decide +kernel
theorem dX0_age_19 : decode cX0_age 19 = .ok (.getfield 15, 3) := by decide +kernel
theorem dX0_age_22 : decode cX0_age 22 = .ok (.bipush 10, 2) := by decide +kernel
theorem dX0_age_24 : decode cX0_age 24 = .ok (.idiv, 1) := by decide +kernel
theorem dX0_age_25 : decode cX0_age 25 = .ok (.iadd, 1) := by decide +kernel
theorem dX0_age_26 : decode cX0_age 26 = .ok (.invokestatic 65, 3) := by decide +kernel
theorem dX0_age_29 : decode cX0_age 29 = .ok (.putfield 18, 3) := by decide +kernel
theorem dX0_age_32 : decode cX0_age 32 = .ok (.goto 20, 3) := by decide +kernel
theorem dX0_age_35 : decode cX0_age 35 = .ok (.aload_n 0, 1) := by decide +kernel
theorem dX0_age_36 : decode cX0_age 36 = .ok (.getfield 21, 3) := by decide +kernel
theorem dX0_age_39 : decode cX0_age 39 = .ok (.ifCond .ne 13, 3) := by decide +kernel
theorem dX0_age_42 : decode cX0_age 42 = .ok (.aload_n 0, 1) := by decide +kernel
theorem dX0_age_43 : decode cX0_age 43 = .ok (.dup, 1) := by decide +kernel
theorem dX0_age_44 : decode cX0_age 44 = .ok (.getfield 24, 3) := by decide +kernel
theorem dX0_age_47 : decode cX0_age 47 = .ok (.iconst 1, 1) := by decide +kernel
theorem dX0_age_48 : decode cX0_age 48 = .ok (.iadd, 1) := by decide +kernel
theorem dX0_age_49 : decode cX0_age 49 = .ok (.putfield 24, 3) := by decide +kernel
theorem dX0_age_52 : decode cX0_age 52 = .ok (.return_, 1) := by decide +kernel
theorem dX0_endRepairIn_0 : decode cX0_endRepairIn 0 = .ok (.aload_n 0, 1) := by decide +kernel
theorem dX0_endRepairIn_1 : decode cX0_endRepairIn 1 = .ok (.getfield 21, 3) := by decide +kernel
theorem dX0_endRepairIn_4 : decode cX0_endRepairIn 4 = .ok (.iconst 2, 1) := by decide +kernel
theorem dX0_endRepairIn_5 : decode cX0_endRepairIn 5 = .ok (.if_icmp .ne 11, 3) := by decide +kernel
theorem dX0_endRepairIn_8 : decode cX0_endRepairIn 8 = .ok (.aload_n 0, 1) := by decide +kernel
theorem dX0_endRepairIn_9 : decode cX0_endRepairIn 9 = .ok (.getfield 27, 3) := by decide +kernel
theorem dX0_endRepairIn_12 : decode cX0_endRepairIn 12 = .ok (.iload_n 1, 1) := by decide +kernel
theorem dX0_endRepairIn_13 : decode cX0_endRepairIn 13 = .ok (.if_icmp .le 4, 3) := by decide +kernel
theorem dX0_endRepairIn_16 : decode cX0_endRepairIn 16 = .ok (.return_, 1) := by decide +kernel
theorem dX0_endRepairIn_17 : decode cX0_endRepairIn 17 = .ok (.aload_n 0, 1) := by decide +kernel
theorem dX0_endRepairIn_18 : decode cX0_endRepairIn 18 = .ok (.invokevirtual 71, 3) := by decide +kernel
theorem dX0_endRepairIn_21 : decode cX0_endRepairIn 21 = .ok (.aload_n 0, 1) := by decide +kernel
theorem dX0_endRepairIn_22 : decode cX0_endRepairIn 22 = .ok (.aload_n 0, 1) := by decide +kernel
theorem dX0_endRepairIn_23 : decode cX0_endRepairIn 23 = .ok (.getfield 18, 3) := by decide +kernel
theorem dX0_endRepairIn_26 : decode cX0_endRepairIn 26 = .ok (.iconst 4, 1) := by decide +kernel
theorem dX0_endRepairIn_27 : decode cX0_endRepairIn 27 = .ok (.idiv, 1) := by decide +kernel
theorem dX0_endRepairIn_28 : decode cX0_endRepairIn 28 = .ok (.putfield 18, 3) := by decide +kernel
theorem dX0_endRepairIn_31 : decode cX0_endRepairIn 31 = .ok (.aload_n 0, 1) := by decide +kernel
theorem dX0_endRepairIn_32 : decode cX0_endRepairIn 32 = .ok (.iconst 0, 1) := by decide +kernel
theorem dX0_endRepairIn_33 : decode cX0_endRepairIn 33 = .ok (.putfield 30, 3) := by decide +kernel
theorem dX0_endRepairIn_36 : decode cX0_endRepairIn 36 = .ok (.aload_n 0, 1) := by decide +kernel
theorem dX0_endRepairIn_37 : decode cX0_endRepairIn 37 = .ok (.iconst 0, 1) := by decide +kernel
theorem dX0_endRepairIn_38 : decode cX0_endRepairIn 38 = .ok (.putfield 34, 3) := by decide +kernel
theorem dX0_endRepairIn_41 : decode cX0_endRepairIn 41 = .ok (.return_, 1) := by decide +kernel
theorem dX0_dropWhatIsPastIn_0 : decode cX0_dropWhatIsPastIn 0 = .ok (.aload_n 0, 1) := by decide +kernel
theorem dX0_dropWhatIsPastIn_1 : decode cX0_dropWhatIsPastIn 1 = .ok (.getfield 34, 3) := by decide +kernel
theorem dX0_dropWhatIsPastIn_4 : decode cX0_dropWhatIsPastIn 4 = .ok (.ifCond .eq 16, 3) := by decide +kernel
theorem dX0_dropWhatIsPastIn_7 : decode cX0_dropWhatIsPastIn 7 = .ok (.aload_n 0, 1) := by decide +kernel
theorem dX0_dropWhatIsPastIn_8 : decode cX0_dropWhatIsPastIn 8 = .ok (.getfield 46, 3) := by decide +kernel
theorem dX0_dropWhatIsPastIn_11 : decode cX0_dropWhatIsPastIn 11 = .ok (.iload_n 1, 1) := by decide +kernel
theorem dX0_dropWhatIsPastIn_12 : decode cX0_dropWhatIsPastIn 12 = .ok (.if_icmp .ge 8, 3) := by decide +kernel
theorem dX0_dropWhatIsPastIn_15 : decode cX0_dropWhatIsPastIn 15 = .ok (.aload_n 0, 1) := by decide +kernel
theorem dX0_dropWhatIsPastIn_16 : decode cX0_dropWhatIsPastIn 16 = .ok (.iconst 0, 1) := by decide +kernel
theorem dX0_dropWhatIsPastIn_17 : decode cX0_dropWhatIsPastIn 17 = .ok (.putfield 34, 3) := by decide +kernel
theorem dX0_dropWhatIsPastIn_20 : decode cX0_dropWhatIsPastIn 20 = .ok (.aload_n 0, 1) := by decide +kernel
theorem dX0_dropWhatIsPastIn_21 : decode cX0_dropWhatIsPastIn 21 = .ok (.getfield 37, 3) := by decide +kernel
theorem dX0_dropWhatIsPastIn_24 : decode cX0_dropWhatIsPastIn 24 = .ok (.ifCond .eq 16, 3) := by decide +kernel
theorem dX0_dropWhatIsPastIn_27 : decode cX0_dropWhatIsPastIn 27 = .ok (.aload_n 0, 1) := by decide +kernel
theorem dX0_dropWhatIsPastIn_28 : decode cX0_dropWhatIsPastIn 28 = .ok (.getfield 52, 3) := by decide +kernel
theorem dX0_dropWhatIsPastIn_31 : decode cX0_dropWhatIsPastIn 31 = .ok (.iload_n 1, 1) := by decide +kernel
theorem dX0_dropWhatIsPastIn_32 : decode cX0_dropWhatIsPastIn 32 = .ok (.if_icmp .ge 8, 3) := by decide +kernel
theorem dX0_dropWhatIsPastIn_35 : decode cX0_dropWhatIsPastIn 35 = .ok (.aload_n 0, 1) := by decide +kernel
theorem dX0_dropWhatIsPastIn_36 : decode cX0_dropWhatIsPastIn 36 = .ok (.iconst 0, 1) := by decide +kernel
theorem dX0_dropWhatIsPastIn_37 : decode cX0_dropWhatIsPastIn 37 = .ok (.putfield 37, 3) := by decide +kernel
theorem dX0_dropWhatIsPastIn_40 : decode cX0_dropWhatIsPastIn 40 = .ok (.return_, 1) := by decide +kernel
theorem dX0_mustGoOutIn_0 : decode cX0_mustGoOutIn 0 = .ok (.aload_n 0, 1) := by decide +kernel
theorem dX0_mustGoOutIn_1 : decode cX0_mustGoOutIn 1 = .ok (.getfield 21, 3) := by decide +kernel
theorem dX0_mustGoOutIn_4 : decode cX0_mustGoOutIn 4 = .ok (.iconst 1, 1) := by decide +kernel
theorem dX0_mustGoOutIn_5 : decode cX0_mustGoOutIn 5 = .ok (.if_icmp .ne 22, 3) := by decide +kernel
theorem dX0_mustGoOutIn_8 : decode cX0_mustGoOutIn 8 = .ok (.aload_n 0, 1) := by decide +kernel
theorem dX0_mustGoOutIn_9 : decode cX0_mustGoOutIn 9 = .ok (.getfield 34, 3) := by decide +kernel
theorem dX0_mustGoOutIn_12 : decode cX0_mustGoOutIn 12 = .ok (.ifCond .eq 11, 3) := by decide +kernel
theorem dX0_mustGoOutIn_15 : decode cX0_mustGoOutIn 15 = .ok (.aload_n 0, 1) := by decide +kernel
theorem dX0_mustGoOutIn_16 : decode cX0_mustGoOutIn 16 = .ok (.iload_n 1, 1) := by decide +kernel
theorem dX0_mustGoOutIn_17 : decode cX0_mustGoOutIn 17 = .ok (.invokevirtual 55, 3) := by decide +kernel
theorem dX0_mustGoOutIn_20 : decode cX0_mustGoOutIn 20 = .ok (.ifCond .eq 7, 3) := by decide +kernel
theorem dX0_mustGoOutIn_23 : decode cX0_mustGoOutIn 23 = .ok (.iconst 1, 1) := by decide +kernel
theorem dX0_mustGoOutIn_24 : decode cX0_mustGoOutIn 24 = .ok (.goto 4, 3) := by decide +kernel
theorem dX0_mustGoOutIn_27 : decode cX0_mustGoOutIn 27 = .ok (.iconst 0, 1) := by decide +kernel
theorem dX0_mustGoOutIn_28 : decode cX0_mustGoOutIn 28 = .ok (.ireturn, 1) := by decide +kernel
theorem dX0_weeksUntilPutOut_0 : decode cX0_weeksUntilPutOut 0 = .ok (.aload_n 0, 1) := by decide +kernel
theorem dX0_weeksUntilPutOut_1 : decode cX0_weeksUntilPutOut 1 = .ok (.getfield 21, 3) := by decide +kernel
theorem dX0_weeksUntilPutOut_4 : decode cX0_weeksUntilPutOut 4 = .ok (.iconst 1, 1) := by decide +kernel
theorem dX0_weeksUntilPutOut_5 : decode cX0_weeksUntilPutOut 5 = .ok (.if_icmp .eq 6, 3) := by decide +kernel
theorem dX0_weeksUntilPutOut_8 : decode cX0_weeksUntilPutOut 8 = .ok (.ldc 74, 2) := by decide +kernel
theorem dX0_weeksUntilPutOut_10 : decode cX0_weeksUntilPutOut 10 = .ok (.ireturn, 1) := by decide +kernel
theorem dX0_weeksUntilPutOut_11 : decode cX0_weeksUntilPutOut 11 = .ok (.aload_n 0, 1) := by decide +kernel
theorem dX0_weeksUntilPutOut_12 : decode cX0_weeksUntilPutOut 12 = .ok (.getfield 46, 3) := by decide +kernel
theorem dX0_weeksUntilPutOut_15 : decode cX0_weeksUntilPutOut 15 = .ok (.iconst 1, 1) := by decide +kernel
theorem dX0_weeksUntilPutOut_16 : decode cX0_weeksUntilPutOut 16 = .ok (.iadd, 1) := by decide +kernel
theorem dX0_weeksUntilPutOut_17 : decode cX0_weeksUntilPutOut 17 = .ok (.iload_n 1, 1) := by decide +kernel
theorem dX0_weeksUntilPutOut_18 : decode cX0_weeksUntilPutOut 18 = .ok (.isub, 1) := by decide +kernel
theorem dX0_weeksUntilPutOut_19 : decode cX0_weeksUntilPutOut 19 = .ok (.istore_n 2, 1) := by decide +kernel
theorem dX0_weeksUntilPutOut_20 : decode cX0_weeksUntilPutOut 20 = .ok (.aload_n 0, 1) := by decide +kernel
theorem dX0_weeksUntilPutOut_21 : decode cX0_weeksUntilPutOut 21 = .ok (.getfield 37, 3) := by decide +kernel
theorem dX0_weeksUntilPutOut_24 : decode cX0_weeksUntilPutOut 24 = .ok (.ifCond .eq 16, 3) := by decide +kernel
theorem dX0_weeksUntilPutOut_27 : decode cX0_weeksUntilPutOut 27 = .ok (.iload_n 2, 1) := by decide +kernel
theorem dX0_weeksUntilPutOut_28 : decode cX0_weeksUntilPutOut 28 = .ok (.aload_n 0, 1) := by decide +kernel
theorem dX0_weeksUntilPutOut_29 : decode cX0_weeksUntilPutOut 29 = .ok (.getfield 49, 3) := by decide +kernel
theorem dX0_weeksUntilPutOut_32 : decode cX0_weeksUntilPutOut 32 = .ok (.iload_n 1, 1) := by decide +kernel
theorem dX0_weeksUntilPutOut_33 : decode cX0_weeksUntilPutOut 33 = .ok (.isub, 1) := by decide +kernel
theorem dX0_weeksUntilPutOut_34 : decode cX0_weeksUntilPutOut 34 = .ok (.invokestatic 65, 3) := by decide +kernel
theorem dX0_weeksUntilPutOut_37 : decode cX0_weeksUntilPutOut 37 = .ok (.goto 4, 3) := by decide +kernel
theorem dX0_weeksUntilPutOut_40 : decode cX0_weeksUntilPutOut 40 = .ok (.iload_n 2, 1) := by decide +kernel
theorem dX0_weeksUntilPutOut_41 : decode cX0_weeksUntilPutOut 41 = .ok (.ireturn, 1) := by decide +kernel
theorem dX0_fact_0 : decode cX0_fact 0 = .ok (.iload_n 1, 1) := by decide +kernel
theorem dX0_fact_1 : decode cX0_fact 1 = .ok (.tableswitch 164 0 9 #[55, 60, 65, 70, 75, 92, 112, 125, 142, 159], 55) := by decide +kernel
theorem dX0_fact_56 : decode cX0_fact 56 = .ok (.aload_n 0, 1) := by decide +kernel
theorem dX0_fact_57 : decode cX0_fact 57 = .ok (.getfield 9, 3) := by decide +kernel
theorem dX0_fact_60 : decode cX0_fact 60 = .ok (.ireturn, 1) := by decide +kernel
theorem dX0_fact_61 : decode cX0_fact 61 = .ok (.aload_n 0, 1) := by decide +kernel
theorem dX0_fact_62 : decode cX0_fact 62 = .ok (.getfield 15, 3) := by decide +kernel
theorem dX0_fact_65 : decode cX0_fact 65 = .ok (.ireturn, 1) := by decide +kernel
theorem dX0_fact_66 : decode cX0_fact 66 = .ok (.aload_n 0, 1) := by decide +kernel
theorem dX0_fact_67 : decode cX0_fact 67 = .ok (.getfield 18, 3) := by decide +kernel
theorem dX0_fact_70 : decode cX0_fact 70 = .ok (.ireturn, 1) := by decide +kernel
theorem dX0_fact_71 : decode cX0_fact 71 = .ok (.aload_n 0, 1) := by decide +kernel
theorem dX0_fact_72 : decode cX0_fact 72 = .ok (.getfield 21, 3) := by decide +kernel
theorem dX0_fact_75 : decode cX0_fact 75 = .ok (.ireturn, 1) := by decide +kernel
theorem dX0_fact_76 : decode cX0_fact 76 = .ok (.aload_n 0, 1) := by decide +kernel
theorem dX0_fact_77 : decode cX0_fact 77 = .ok (.getfield 21, 3) := by decide +kernel
theorem dX0_fact_80 : decode cX0_fact 80 = .ok (.ifCond .ne 10, 3) := by decide +kernel
theorem dX0_fact_83 : decode cX0_fact 83 = .ok (.aload_n 0, 1) := by decide +kernel
theorem dX0_fact_84 : decode cX0_fact 84 = .ok (.getfield 24, 3) := by decide +kernel
theorem dX0_fact_87 : decode cX0_fact 87 = .ok (.goto 5, 3) := by decide +kernel
theorem dX0_fact_90 : decode cX0_fact 90 = .ok (.ldc 75, 2) := by decide +kernel
theorem dX0_fact_92 : decode cX0_fact 92 = .ok (.ireturn, 1) := by decide +kernel
theorem dX0_fact_93 : decode cX0_fact 93 = .ok (.aload_n 0, 1) := by decide +kernel
theorem dX0_fact_94 : decode cX0_fact 94 = .ok (.getfield 21, 3) := by decide +kernel
theorem dX0_fact_97 : decode cX0_fact 97 = .ok (.iconst 2, 1) := by decide +kernel
theorem dX0_fact_98 : decode cX0_fact 98 = .ok (.if_icmp .ne 12, 3) := by decide +kernel
theorem dX0_fact_101 : decode cX0_fact 101 = .ok (.aload_n 0, 1) := by decide +kernel
theorem dX0_fact_102 : decode cX0_fact 102 = .ok (.getfield 27, 3) := by decide +kernel
theorem dX0_fact_105 : decode cX0_fact 105 = .ok (.iload_n 2, 1) := by decide +kernel
theorem dX0_fact_106 : decode cX0_fact 106 = .ok (.isub, 1) := by decide +kernel
theorem dX0_fact_107 : decode cX0_fact 107 = .ok (.goto 5, 3) := by decide +kernel
theorem dX0_fact_110 : decode cX0_fact 110 = .ok (.ldc 75, 2) := by decide +kernel
theorem dX0_fact_112 : decode cX0_fact 112 = .ok (.ireturn, 1) := by decide +kernel
theorem dX0_fact_113 : decode cX0_fact 113 = .ok (.aload_n 0, 1) := by decide +kernel
theorem dX0_fact_114 : decode cX0_fact 114 = .ok (.getfield 30, 3) := by decide +kernel
theorem dX0_fact_117 : decode cX0_fact 117 = .ok (.ifCond .eq 7, 3) := by decide +kernel
theorem dX0_fact_120 : decode cX0_fact 120 = .ok (.iconst 1, 1) := by decide +kernel
theorem dX0_fact_121 : decode cX0_fact 121 = .ok (.goto 4, 3) := by decide +kernel
theorem dX0_fact_124 : decode cX0_fact 124 = .ok (.iconst 0, 1) := by decide +kernel
theorem dX0_fact_125 : decode cX0_fact 125 = .ok (.ireturn, 1) := by decide +kernel
theorem dX0_fact_126 : decode cX0_fact 126 = .ok (.aload_n 0, 1) := by decide +kernel
theorem dX0_fact_127 : decode cX0_fact 127 = .ok (.getfield 37, 3) := by decide +kernel
theorem dX0_fact_130 : decode cX0_fact 130 = .ok (.ifCond .eq 10, 3) := by decide +kernel
theorem dX0_fact_133 : decode cX0_fact 133 = .ok (.aload_n 0, 1) := by decide +kernel
theorem dX0_fact_134 : decode cX0_fact 134 = .ok (.getfield 49, 3) := by decide +kernel
theorem dX0_fact_137 : decode cX0_fact 137 = .ok (.goto 5, 3) := by decide +kernel
theorem dX0_fact_140 : decode cX0_fact 140 = .ok (.ldc 75, 2) := by decide +kernel
theorem dX0_fact_142 : decode cX0_fact 142 = .ok (.ireturn, 1) := by decide +kernel
theorem dX0_fact_143 : decode cX0_fact 143 = .ok (.aload_n 0, 1) := by decide +kernel
theorem dX0_fact_144 : decode cX0_fact 144 = .ok (.getfield 37, 3) := by decide +kernel
theorem dX0_fact_147 : decode cX0_fact 147 = .ok (.ifCond .eq 10, 3) := by decide +kernel
theorem dX0_fact_150 : decode cX0_fact 150 = .ok (.aload_n 0, 1) := by decide +kernel
theorem dX0_fact_151 : decode cX0_fact 151 = .ok (.getfield 52, 3) := by decide +kernel
theorem dX0_fact_154 : decode cX0_fact 154 = .ok (.goto 5, 3) := by decide +kernel
theorem dX0_fact_157 : decode cX0_fact 157 = .ok (.ldc 75, 2) := by decide +kernel
theorem dX0_fact_159 : decode cX0_fact 159 = .ok (.ireturn, 1) := by decide +kernel
theorem dX0_fact_160 : decode cX0_fact 160 = .ok (.aload_n 0, 1) := by decide +kernel
theorem dX0_fact_161 : decode cX0_fact 161 = .ok (.invokevirtual 76, 3) := by decide +kernel
theorem dX0_fact_164 : decode cX0_fact 164 = .ok (.ireturn, 1) := by decide +kernel
theorem dX0_fact_165 : decode cX0_fact 165 = .ok (.ldc 79, 2) := by decide +kernel
theorem dX0_fact_167 : decode cX0_fact 167 = .ok (.ireturn, 1) := by decide +kernel
theorem dX0_factOfPaper_0 : decode cX0_factOfPaper 0 = .ok (.iload_n 1, 1) := by decide +kernel
theorem dX0_factOfPaper_1 : decode cX0_factOfPaper 1 = .ok (.ifCond .lt 8, 3) := by decide +kernel
theorem dX0_factOfPaper_4 : decode cX0_factOfPaper 4 = .ok (.iload_n 1, 1) := by decide +kernel
theorem dX0_factOfPaper_5 : decode cX0_factOfPaper 5 = .ok (.iconst 2, 1) := by decide +kernel
theorem dX0_factOfPaper_6 : decode cX0_factOfPaper 6 = .ok (.if_icmp .le 6, 3) := by decide +kernel
theorem dX0_factOfPaper_9 : decode cX0_factOfPaper 9 = .ok (.ldc 79, 2) := by decide +kernel
theorem dX0_factOfPaper_11 : decode cX0_factOfPaper 11 = .ok (.ireturn, 1) := by decide +kernel
theorem dX0_factOfPaper_12 : decode cX0_factOfPaper 12 = .ok (.aload_n 0, 1) := by decide +kernel
theorem dX0_factOfPaper_13 : decode cX0_factOfPaper 13 = .ok (.getfield 34, 3) := by decide +kernel
theorem dX0_factOfPaper_16 : decode cX0_factOfPaper 16 = .ok (.ifCond .ne 6, 3) := by decide +kernel
theorem dX0_factOfPaper_19 : decode cX0_factOfPaper 19 = .ok (.ldc 75, 2) := by decide +kernel
theorem dX0_factOfPaper_21 : decode cX0_factOfPaper 21 = .ok (.ireturn, 1) := by decide +kernel
theorem dX0_factOfPaper_22 : decode cX0_factOfPaper 22 = .ok (.iload_n 1, 1) := by decide +kernel
theorem dX0_factOfPaper_23 : decode cX0_factOfPaper 23 = .ok (.ifCond .ne 8, 3) := by decide +kernel
theorem dX0_factOfPaper_26 : decode cX0_factOfPaper 26 = .ok (.aload_n 0, 1) := by decide +kernel
theorem dX0_factOfPaper_27 : decode cX0_factOfPaper 27 = .ok (.getfield 40, 3) := by decide +kernel
theorem dX0_factOfPaper_30 : decode cX0_factOfPaper 30 = .ok (.ireturn, 1) := by decide +kernel
theorem dX0_factOfPaper_31 : decode cX0_factOfPaper 31 = .ok (.iload_n 1, 1) := by decide +kernel
theorem dX0_factOfPaper_32 : decode cX0_factOfPaper 32 = .ok (.iconst 1, 1) := by decide +kernel
theorem dX0_factOfPaper_33 : decode cX0_factOfPaper 33 = .ok (.if_icmp .ne 10, 3) := by decide +kernel
theorem dX0_factOfPaper_36 : decode cX0_factOfPaper 36 = .ok (.aload_n 0, 1) := by decide +kernel
theorem dX0_factOfPaper_37 : decode cX0_factOfPaper 37 = .ok (.getfield 43, 3) := by decide +kernel
theorem dX0_factOfPaper_40 : decode cX0_factOfPaper 40 = .ok (.goto 7, 3) := by decide +kernel
theorem dX0_factOfPaper_43 : decode cX0_factOfPaper 43 = .ok (.aload_n 0, 1) := by decide +kernel
theorem dX0_factOfPaper_44 : decode cX0_factOfPaper 44 = .ok (.getfield 46, 3) := by decide +kernel
theorem dX0_factOfPaper_47 : decode cX0_factOfPaper 47 = .ok (.ireturn, 1) := by decide +kernel
theorem dX1_init_0 : decode cX1_init 0 = .ok (.aload_n 0, 1) := by decide +kernel
theorem dX1_init_1 : decode cX1_init 1 = .ok (.invokespecial 3, 3) := by decide +kernel
theorem dX1_init_4 : decode cX1_init 4 = .ok (.aload_n 0, 1) := by decide +kernel
theorem dX1_init_5 : decode cX1_init 5 = .ok (.iconst 4, 1) := by decide +kernel
theorem dX1_init_6 : decode cX1_init 6 = .ok (.anewarray 9, 3) := by decide +kernel
theorem dX1_init_9 : decode cX1_init 9 = .ok (.putfield 11, 3) := by decide +kernel
theorem dX1_init_12 : decode cX1_init 12 = .ok (.iconst 0, 1) := by decide +kernel
theorem dX1_init_13 : decode cX1_init 13 = .ok (.istore_n 1, 1) := by decide +kernel
theorem dX1_init_14 : decode cX1_init 14 = .ok (.iload_n 1, 1) := by decide +kernel
theorem dX1_init_15 : decode cX1_init 15 = .ok (.aload_n 0, 1) := by decide +kernel
theorem dX1_init_16 : decode cX1_init 16 = .ok (.getfield 11, 3) := by decide +kernel
theorem dX1_init_19 : decode cX1_init 19 = .ok (.arraylength, 1) := by decide +kernel
theorem dX1_init_20 : decode cX1_init 20 = .ok (.if_icmp .ge 22, 3) := by decide +kernel
theorem dX1_init_23 : decode cX1_init 23 = .ok (.aload_n 0, 1) := by decide +kernel
theorem dX1_init_24 : decode cX1_init 24 = .ok (.getfield 11, 3) := by decide +kernel
theorem dX1_init_27 : decode cX1_init 27 = .ok (.iload_n 1, 1) := by decide +kernel
theorem dX1_init_28 : decode cX1_init 28 = .ok (.new 9, 3) := by decide +kernel
theorem dX1_init_31 : decode cX1_init 31 = .ok (.dup, 1) := by decide +kernel
theorem dX1_init_32 : decode cX1_init 32 = .ok (.invokespecial 17, 3) := by decide +kernel
theorem dX1_init_35 : decode cX1_init 35 = .ok (.aastore, 1) := by decide +kernel
theorem dX1_init_36 : decode cX1_init 36 = .ok (.iinc 1 1, 3) := by decide +kernel
theorem dX1_init_39 : decode cX1_init 39 = .ok (.goto (-25), 3) := by decide +kernel
theorem dX1_init_42 : decode cX1_init 42 = .ok (.return_, 1) := by decide +kernel
theorem dX1_size_0 : decode cX1_size 0 = .ok (.aload_n 0, 1) := by decide +kernel
theorem dX1_size_1 : decode cX1_size 1 = .ok (.getfield 18, 3) := by decide +kernel
theorem dX1_size_4 : decode cX1_size 4 = .ok (.ireturn, 1) := by decide +kernel
theorem dX1_stateAt_0 : decode cX1_stateAt 0 = .ok (.iload_n 1, 1) := by decide +kernel
theorem dX1_stateAt_1 : decode cX1_stateAt 1 = .ok (.ifCond .lt 21, 3) := by decide +kernel
theorem dX1_stateAt_4 : decode cX1_stateAt 4 = .ok (.iload_n 1, 1) := by decide +kernel
theorem dX1_stateAt_5 : decode cX1_stateAt 5 = .ok (.aload_n 0, 1) := by decide +kernel
theorem dX1_stateAt_6 : decode cX1_stateAt 6 = .ok (.getfield 11, 3) := by decide +kernel
theorem dX1_stateAt_9 : decode cX1_stateAt 9 = .ok (.arraylength, 1) := by decide +kernel
theorem dX1_stateAt_10 : decode cX1_stateAt 10 = .ok (.if_icmp .ge 12, 3) := by decide +kernel
theorem dX1_stateAt_13 : decode cX1_stateAt 13 = .ok (.aload_n 0, 1) := by decide +kernel
theorem dX1_stateAt_14 : decode cX1_stateAt 14 = .ok (.getfield 11, 3) := by decide +kernel
theorem dX1_stateAt_17 : decode cX1_stateAt 17 = .ok (.iload_n 1, 1) := by decide +kernel
theorem dX1_stateAt_18 : decode cX1_stateAt 18 = .ok (.aaload, 1) := by decide +kernel
theorem dX1_stateAt_19 : decode cX1_stateAt 19 = .ok (.goto 4, 3) := by decide +kernel
theorem dX1_stateAt_22 : decode cX1_stateAt 22 = .ok (.aconst_null, 1) := by decide +kernel
theorem dX1_stateAt_23 : decode cX1_stateAt 23 = .ok (.areturn, 1) := by decide +kernel
theorem dX1_keep_0 : decode cX1_keep 0 = .ok (.aload_n 0, 1) := by decide +kernel
theorem dX1_keep_1 : decode cX1_keep 1 = .ok (.aload_n 0, 1) := by decide +kernel
theorem dX1_keep_2 : decode cX1_keep 2 = .ok (.getfield 22, 3) := by decide +kernel
theorem dX1_keep_5 : decode cX1_keep 5 = .ok (.invokevirtual 25, 3) := by decide +kernel
theorem dX1_keep_8 : decode cX1_keep 8 = .ok (.astore_n 2, 1) := by decide +kernel
theorem dX1_keep_9 : decode cX1_keep 9 = .ok (.aload_n 2, 1) := by decide +kernel
theorem dX1_keep_10 : decode cX1_keep 10 = .ok (.ifnonnull 4, 3) := by decide +kernel
theorem dX1_keep_13 : decode cX1_keep 13 = .ok (.return_, 1) := by decide +kernel
theorem dX1_keep_14 : decode cX1_keep 14 = .ok (.aload_n 2, 1) := by decide +kernel
theorem dX1_keep_15 : decode cX1_keep 15 = .ok (.aload_n 1, 1) := by decide +kernel
theorem dX1_keep_16 : decode cX1_keep 16 = .ok (.invokevirtual 29, 3) := by decide +kernel
theorem dX1_keep_19 : decode cX1_keep 19 = .ok (.aload_n 0, 1) := by decide +kernel
theorem dX1_keep_20 : decode cX1_keep 20 = .ok (.aload_n 0, 1) := by decide +kernel
theorem dX1_keep_21 : decode cX1_keep 21 = .ok (.getfield 22, 3) := by decide +kernel
theorem dX1_keep_24 : decode cX1_keep 24 = .ok (.iconst 1, 1) := by decide +kernel
theorem dX1_keep_25 : decode cX1_keep 25 = .ok (.iadd, 1) := by decide +kernel
theorem dX1_keep_26 : decode cX1_keep 26 = .ok (.iconst 4, 1) := by decide +kernel
theorem dX1_keep_27 : decode cX1_keep 27 = .ok (.irem, 1) := by decide +kernel
theorem dX1_keep_28 : decode cX1_keep 28 = .ok (.putfield 22, 3) := by decide +kernel
theorem dX1_keep_31 : decode cX1_keep 31 = .ok (.aload_n 0, 1) := by decide +kernel
theorem dX1_keep_32 : decode cX1_keep 32 = .ok (.aload_n 0, 1) := by decide +kernel
theorem dX1_keep_33 : decode cX1_keep 33 = .ok (.getfield 18, 3) := by decide +kernel
theorem dX1_keep_36 : decode cX1_keep 36 = .ok (.iconst 1, 1) := by decide +kernel
theorem dX1_keep_37 : decode cX1_keep 37 = .ok (.iadd, 1) := by decide +kernel
theorem dX1_keep_38 : decode cX1_keep 38 = .ok (.iconst 4, 1) := by decide +kernel
theorem dX1_keep_39 : decode cX1_keep 39 = .ok (.invokestatic 33, 3) := by decide +kernel
theorem dX1_keep_42 : decode cX1_keep 42 = .ok (.putfield 18, 3) := by decide +kernel
theorem dX1_keep_45 : decode cX1_keep 45 = .ok (.return_, 1) := by decide +kernel
theorem dX1_bringBack_0 : decode cX1_bringBack 0 = .ok (.aload_n 0, 1) := by decide +kernel
theorem dX1_bringBack_1 : decode cX1_bringBack 1 = .ok (.getfield 22, 3) := by decide +kernel
theorem dX1_bringBack_4 : decode cX1_bringBack 4 = .ok (.iconst 4, 1) := by decide +kernel
theorem dX1_bringBack_5 : decode cX1_bringBack 5 = .ok (.iadd, 1) := by decide +kernel
theorem dX1_bringBack_6 : decode cX1_bringBack 6 = .ok (.iconst 1, 1) := by decide +kernel
theorem dX1_bringBack_7 : decode cX1_bringBack 7 = .ok (.isub, 1) := by decide +kernel
theorem dX1_bringBack_8 : decode cX1_bringBack 8 = .ok (.iconst 4, 1) := by decide +kernel
theorem dX1_bringBack_9 : decode cX1_bringBack 9 = .ok (.irem, 1) := by decide +kernel
theorem dX1_bringBack_10 : decode cX1_bringBack 10 = .ok (.istore_n 2, 1) := by decide +kernel
theorem dX1_bringBack_11 : decode cX1_bringBack 11 = .ok (.aload_n 0, 1) := by decide +kernel
theorem dX1_bringBack_12 : decode cX1_bringBack 12 = .ok (.iload_n 2, 1) := by decide +kernel
theorem dX1_bringBack_13 : decode cX1_bringBack 13 = .ok (.invokevirtual 25, 3) := by decide +kernel
theorem dX1_bringBack_16 : decode cX1_bringBack 16 = .ok (.astore_n 3, 1) := by decide +kernel
theorem dX1_bringBack_17 : decode cX1_bringBack 17 = .ok (.aload_n 0, 1) := by decide +kernel
theorem dX1_bringBack_18 : decode cX1_bringBack 18 = .ok (.getfield 18, 3) := by decide +kernel
theorem dX1_bringBack_21 : decode cX1_bringBack 21 = .ok (.iconst 1, 1) := by decide +kernel
theorem dX1_bringBack_22 : decode cX1_bringBack 22 = .ok (.if_icmp .lt 7, 3) := by decide +kernel
theorem dX1_bringBack_25 : decode cX1_bringBack 25 = .ok (.aload_n 3, 1) := by decide +kernel
theorem dX1_bringBack_26 : decode cX1_bringBack 26 = .ok (.ifnonnull 6, 3) := by decide +kernel
theorem dX1_bringBack_29 : decode cX1_bringBack 29 = .ok (.ldc 39, 2) := by decide +kernel
theorem dX1_bringBack_31 : decode cX1_bringBack 31 = .ok (.ireturn, 1) := by decide +kernel
theorem dX1_bringBack_32 : decode cX1_bringBack 32 = .ok (.aload_n 1, 1) := by decide +kernel
theorem dX1_bringBack_33 : decode cX1_bringBack 33 = .ok (.aload_n 3, 1) := by decide +kernel
theorem dX1_bringBack_34 : decode cX1_bringBack 34 = .ok (.invokevirtual 29, 3) := by decide +kernel
theorem dX1_bringBack_37 : decode cX1_bringBack 37 = .ok (.aload_n 0, 1) := by decide +kernel
theorem dX1_bringBack_38 : decode cX1_bringBack 38 = .ok (.iload_n 2, 1) := by decide +kernel
theorem dX1_bringBack_39 : decode cX1_bringBack 39 = .ok (.putfield 22, 3) := by decide +kernel
theorem dX1_bringBack_42 : decode cX1_bringBack 42 = .ok (.aload_n 0, 1) := by decide +kernel
theorem dX1_bringBack_43 : decode cX1_bringBack 43 = .ok (.dup, 1) := by decide +kernel
theorem dX1_bringBack_44 : decode cX1_bringBack 44 = .ok (.getfield 18, 3) := by decide +kernel
theorem dX1_bringBack_47 : decode cX1_bringBack 47 = .ok (.iconst 1, 1) := by decide +kernel
theorem dX1_bringBack_48 : decode cX1_bringBack 48 = .ok (.isub, 1) := by decide +kernel
theorem dX1_bringBack_49 : decode cX1_bringBack 49 = .ok (.putfield 18, 3) := by decide +kernel
theorem dX1_bringBack_52 : decode cX1_bringBack 52 = .ok (.aload_n 0, 1) := by decide +kernel
theorem dX1_bringBack_53 : decode cX1_bringBack 53 = .ok (.getfield 18, 3) := by decide +kernel
theorem dX1_bringBack_56 : decode cX1_bringBack 56 = .ok (.ireturn, 1) := by decide +kernel
theorem dX2_init_0 : decode cX2_init 0 = .ok (.aload_n 0, 1) := by decide +kernel
theorem dX2_init_1 : decode cX2_init 1 = .ok (.invokespecial 3, 3) := by decide +kernel
theorem dX2_init_4 : decode cX2_init 4 = .ok (.aload_n 0, 1) := by decide +kernel
theorem dX2_init_5 : decode cX2_init 5 = .ok (.bipush 8, 2) := by decide +kernel
theorem dX2_init_7 : decode cX2_init 7 = .ok (.anewarray 9, 3) := by decide +kernel
theorem dX2_init_10 : decode cX2_init 10 = .ok (.putfield 11, 3) := by decide +kernel
theorem dX2_init_13 : decode cX2_init 13 = .ok (.aload_n 0, 1) := by decide +kernel
theorem dX2_init_14 : decode cX2_init 14 = .ok (.bipush 6, 2) := by decide +kernel
theorem dX2_init_16 : decode cX2_init 16 = .ok (.anewarray 17, 3) := by decide +kernel
theorem dX2_init_19 : decode cX2_init 19 = .ok (.putfield 19, 3) := by decide +kernel
theorem dX2_init_22 : decode cX2_init 22 = .ok (.aload_n 0, 1) := by decide +kernel
theorem dX2_init_23 : decode cX2_init 23 = .ok (.iconst 4, 1) := by decide +kernel
theorem dX2_init_24 : decode cX2_init 24 = .ok (.newarray .int, 2) := by decide +kernel
theorem dX2_init_26 : decode cX2_init 26 = .ok (.dup, 1) := by decide +kernel
theorem dX2_init_27 : decode cX2_init 27 = .ok (.iconst 0, 1) := by decide +kernel
theorem dX2_init_28 : decode cX2_init 28 = .ok (.bipush 120, 2) := by decide +kernel
theorem dX2_init_30 : decode cX2_init 30 = .ok (.iastore, 1) := by decide +kernel
theorem dX2_init_31 : decode cX2_init 31 = .ok (.dup, 1) := by decide +kernel
theorem dX2_init_32 : decode cX2_init 32 = .ok (.iconst 1, 1) := by decide +kernel
theorem dX2_init_33 : decode cX2_init 33 = .ok (.bipush 90, 2) := by decide +kernel
theorem dX2_init_35 : decode cX2_init 35 = .ok (.iastore, 1) := by decide +kernel
theorem dX2_init_36 : decode cX2_init 36 = .ok (.dup, 1) := by decide +kernel
theorem dX2_init_37 : decode cX2_init 37 = .ok (.iconst 2, 1) := by decide +kernel
theorem dX2_init_38 : decode cX2_init 38 = .ok (.bipush 8, 2) := by decide +kernel
theorem dX2_init_40 : decode cX2_init 40 = .ok (.iastore, 1) := by decide +kernel
theorem dX2_init_41 : decode cX2_init 41 = .ok (.dup, 1) := by decide +kernel
theorem dX2_init_42 : decode cX2_init 42 = .ok (.iconst 3, 1) := by decide +kernel
theorem dX2_init_43 : decode cX2_init 43 = .ok (.bipush 15, 2) := by decide +kernel
theorem dX2_init_45 : decode cX2_init 45 = .ok (.iastore, 1) := by decide +kernel
theorem dX2_init_46 : decode cX2_init 46 = .ok (.putfield 23, 3) := by decide +kernel
theorem dX2_init_49 : decode cX2_init 49 = .ok (.aload_n 0, 1) := by decide +kernel
theorem dX2_init_50 : decode cX2_init 50 = .ok (.iconst 4, 1) := by decide +kernel
theorem dX2_init_51 : decode cX2_init 51 = .ok (.newarray .int, 2) := by decide +kernel
theorem dX2_init_53 : decode cX2_init 53 = .ok (.dup, 1) := by decide +kernel
theorem dX2_init_54 : decode cX2_init 54 = .ok (.iconst 0, 1) := by decide +kernel
theorem dX2_init_55 : decode cX2_init 55 = .ok (.iconst 0, 1) := by decide +kernel
theorem dX2_init_56 : decode cX2_init 56 = .ok (.iastore, 1) := by decide +kernel
theorem dX2_init_57 : decode cX2_init 57 = .ok (.dup, 1) := by decide +kernel
theorem dX2_init_58 : decode cX2_init 58 = .ok (.iconst 1, 1) := by decide +kernel
theorem dX2_init_59 : decode cX2_init 59 = .ok (.iconst 0, 1) := by decide +kernel
theorem dX2_init_60 : decode cX2_init 60 = .ok (.iastore, 1) := by decide +kernel
theorem dX2_init_61 : decode cX2_init 61 = .ok (.dup, 1) := by decide +kernel
theorem dX2_init_62 : decode cX2_init 62 = .ok (.iconst 2, 1) := by decide +kernel
theorem dX2_init_63 : decode cX2_init 63 = .ok (.iconst 0, 1) := by decide +kernel
theorem dX2_init_64 : decode cX2_init 64 = .ok (.iastore, 1) := by decide +kernel
theorem dX2_init_65 : decode cX2_init 65 = .ok (.dup, 1) := by decide +kernel
theorem dX2_init_66 : decode cX2_init 66 = .ok (.iconst 3, 1) := by decide +kernel
theorem dX2_init_67 : decode cX2_init 67 = .ok (.iconst 0, 1) := by decide +kernel
theorem dX2_init_68 : decode cX2_init 68 = .ok (.iastore, 1) := by decide +kernel
theorem dX2_init_69 : decode cX2_init 69 = .ok (.putfield 27, 3) := by decide +kernel
theorem dX2_init_72 : decode cX2_init 72 = .ok (.iconst 0, 1) := by decide +kernel
theorem dX2_init_73 : decode cX2_init 73 = .ok (.istore_n 1, 1) := by decide +kernel
theorem dX2_init_74 : decode cX2_init 74 = .ok (.iload_n 1, 1) := by decide +kernel
theorem dX2_init_75 : decode cX2_init 75 = .ok (.aload_n 0, 1) := by decide +kernel
theorem dX2_init_76 : decode cX2_init 76 = .ok (.getfield 11, 3) := by decide +kernel
theorem dX2_init_79 : decode cX2_init 79 = .ok (.arraylength, 1) := by decide +kernel
theorem dX2_init_80 : decode cX2_init 80 = .ok (.if_icmp .ge 22, 3) := by decide +kernel
theorem dX2_init_83 : decode cX2_init 83 = .ok (.aload_n 0, 1) := by decide +kernel
theorem dX2_init_84 : decode cX2_init 84 = .ok (.getfield 11, 3) := by decide +kernel
theorem dX2_init_87 : decode cX2_init 87 = .ok (.iload_n 1, 1) := by decide +kernel
theorem dX2_init_88 : decode cX2_init 88 = .ok (.new 9, 3) := by decide +kernel
theorem dX2_init_91 : decode cX2_init 91 = .ok (.dup, 1) := by decide +kernel
theorem dX2_init_92 : decode cX2_init 92 = .ok (.invokespecial 30, 3) := by decide +kernel
theorem dX2_init_95 : decode cX2_init 95 = .ok (.aastore, 1) := by decide +kernel
theorem dX2_init_96 : decode cX2_init 96 = .ok (.iinc 1 1, 3) := by decide +kernel
theorem dX2_init_99 : decode cX2_init 99 = .ok (.goto (-25), 3) := by decide +kernel
theorem dX2_init_102 : decode cX2_init 102 = .ok (.iconst 0, 1) := by decide +kernel
theorem dX2_init_103 : decode cX2_init 103 = .ok (.istore_n 1, 1) := by decide +kernel
theorem dX2_init_104 : decode cX2_init 104 = .ok (.iload_n 1, 1) := by decide +kernel
theorem dX2_init_105 : decode cX2_init 105 = .ok (.aload_n 0, 1) := by decide +kernel
theorem dX2_init_106 : decode cX2_init 106 = .ok (.getfield 19, 3) := by decide +kernel
theorem dX2_init_109 : decode cX2_init 109 = .ok (.arraylength, 1) := by decide +kernel
theorem dX2_init_110 : decode cX2_init 110 = .ok (.if_icmp .ge 22, 3) := by decide +kernel
theorem dX2_init_113 : decode cX2_init 113 = .ok (.aload_n 0, 1) := by decide +kernel
theorem dX2_init_114 : decode cX2_init 114 = .ok (.getfield 19, 3) := by decide +kernel
theorem dX2_init_117 : decode cX2_init 117 = .ok (.iload_n 1, 1) := by decide +kernel
theorem dX2_init_118 : decode cX2_init 118 = .ok (.new 17, 3) := by decide +kernel
theorem dX2_init_121 : decode cX2_init 121 = .ok (.dup, 1) := by decide +kernel
theorem dX2_init_122 : decode cX2_init 122 = .ok (.invokespecial 31, 3) := by decide +kernel
theorem dX2_init_125 : decode cX2_init 125 = .ok (.aastore, 1) := by decide +kernel
theorem dX2_init_126 : decode cX2_init 126 = .ok (.iinc 1 1, 3) := by decide +kernel
theorem dX2_init_129 : decode cX2_init 129 = .ok (.goto (-25), 3) := by decide +kernel
theorem dX2_init_132 : decode cX2_init 132 = .ok (.return_, 1) := by decide +kernel
theorem dX2_copyFrom_0 : decode cX2_copyFrom 0 = .ok (.aload_n 0, 1) := by decide +kernel
theorem dX2_copyFrom_1 : decode cX2_copyFrom 1 = .ok (.aload_n 1, 1) := by decide +kernel
theorem dX2_copyFrom_2 : decode cX2_copyFrom 2 = .ok (.getfield 32, 3) := by decide +kernel
theorem dX2_copyFrom_5 : decode cX2_copyFrom 5 = .ok (.putfield 32, 3) := by decide +kernel
theorem dX2_copyFrom_8 : decode cX2_copyFrom 8 = .ok (.aload_n 0, 1) := by decide +kernel
theorem dX2_copyFrom_9 : decode cX2_copyFrom 9 = .ok (.aload_n 1, 1) := by decide +kernel
theorem dX2_copyFrom_10 : decode cX2_copyFrom 10 = .ok (.getfield 36, 3) := by decide +kernel
theorem dX2_copyFrom_13 : decode cX2_copyFrom 13 = .ok (.putfield 36, 3) := by decide +kernel
theorem dX2_copyFrom_16 : decode cX2_copyFrom 16 = .ok (.aload_n 0, 1) := by decide +kernel
theorem dX2_copyFrom_17 : decode cX2_copyFrom 17 = .ok (.aload_n 1, 1) := by decide +kernel
theorem dX2_copyFrom_18 : decode cX2_copyFrom 18 = .ok (.getfield 39, 3) := by decide +kernel
theorem dX2_copyFrom_21 : decode cX2_copyFrom 21 = .ok (.putfield 39, 3) := by decide +kernel
theorem dX2_copyFrom_24 : decode cX2_copyFrom 24 = .ok (.aload_n 0, 1) := by decide +kernel
theorem dX2_copyFrom_25 : decode cX2_copyFrom 25 = .ok (.aload_n 1, 1) := by decide +kernel
theorem dX2_copyFrom_26 : decode cX2_copyFrom 26 = .ok (.getfield 42, 3) := by decide +kernel
theorem dX2_copyFrom_29 : decode cX2_copyFrom 29 = .ok (.putfield 42, 3) := by decide +kernel
theorem dX2_copyFrom_32 : decode cX2_copyFrom 32 = .ok (.aload_n 0, 1) := by decide +kernel
theorem dX2_copyFrom_33 : decode cX2_copyFrom 33 = .ok (.aload_n 1, 1) := by decide +kernel
theorem dX2_copyFrom_34 : decode cX2_copyFrom 34 = .ok (.getfield 45, 3) := by decide +kernel
theorem dX2_copyFrom_37 : decode cX2_copyFrom 37 = .ok (.putfield 45, 3) := by decide +kernel
theorem dX2_copyFrom_40 : decode cX2_copyFrom 40 = .ok (.aload_n 1, 1) := by decide +kernel
theorem dX2_copyFrom_41 : decode cX2_copyFrom 41 = .ok (.getfield 23, 3) := by decide +kernel
theorem dX2_copyFrom_44 : decode cX2_copyFrom 44 = .ok (.aload_n 0, 1) := by decide +kernel
theorem dX2_copyFrom_45 : decode cX2_copyFrom 45 = .ok (.getfield 23, 3) := by decide +kernel
theorem dX2_copyFrom_48 : decode cX2_copyFrom 48 = .ok (.invokestatic 48, 3) := by decide +kernel
theorem dX2_copyFrom_51 : decode cX2_copyFrom 51 = .ok (.aload_n 1, 1) := by decide +kernel
theorem dX2_copyFrom_52 : decode cX2_copyFrom 52 = .ok (.getfield 27, 3) := by decide +kernel
theorem dX2_copyFrom_55 : decode cX2_copyFrom 55 = .ok (.aload_n 0, 1) := by decide +kernel
theorem dX2_copyFrom_56 : decode cX2_copyFrom 56 = .ok (.getfield 27, 3) := by decide +kernel
theorem dX2_copyFrom_59 : decode cX2_copyFrom 59 = .ok (.invokestatic 48, 3) := by decide +kernel
theorem dX2_copyFrom_62 : decode cX2_copyFrom 62 = .ok (.iconst 0, 1) := by decide +kernel
theorem dX2_copyFrom_63 : decode cX2_copyFrom 63 = .ok (.istore_n 2, 1) := by decide +kernel
theorem dX2_copyFrom_64 : decode cX2_copyFrom 64 = .ok (.iload_n 2, 1) := by decide +kernel
theorem dX2_copyFrom_65 : decode cX2_copyFrom 65 = .ok (.aload_n 0, 1) := by decide +kernel
theorem dX2_copyFrom_66 : decode cX2_copyFrom 66 = .ok (.getfield 32, 3) := by decide +kernel
theorem dX2_copyFrom_69 : decode cX2_copyFrom 69 = .ok (.if_icmp .ge 37, 3) := by decide +kernel
theorem dX2_copyFrom_72 : decode cX2_copyFrom 72 = .ok (.aload_n 1, 1) := by decide +kernel
theorem dX2_copyFrom_73 : decode cX2_copyFrom 73 = .ok (.iload_n 2, 1) := by decide +kernel
theorem dX2_copyFrom_74 : decode cX2_copyFrom 74 = .ok (.invokevirtual 52, 3) := by decide +kernel
theorem dX2_copyFrom_77 : decode cX2_copyFrom 77 = .ok (.astore_n 3, 1) := by decide +kernel
theorem dX2_copyFrom_78 : decode cX2_copyFrom 78 = .ok (.aload_n 0, 1) := by decide +kernel
theorem dX2_copyFrom_79 : decode cX2_copyFrom 79 = .ok (.iload_n 2, 1) := by decide +kernel
theorem dX2_copyFrom_80 : decode cX2_copyFrom 80 = .ok (.invokevirtual 52, 3) := by decide +kernel
theorem dX2_copyFrom_83 : decode cX2_copyFrom 83 = .ok (.astore 4, 2) := by decide +kernel
theorem dX2_copyFrom_85 : decode cX2_copyFrom 85 = .ok (.aload_n 3, 1) := by decide +kernel
theorem dX2_copyFrom_86 : decode cX2_copyFrom 86 = .ok (.ifnull 14, 3) := by decide +kernel
theorem dX2_copyFrom_89 : decode cX2_copyFrom 89 = .ok (.aload 4, 2) := by decide +kernel
theorem dX2_copyFrom_91 : decode cX2_copyFrom 91 = .ok (.ifnull 9, 3) := by decide +kernel
theorem dX2_copyFrom_94 : decode cX2_copyFrom 94 = .ok (.aload 4, 2) := by decide +kernel
theorem dX2_copyFrom_96 : decode cX2_copyFrom 96 = .ok (.aload_n 3, 1) := by decide +kernel
theorem dX2_copyFrom_97 : decode cX2_copyFrom 97 = .ok (.invokevirtual 56, 3) := by decide +kernel
theorem dX2_copyFrom_100 : decode cX2_copyFrom 100 = .ok (.iinc 2 1, 3) := by decide +kernel
theorem dX2_copyFrom_103 : decode cX2_copyFrom 103 = .ok (.goto (-39), 3) := by decide +kernel
theorem dX2_copyFrom_106 : decode cX2_copyFrom 106 = .ok (.iconst 0, 1) := by decide +kernel
theorem dX2_copyFrom_107 : decode cX2_copyFrom 107 = .ok (.istore_n 2, 1) := by decide +kernel
theorem dX2_copyFrom_108 : decode cX2_copyFrom 108 = .ok (.iload_n 2, 1) := by decide +kernel
theorem dX2_copyFrom_109 : decode cX2_copyFrom 109 = .ok (.aload_n 0, 1) := by decide +kernel
theorem dX2_copyFrom_110 : decode cX2_copyFrom 110 = .ok (.getfield 36, 3) := by decide +kernel
theorem dX2_copyFrom_113 : decode cX2_copyFrom 113 = .ok (.if_icmp .ge 37, 3) := by decide +kernel
theorem dX2_copyFrom_116 : decode cX2_copyFrom 116 = .ok (.aload_n 1, 1) := by decide +kernel
theorem dX2_copyFrom_117 : decode cX2_copyFrom 117 = .ok (.iload_n 2, 1) := by decide +kernel
theorem dX2_copyFrom_118 : decode cX2_copyFrom 118 = .ok (.invokevirtual 60, 3) := by decide +kernel
theorem dX2_copyFrom_121 : decode cX2_copyFrom 121 = .ok (.astore_n 3, 1) := by decide +kernel
theorem dX2_copyFrom_122 : decode cX2_copyFrom 122 = .ok (.aload_n 0, 1) := by decide +kernel
theorem dX2_copyFrom_123 : decode cX2_copyFrom 123 = .ok (.iload_n 2, 1) := by decide +kernel
theorem dX2_copyFrom_124 : decode cX2_copyFrom 124 = .ok (.invokevirtual 60, 3) := by decide +kernel
theorem dX2_copyFrom_127 : decode cX2_copyFrom 127 = .ok (.astore 4, 2) := by decide +kernel
theorem dX2_copyFrom_129 : decode cX2_copyFrom 129 = .ok (.aload_n 3, 1) := by decide +kernel
theorem dX2_copyFrom_130 : decode cX2_copyFrom 130 = .ok (.ifnull 14, 3) := by decide +kernel
theorem dX2_copyFrom_133 : decode cX2_copyFrom 133 = .ok (.aload 4, 2) := by decide +kernel
theorem dX2_copyFrom_135 : decode cX2_copyFrom 135 = .ok (.ifnull 9, 3) := by decide +kernel
theorem dX2_copyFrom_138 : decode cX2_copyFrom 138 = .ok (.aload 4, 2) := by decide +kernel
theorem dX2_copyFrom_140 : decode cX2_copyFrom 140 = .ok (.aload_n 3, 1) := by decide +kernel
theorem dX2_copyFrom_141 : decode cX2_copyFrom 141 = .ok (.invokevirtual 64, 3) := by decide +kernel
theorem dX2_copyFrom_144 : decode cX2_copyFrom 144 = .ok (.iinc 2 1, 3) := by decide +kernel
theorem dX2_copyFrom_147 : decode cX2_copyFrom 147 = .ok (.goto (-39), 3) := by decide +kernel
theorem dX2_copyFrom_150 : decode cX2_copyFrom 150 = .ok (.return_, 1) := by decide +kernel
theorem dX2_copyNumbers_0 : decode cX2_copyNumbers 0 = .ok (.iconst 0, 1) := by decide +kernel
theorem dX2_copyNumbers_1 : decode cX2_copyNumbers 1 = .ok (.istore_n 2, 1) := by decide +kernel
theorem dX2_copyNumbers_2 : decode cX2_copyNumbers 2 = .ok (.iload_n 2, 1) := by decide +kernel
theorem dX2_copyNumbers_3 : decode cX2_copyNumbers 3 = .ok (.aload_n 0, 1) := by decide +kernel
theorem dX2_copyNumbers_4 : decode cX2_copyNumbers 4 = .ok (.arraylength, 1) := by decide +kernel
theorem dX2_copyNumbers_5 : decode cX2_copyNumbers 5 = .ok (.if_icmp .ge 21, 3) := by decide +kernel
theorem dX2_copyNumbers_8 : decode cX2_copyNumbers 8 = .ok (.iload_n 2, 1) := by decide +kernel
theorem dX2_copyNumbers_9 : decode cX2_copyNumbers 9 = .ok (.aload_n 1, 1) := by decide +kernel
theorem dX2_copyNumbers_10 : decode cX2_copyNumbers 10 = .ok (.arraylength, 1) := by decide +kernel
theorem dX2_copyNumbers_11 : decode cX2_copyNumbers 11 = .ok (.if_icmp .ge 15, 3) := by decide +kernel
theorem dX2_copyNumbers_14 : decode cX2_copyNumbers 14 = .ok (.aload_n 1, 1) := by decide +kernel
theorem dX2_copyNumbers_15 : decode cX2_copyNumbers 15 = .ok (.iload_n 2, 1) := by decide +kernel
theorem dX2_copyNumbers_16 : decode cX2_copyNumbers 16 = .ok (.aload_n 0, 1) := by decide +kernel
theorem dX2_copyNumbers_17 : decode cX2_copyNumbers 17 = .ok (.iload_n 2, 1) := by decide +kernel
theorem dX2_copyNumbers_18 : decode cX2_copyNumbers 18 = .ok (.iaload, 1) := by decide +kernel
theorem dX2_copyNumbers_19 : decode cX2_copyNumbers 19 = .ok (.iastore, 1) := by decide +kernel
theorem dX2_copyNumbers_20 : decode cX2_copyNumbers 20 = .ok (.iinc 2 1, 3) := by decide +kernel
theorem dX2_copyNumbers_23 : decode cX2_copyNumbers 23 = .ok (.goto (-21), 3) := by decide +kernel
theorem dX2_copyNumbers_26 : decode cX2_copyNumbers 26 = .ok (.return_, 1) := by decide +kernel
theorem dX2_boilerAt_0 : decode cX2_boilerAt 0 = .ok (.iload_n 1, 1) := by decide +kernel
theorem dX2_boilerAt_1 : decode cX2_boilerAt 1 = .ok (.ifCond .lt 24, 3) := by decide +kernel
theorem dX2_boilerAt_4 : decode cX2_boilerAt 4 = .ok (.iload_n 1, 1) := by decide +kernel
theorem dX2_boilerAt_5 : decode cX2_boilerAt 5 = .ok (.aload_n 0, 1) := by decide +kernel
theorem dX2_boilerAt_6 : decode cX2_boilerAt 6 = .ok (.getfield 32, 3) := by decide +kernel
theorem dX2_boilerAt_9 : decode cX2_boilerAt 9 = .ok (.if_icmp .ge 16, 3) := by decide +kernel
theorem dX2_boilerAt_12 : decode cX2_boilerAt 12 = .ok (.iload_n 1, 1) := by decide +kernel
theorem dX2_boilerAt_13 : decode cX2_boilerAt 13 = .ok (.aload_n 0, 1) := by decide +kernel
theorem dX2_boilerAt_14 : decode cX2_boilerAt 14 = .ok (.getfield 11, 3) := by decide +kernel
theorem dX2_boilerAt_17 : decode cX2_boilerAt 17 = .ok (.arraylength, 1) := by decide +kernel
theorem dX2_boilerAt_18 : decode cX2_boilerAt 18 = .ok (.if_icmp .ge 7, 3) := by decide +kernel
theorem dX2_boilerAt_21 : decode cX2_boilerAt 21 = .ok (.iconst 1, 1) := by decide +kernel
theorem dX2_boilerAt_22 : decode cX2_boilerAt 22 = .ok (.goto 4, 3) := by decide +kernel
theorem dX2_boilerAt_25 : decode cX2_boilerAt 25 = .ok (.iconst 0, 1) := by decide +kernel
theorem dX2_boilerAt_26 : decode cX2_boilerAt 26 = .ok (.istore_n 2, 1) := by decide +kernel
theorem dX2_boilerAt_27 : decode cX2_boilerAt 27 = .ok (.iload_n 2, 1) := by decide +kernel
theorem dX2_boilerAt_28 : decode cX2_boilerAt 28 = .ok (.ifCond .eq 12, 3) := by decide +kernel
theorem dX2_boilerAt_31 : decode cX2_boilerAt 31 = .ok (.aload_n 0, 1) := by decide +kernel
theorem dX2_boilerAt_32 : decode cX2_boilerAt 32 = .ok (.getfield 11, 3) := by decide +kernel
theorem dX2_boilerAt_35 : decode cX2_boilerAt 35 = .ok (.iload_n 1, 1) := by decide +kernel
theorem dX2_boilerAt_36 : decode cX2_boilerAt 36 = .ok (.aaload, 1) := by decide +kernel
theorem dX2_boilerAt_37 : decode cX2_boilerAt 37 = .ok (.goto 4, 3) := by decide +kernel
theorem dX2_boilerAt_40 : decode cX2_boilerAt 40 = .ok (.aconst_null, 1) := by decide +kernel
theorem dX2_boilerAt_41 : decode cX2_boilerAt 41 = .ok (.areturn, 1) := by decide +kernel
theorem dX2_inspectorAt_0 : decode cX2_inspectorAt 0 = .ok (.iload_n 1, 1) := by decide +kernel
theorem dX2_inspectorAt_1 : decode cX2_inspectorAt 1 = .ok (.ifCond .lt 24, 3) := by decide +kernel
theorem dX2_inspectorAt_4 : decode cX2_inspectorAt 4 = .ok (.iload_n 1, 1) := by decide +kernel
theorem dX2_inspectorAt_5 : decode cX2_inspectorAt 5 = .ok (.aload_n 0, 1) := by decide +kernel
theorem dX2_inspectorAt_6 : decode cX2_inspectorAt 6 = .ok (.getfield 36, 3) := by decide +kernel
theorem dX2_inspectorAt_9 : decode cX2_inspectorAt 9 = .ok (.if_icmp .ge 16, 3) := by decide +kernel
theorem dX2_inspectorAt_12 : decode cX2_inspectorAt 12 = .ok (.iload_n 1, 1) := by decide +kernel
theorem dX2_inspectorAt_13 : decode cX2_inspectorAt 13 = .ok (.aload_n 0, 1) := by decide +kernel
theorem dX2_inspectorAt_14 : decode cX2_inspectorAt 14 = .ok (.getfield 19, 3) := by decide +kernel
theorem dX2_inspectorAt_17 : decode cX2_inspectorAt 17 = .ok (.arraylength, 1) := by decide +kernel
theorem dX2_inspectorAt_18 : decode cX2_inspectorAt 18 = .ok (.if_icmp .ge 7, 3) := by decide +kernel
theorem dX2_inspectorAt_21 : decode cX2_inspectorAt 21 = .ok (.iconst 1, 1) := by decide +kernel
theorem dX2_inspectorAt_22 : decode cX2_inspectorAt 22 = .ok (.goto 4, 3) := by decide +kernel
theorem dX2_inspectorAt_25 : decode cX2_inspectorAt 25 = .ok (.iconst 0, 1) := by decide +kernel
theorem dX2_inspectorAt_26 : decode cX2_inspectorAt 26 = .ok (.istore_n 2, 1) := by decide +kernel
theorem dX2_inspectorAt_27 : decode cX2_inspectorAt 27 = .ok (.iload_n 2, 1) := by decide +kernel
theorem dX2_inspectorAt_28 : decode cX2_inspectorAt 28 = .ok (.ifCond .eq 12, 3) := by decide +kernel
theorem dX2_inspectorAt_31 : decode cX2_inspectorAt 31 = .ok (.aload_n 0, 1) := by decide +kernel
theorem dX2_inspectorAt_32 : decode cX2_inspectorAt 32 = .ok (.getfield 19, 3) := by decide +kernel
theorem dX2_inspectorAt_35 : decode cX2_inspectorAt 35 = .ok (.iload_n 1, 1) := by decide +kernel
theorem dX2_inspectorAt_36 : decode cX2_inspectorAt 36 = .ok (.aaload, 1) := by decide +kernel
theorem dX2_inspectorAt_37 : decode cX2_inspectorAt 37 = .ok (.goto 4, 3) := by decide +kernel
theorem dX2_inspectorAt_40 : decode cX2_inspectorAt 40 = .ok (.aconst_null, 1) := by decide +kernel
theorem dX2_inspectorAt_41 : decode cX2_inspectorAt 41 = .ok (.areturn, 1) := by decide +kernel
theorem dX2_settingAt_0 : decode cX2_settingAt 0 = .ok (.iload_n 1, 1) := by decide +kernel
theorem dX2_settingAt_1 : decode cX2_settingAt 1 = .ok (.ifCond .lt 16, 3) := by decide +kernel
theorem dX2_settingAt_4 : decode cX2_settingAt 4 = .ok (.iload_n 1, 1) := by decide +kernel
theorem dX2_settingAt_5 : decode cX2_settingAt 5 = .ok (.aload_n 0, 1) := by decide +kernel
theorem dX2_settingAt_6 : decode cX2_settingAt 6 = .ok (.getfield 23, 3) := by decide +kernel
theorem dX2_settingAt_9 : decode cX2_settingAt 9 = .ok (.arraylength, 1) := by decide +kernel
theorem dX2_settingAt_10 : decode cX2_settingAt 10 = .ok (.if_icmp .ge 7, 3) := by decide +kernel
theorem dX2_settingAt_13 : decode cX2_settingAt 13 = .ok (.iconst 1, 1) := by decide +kernel
theorem dX2_settingAt_14 : decode cX2_settingAt 14 = .ok (.goto 4, 3) := by decide +kernel
theorem dX2_settingAt_17 : decode cX2_settingAt 17 = .ok (.iconst 0, 1) := by decide +kernel
theorem dX2_settingAt_18 : decode cX2_settingAt 18 = .ok (.istore_n 2, 1) := by decide +kernel
theorem dX2_settingAt_19 : decode cX2_settingAt 19 = .ok (.iload_n 2, 1) := by decide +kernel
theorem dX2_settingAt_20 : decode cX2_settingAt 20 = .ok (.ifCond .eq 12, 3) := by decide +kernel
theorem dX2_settingAt_23 : decode cX2_settingAt 23 = .ok (.aload_n 0, 1) := by decide +kernel
theorem dX2_settingAt_24 : decode cX2_settingAt 24 = .ok (.getfield 23, 3) := by decide +kernel
theorem dX2_settingAt_27 : decode cX2_settingAt 27 = .ok (.iload_n 1, 1) := by decide +kernel
theorem dX2_settingAt_28 : decode cX2_settingAt 28 = .ok (.iaload, 1) := by decide +kernel
theorem dX2_settingAt_29 : decode cX2_settingAt 29 = .ok (.goto 5, 3) := by decide +kernel
theorem dX2_settingAt_32 : decode cX2_settingAt 32 = .ok (.ldc 67, 2) := by decide +kernel
theorem dX2_settingAt_34 : decode cX2_settingAt 34 = .ok (.ireturn, 1) := by decide +kernel
theorem dX2_balanceOf_0 : decode cX2_balanceOf 0 = .ok (.iload_n 1, 1) := by decide +kernel
theorem dX2_balanceOf_1 : decode cX2_balanceOf 1 = .ok (.ifCond .lt 16, 3) := by decide +kernel
theorem dX2_balanceOf_4 : decode cX2_balanceOf 4 = .ok (.iload_n 1, 1) := by decide +kernel
theorem dX2_balanceOf_5 : decode cX2_balanceOf 5 = .ok (.aload_n 0, 1) := by decide +kernel
theorem dX2_balanceOf_6 : decode cX2_balanceOf 6 = .ok (.getfield 27, 3) := by decide +kernel
theorem dX2_balanceOf_9 : decode cX2_balanceOf 9 = .ok (.arraylength, 1) := by decide +kernel
theorem dX2_balanceOf_10 : decode cX2_balanceOf 10 = .ok (.if_icmp .ge 7, 3) := by decide +kernel
theorem dX2_balanceOf_13 : decode cX2_balanceOf 13 = .ok (.iconst 1, 1) := by decide +kernel
theorem dX2_balanceOf_14 : decode cX2_balanceOf 14 = .ok (.goto 4, 3) := by decide +kernel
theorem dX2_balanceOf_17 : decode cX2_balanceOf 17 = .ok (.iconst 0, 1) := by decide +kernel
theorem dX2_balanceOf_18 : decode cX2_balanceOf 18 = .ok (.istore_n 2, 1) := by decide +kernel
theorem dX2_balanceOf_19 : decode cX2_balanceOf 19 = .ok (.iload_n 2, 1) := by decide +kernel
theorem dX2_balanceOf_20 : decode cX2_balanceOf 20 = .ok (.ifCond .eq 12, 3) := by decide +kernel
theorem dX2_balanceOf_23 : decode cX2_balanceOf 23 = .ok (.aload_n 0, 1) := by decide +kernel
theorem dX2_balanceOf_24 : decode cX2_balanceOf 24 = .ok (.getfield 27, 3) := by decide +kernel
theorem dX2_balanceOf_27 : decode cX2_balanceOf 27 = .ok (.iload_n 1, 1) := by decide +kernel
theorem dX2_balanceOf_28 : decode cX2_balanceOf 28 = .ok (.iaload, 1) := by decide +kernel
theorem dX2_balanceOf_29 : decode cX2_balanceOf 29 = .ok (.goto 5, 3) := by decide +kernel
theorem dX2_balanceOf_32 : decode cX2_balanceOf 32 = .ok (.ldc 67, 2) := by decide +kernel
theorem dX2_balanceOf_34 : decode cX2_balanceOf 34 = .ok (.ireturn, 1) := by decide +kernel
theorem dX2_ownerPays_0 : decode cX2_ownerPays 0 = .ok (.iload_n 1, 1) := by decide +kernel
theorem dX2_ownerPays_1 : decode cX2_ownerPays 1 = .ok (.ifCond .lt 21, 3) := by decide +kernel
theorem dX2_ownerPays_4 : decode cX2_ownerPays 4 = .ok (.iload_n 1, 1) := by decide +kernel
theorem dX2_ownerPays_5 : decode cX2_ownerPays 5 = .ok (.aload_n 0, 1) := by decide +kernel
theorem dX2_ownerPays_6 : decode cX2_ownerPays 6 = .ok (.getfield 27, 3) := by decide +kernel
theorem dX2_ownerPays_9 : decode cX2_ownerPays 9 = .ok (.arraylength, 1) := by decide +kernel
theorem dX2_ownerPays_10 : decode cX2_ownerPays 10 = .ok (.if_icmp .ge 12, 3) := by decide +kernel
theorem dX2_ownerPays_13 : decode cX2_ownerPays 13 = .ok (.iconst 3, 1) := by decide +kernel
theorem dX2_ownerPays_14 : decode cX2_ownerPays 14 = .ok (.aload_n 0, 1) := by decide +kernel
theorem dX2_ownerPays_15 : decode cX2_ownerPays 15 = .ok (.getfield 27, 3) := by decide +kernel
theorem dX2_ownerPays_18 : decode cX2_ownerPays 18 = .ok (.arraylength, 1) := by decide +kernel
theorem dX2_ownerPays_19 : decode cX2_ownerPays 19 = .ok (.if_icmp .lt 4, 3) := by decide +kernel
theorem dX2_ownerPays_22 : decode cX2_ownerPays 22 = .ok (.return_, 1) := by decide +kernel
theorem dX2_ownerPays_23 : decode cX2_ownerPays 23 = .ok (.aload_n 0, 1) := by decide +kernel
theorem dX2_ownerPays_24 : decode cX2_ownerPays 24 = .ok (.getfield 27, 3) := by decide +kernel
theorem dX2_ownerPays_27 : decode cX2_ownerPays 27 = .ok (.iconst 3, 1) := by decide +kernel
theorem dX2_ownerPays_28 : decode cX2_ownerPays 28 = .ok (.dup2, 1) := by decide +kernel
theorem dX2_ownerPays_29 : decode cX2_ownerPays 29 = .ok (.iaload, 1) := by decide +kernel
theorem dX2_ownerPays_30 : decode cX2_ownerPays 30 = .ok (.iload_n 2, 1) := by decide +kernel
theorem dX2_ownerPays_31 : decode cX2_ownerPays 31 = .ok (.isub, 1) := by decide +kernel
theorem dX2_ownerPays_32 : decode cX2_ownerPays 32 = .ok (.iastore, 1) := by decide +kernel
theorem dX2_ownerPays_33 : decode cX2_ownerPays 33 = .ok (.aload_n 0, 1) := by decide +kernel
theorem dX2_ownerPays_34 : decode cX2_ownerPays 34 = .ok (.getfield 27, 3) := by decide +kernel
theorem dX2_ownerPays_37 : decode cX2_ownerPays 37 = .ok (.iload_n 1, 1) := by decide +kernel
theorem dX2_ownerPays_38 : decode cX2_ownerPays 38 = .ok (.dup2, 1) := by decide +kernel
theorem dX2_ownerPays_39 : decode cX2_ownerPays 39 = .ok (.iaload, 1) := by decide +kernel
theorem dX2_ownerPays_40 : decode cX2_ownerPays 40 = .ok (.iload_n 2, 1) := by decide +kernel
theorem dX2_ownerPays_41 : decode cX2_ownerPays 41 = .ok (.iadd, 1) := by decide +kernel
theorem dX2_ownerPays_42 : decode cX2_ownerPays 42 = .ok (.iastore, 1) := by decide +kernel
theorem dX2_ownerPays_43 : decode cX2_ownerPays 43 = .ok (.return_, 1) := by decide +kernel
theorem dX2_addBoiler_0 : decode cX2_addBoiler 0 = .ok (.iload_n 1, 1) := by decide +kernel
theorem dX2_addBoiler_1 : decode cX2_addBoiler 1 = .ok (.iconst 2, 1) := by decide +kernel
theorem dX2_addBoiler_2 : decode cX2_addBoiler 2 = .ok (.if_icmp .lt 9, 3) := by decide +kernel
theorem dX2_addBoiler_5 : decode cX2_addBoiler 5 = .ok (.iload_n 1, 1) := by decide +kernel
theorem dX2_addBoiler_6 : decode cX2_addBoiler 6 = .ok (.bipush 40, 2) := by decide +kernel
theorem dX2_addBoiler_8 : decode cX2_addBoiler 8 = .ok (.if_icmp .le 6, 3) := by decide +kernel
theorem dX2_addBoiler_11 : decode cX2_addBoiler 11 = .ok (.ldc 67, 2) := by decide +kernel
theorem dX2_addBoiler_13 : decode cX2_addBoiler 13 = .ok (.ireturn, 1) := by decide +kernel
theorem dX2_addBoiler_14 : decode cX2_addBoiler 14 = .ok (.aload_n 0, 1) := by decide +kernel
theorem dX2_addBoiler_15 : decode cX2_addBoiler 15 = .ok (.getfield 32, 3) := by decide +kernel
theorem dX2_addBoiler_18 : decode cX2_addBoiler 18 = .ok (.bipush 8, 2) := by decide +kernel
theorem dX2_addBoiler_20 : decode cX2_addBoiler 20 = .ok (.if_icmp .lt 6, 3) := by decide +kernel
theorem dX2_addBoiler_23 : decode cX2_addBoiler 23 = .ok (.ldc 68, 2) := by decide +kernel
theorem dX2_addBoiler_25 : decode cX2_addBoiler 25 = .ok (.ireturn, 1) := by decide +kernel
theorem dX2_addBoiler_26 : decode cX2_addBoiler 26 = .ok (.aload_n 0, 1) := by decide +kernel
theorem dX2_addBoiler_27 : decode cX2_addBoiler 27 = .ok (.getfield 32, 3) := by decide +kernel
theorem dX2_addBoiler_30 : decode cX2_addBoiler 30 = .ok (.istore_n 2, 1) := by decide +kernel
theorem dX2_addBoiler_31 : decode cX2_addBoiler 31 = .ok (.aload_n 0, 1) := by decide +kernel
theorem dX2_addBoiler_32 : decode cX2_addBoiler 32 = .ok (.dup, 1) := by decide +kernel
theorem dX2_addBoiler_33 : decode cX2_addBoiler 33 = .ok (.getfield 32, 3) := by decide +kernel
theorem dX2_addBoiler_36 : decode cX2_addBoiler 36 = .ok (.iconst 1, 1) := by decide +kernel
theorem dX2_addBoiler_37 : decode cX2_addBoiler 37 = .ok (.iadd, 1) := by decide +kernel
theorem dX2_addBoiler_38 : decode cX2_addBoiler 38 = .ok (.putfield 32, 3) := by decide +kernel
theorem dX2_addBoiler_41 : decode cX2_addBoiler 41 = .ok (.aload_n 0, 1) := by decide +kernel
theorem dX2_addBoiler_42 : decode cX2_addBoiler 42 = .ok (.iload_n 2, 1) := by decide +kernel
theorem dX2_addBoiler_43 : decode cX2_addBoiler 43 = .ok (.invokevirtual 52, 3) := by decide +kernel
theorem dX2_addBoiler_46 : decode cX2_addBoiler 46 = .ok (.astore_n 3, 1) := by decide +kernel
theorem dX2_addBoiler_47 : decode cX2_addBoiler 47 = .ok (.aload_n 3, 1) := by decide +kernel
theorem dX2_addBoiler_48 : decode cX2_addBoiler 48 = .ok (.ifnull 8, 3) := by decide +kernel
theorem dX2_addBoiler_51 : decode cX2_addBoiler 51 = .ok (.aload_n 3, 1) := by decide +kernel
theorem dX2_addBoiler_52 : decode cX2_addBoiler 52 = .ok (.iload_n 1, 1) := by decide +kernel
theorem dX2_addBoiler_53 : decode cX2_addBoiler 53 = .ok (.invokevirtual 69, 3) := by decide +kernel
theorem dX2_addBoiler_56 : decode cX2_addBoiler 56 = .ok (.iload_n 2, 1) := by decide +kernel
theorem dX2_addBoiler_57 : decode cX2_addBoiler 57 = .ok (.ireturn, 1) := by decide +kernel
theorem dX2_addInspector_0 : decode cX2_addInspector 0 = .ok (.iload_n 1, 1) := by decide +kernel
theorem dX2_addInspector_1 : decode cX2_addInspector 1 = .ok (.invokestatic 73, 3) := by decide +kernel
theorem dX2_addInspector_4 : decode cX2_addInspector 4 = .ok (.ifCond .eq 13, 3) := by decide +kernel
theorem dX2_addInspector_7 : decode cX2_addInspector 7 = .ok (.iload_n 2, 1) := by decide +kernel
theorem dX2_addInspector_8 : decode cX2_addInspector 8 = .ok (.iconst 1, 1) := by decide +kernel
theorem dX2_addInspector_9 : decode cX2_addInspector 9 = .ok (.if_icmp .lt 8, 3) := by decide +kernel
theorem dX2_addInspector_12 : decode cX2_addInspector 12 = .ok (.iload_n 2, 1) := by decide +kernel
theorem dX2_addInspector_13 : decode cX2_addInspector 13 = .ok (.iconst 3, 1) := by decide +kernel
theorem dX2_addInspector_14 : decode cX2_addInspector 14 = .ok (.if_icmp .le 6, 3) := by decide +kernel
theorem dX2_addInspector_17 : decode cX2_addInspector 17 = .ok (.ldc 67, 2) := by decide +kernel
theorem dX2_addInspector_19 : decode cX2_addInspector 19 = .ok (.ireturn, 1) := by decide +kernel
theorem dX2_addInspector_20 : decode cX2_addInspector 20 = .ok (.aload_n 0, 1) := by decide +kernel
theorem dX2_addInspector_21 : decode cX2_addInspector 21 = .ok (.getfield 36, 3) := by decide +kernel
theorem dX2_addInspector_24 : decode cX2_addInspector 24 = .ok (.bipush 6, 2) := by decide +kernel
theorem dX2_addInspector_26 : decode cX2_addInspector 26 = .ok (.if_icmp .lt 6, 3) := by decide +kernel
theorem dX2_addInspector_29 : decode cX2_addInspector 29 = .ok (.ldc 68, 2) := by decide +kernel
theorem dX2_addInspector_31 : decode cX2_addInspector 31 = .ok (.ireturn, 1) := by decide +kernel
theorem dX2_addInspector_32 : decode cX2_addInspector 32 = .ok (.aload_n 0, 1) := by decide +kernel
theorem dX2_addInspector_33 : decode cX2_addInspector 33 = .ok (.getfield 36, 3) := by decide +kernel
theorem dX2_addInspector_36 : decode cX2_addInspector 36 = .ok (.istore_n 3, 1) := by decide +kernel
theorem dX2_addInspector_37 : decode cX2_addInspector 37 = .ok (.aload_n 0, 1) := by decide +kernel
theorem dX2_addInspector_38 : decode cX2_addInspector 38 = .ok (.dup, 1) := by decide +kernel
theorem dX2_addInspector_39 : decode cX2_addInspector 39 = .ok (.getfield 36, 3) := by decide +kernel
theorem dX2_addInspector_42 : decode cX2_addInspector 42 = .ok (.iconst 1, 1) := by decide +kernel
theorem dX2_addInspector_43 : decode cX2_addInspector 43 = .ok (.iadd, 1) := by decide +kernel
theorem dX2_addInspector_44 : decode cX2_addInspector 44 = .ok (.putfield 36, 3) := by decide +kernel
theorem dX2_addInspector_47 : decode cX2_addInspector 47 = .ok (.aload_n 0, 1) := by decide +kernel
theorem dX2_addInspector_48 : decode cX2_addInspector 48 = .ok (.iload_n 3, 1) := by decide +kernel
theorem dX2_addInspector_49 : decode cX2_addInspector 49 = .ok (.invokevirtual 60, 3) := by decide +kernel
theorem dX2_addInspector_52 : decode cX2_addInspector 52 = .ok (.astore 4, 2) := by decide +kernel
theorem dX2_addInspector_54 : decode cX2_addInspector 54 = .ok (.aload 4, 2) := by decide +kernel
theorem dX2_addInspector_56 : decode cX2_addInspector 56 = .ok (.ifnull 10, 3) := by decide +kernel
theorem dX2_addInspector_59 : decode cX2_addInspector 59 = .ok (.aload 4, 2) := by decide +kernel
theorem dX2_addInspector_61 : decode cX2_addInspector 61 = .ok (.iload_n 1, 1) := by decide +kernel
theorem dX2_addInspector_62 : decode cX2_addInspector 62 = .ok (.iload_n 2, 1) := by decide +kernel
theorem dX2_addInspector_63 : decode cX2_addInspector 63 = .ok (.invokevirtual 77, 3) := by decide +kernel
theorem dX2_addInspector_66 : decode cX2_addInspector 66 = .ok (.iload_n 3, 1) := by decide +kernel
theorem dX2_addInspector_67 : decode cX2_addInspector 67 = .ok (.ireturn, 1) := by decide +kernel
theorem dX2_changePressure_0 : decode cX2_changePressure 0 = .ok (.aload_n 0, 1) := by decide +kernel
theorem dX2_changePressure_1 : decode cX2_changePressure 1 = .ok (.iload_n 1, 1) := by decide +kernel
theorem dX2_changePressure_2 : decode cX2_changePressure 2 = .ok (.invokevirtual 52, 3) := by decide +kernel
theorem dX2_changePressure_5 : decode cX2_changePressure 5 = .ok (.astore_n 3, 1) := by decide +kernel
theorem dX2_changePressure_6 : decode cX2_changePressure 6 = .ok (.aload_n 3, 1) := by decide +kernel
theorem dX2_changePressure_7 : decode cX2_changePressure 7 = .ok (.ifnull 16, 3) := by decide +kernel
theorem dX2_changePressure_10 : decode cX2_changePressure 10 = .ok (.iload_n 2, 1) := by decide +kernel
theorem dX2_changePressure_11 : decode cX2_changePressure 11 = .ok (.iconst 1, 1) := by decide +kernel
theorem dX2_changePressure_12 : decode cX2_changePressure 12 = .ok (.if_icmp .lt 11, 3) := by decide +kernel
theorem dX2_changePressure_15 : decode cX2_changePressure 15 = .ok (.iload_n 2, 1) := by decide +kernel
theorem dX2_changePressure_16 : decode cX2_changePressure 16 = .ok (.aload_n 3, 1) := by decide +kernel
theorem dX2_changePressure_17 : decode cX2_changePressure 17 = .ok (.getfield 80, 3) := by decide +kernel
theorem dX2_changePressure_20 : decode cX2_changePressure 20 = .ok (.if_icmp .le 6, 3) := by decide +kernel
theorem dX2_changePressure_23 : decode cX2_changePressure 23 = .ok (.ldc 67, 2) := by decide +kernel
theorem dX2_changePressure_25 : decode cX2_changePressure 25 = .ok (.ireturn, 1) := by decide +kernel
theorem dX2_changePressure_26 : decode cX2_changePressure 26 = .ok (.aload_n 3, 1) := by decide +kernel
theorem dX2_changePressure_27 : decode cX2_changePressure 27 = .ok (.getfield 83, 3) := by decide +kernel
theorem dX2_changePressure_30 : decode cX2_changePressure 30 = .ok (.iconst 1, 1) := by decide +kernel
theorem dX2_changePressure_31 : decode cX2_changePressure 31 = .ok (.if_icmp .ne 14, 3) := by decide +kernel
theorem dX2_changePressure_34 : decode cX2_changePressure 34 = .ok (.iload_n 2, 1) := by decide +kernel
theorem dX2_changePressure_35 : decode cX2_changePressure 35 = .ok (.aload_n 3, 1) := by decide +kernel
theorem dX2_changePressure_36 : decode cX2_changePressure 36 = .ok (.getfield 86, 3) := by decide +kernel
theorem dX2_changePressure_39 : decode cX2_changePressure 39 = .ok (.if_icmp .le 6, 3) := by decide +kernel
theorem dX2_changePressure_42 : decode cX2_changePressure 42 = .ok (.ldc 89, 2) := by decide +kernel
theorem dX2_changePressure_44 : decode cX2_changePressure 44 = .ok (.ireturn, 1) := by decide +kernel
theorem dX2_changePressure_45 : decode cX2_changePressure 45 = .ok (.aload_n 3, 1) := by decide +kernel
theorem dX2_changePressure_46 : decode cX2_changePressure 46 = .ok (.getfield 90, 3) := by decide +kernel
theorem dX2_changePressure_49 : decode cX2_changePressure 49 = .ok (.istore 4, 2) := by decide +kernel
theorem dX2_changePressure_51 : decode cX2_changePressure 51 = .ok (.aload_n 3, 1) := by decide +kernel
theorem dX2_changePressure_52 : decode cX2_changePressure 52 = .ok (.iload_n 2, 1) := by decide +kernel
theorem dX2_changePressure_53 : decode cX2_changePressure 53 = .ok (.putfield 90, 3) := by decide +kernel
theorem dX2_changePressure_56 : decode cX2_changePressure 56 = .ok (.iload 4, 2) := by decide +kernel
theorem dX2_changePressure_58 : decode cX2_changePressure 58 = .ok (.ireturn, 1) := by decide +kernel
theorem dX2_examine_0 : decode cX2_examine 0 = .ok (.aload_n 0, 1) := by decide +kernel
theorem dX2_examine_1 : decode cX2_examine 1 = .ok (.iload_n 1, 1) := by decide +kernel
theorem dX2_examine_2 : decode cX2_examine 2 = .ok (.invokevirtual 52, 3) := by decide +kernel
theorem dX2_examine_5 : decode cX2_examine 5 = .ok (.astore_n 3, 1) := by decide +kernel
theorem dX2_examine_6 : decode cX2_examine 6 = .ok (.aload_n 0, 1) := by decide +kernel
theorem dX2_examine_7 : decode cX2_examine 7 = .ok (.iload_n 2, 1) := by decide +kernel
theorem dX2_examine_8 : decode cX2_examine 8 = .ok (.invokevirtual 60, 3) := by decide +kernel
theorem dX2_examine_11 : decode cX2_examine 11 = .ok (.astore 4, 2) := by decide +kernel
theorem dX2_examine_13 : decode cX2_examine 13 = .ok (.aload_n 3, 1) := by decide +kernel
theorem dX2_examine_14 : decode cX2_examine 14 = .ok (.ifnull 8, 3) := by decide +kernel
theorem dX2_examine_17 : decode cX2_examine 17 = .ok (.aload 4, 2) := by decide +kernel
theorem dX2_examine_19 : decode cX2_examine 19 = .ok (.ifnonnull 6, 3) := by decide +kernel
theorem dX2_examine_22 : decode cX2_examine 22 = .ok (.ldc 67, 2) := by decide +kernel
theorem dX2_examine_24 : decode cX2_examine 24 = .ok (.ireturn, 1) := by decide +kernel
theorem dX2_examine_25 : decode cX2_examine 25 = .ok (.aload_n 3, 1) := by decide +kernel
theorem dX2_examine_26 : decode cX2_examine 26 = .ok (.aload 4, 2) := by decide +kernel
theorem dX2_examine_28 : decode cX2_examine 28 = .ok (.invokevirtual 93, 3) := by decide +kernel
theorem dX2_examine_31 : decode cX2_examine 31 = .ok (.ifCond .eq 6, 3) := by decide +kernel
theorem dX2_examine_34 : decode cX2_examine 34 = .ok (.ldc 89, 2) := by decide +kernel
theorem dX2_examine_36 : decode cX2_examine 36 = .ok (.ireturn, 1) := by decide +kernel
theorem dX2_examine_37 : decode cX2_examine 37 = .ok (.aload_n 0, 1) := by decide +kernel
theorem dX2_examine_38 : decode cX2_examine 38 = .ok (.aload_n 3, 1) := by decide +kernel
theorem dX2_examine_39 : decode cX2_examine 39 = .ok (.aload 4, 2) := by decide +kernel
theorem dX2_examine_41 : decode cX2_examine 41 = .ok (.getfield 97, 3) := by decide +kernel
theorem dX2_examine_44 : decode cX2_examine 44 = .ok (.invokevirtual 100, 3) := by decide +kernel
theorem dX2_examine_47 : decode cX2_examine 47 = .ok (.istore 5, 2) := by decide +kernel
theorem dX2_examine_49 : decode cX2_examine 49 = .ok (.iload 5, 2) := by decide +kernel
theorem dX2_examine_51 : decode cX2_examine 51 = .ok (.ifCond .le 31, 3) := by decide +kernel
theorem dX2_examine_54 : decode cX2_examine 54 = .ok (.aload_n 0, 1) := by decide +kernel
theorem dX2_examine_55 : decode cX2_examine 55 = .ok (.aload_n 3, 1) := by decide +kernel
theorem dX2_examine_56 : decode cX2_examine 56 = .ok (.aload 4, 2) := by decide +kernel
theorem dX2_examine_58 : decode cX2_examine 58 = .ok (.getfield 97, 3) := by decide +kernel
theorem dX2_examine_61 : decode cX2_examine 61 = .ok (.invokevirtual 104, 3) := by decide +kernel
theorem dX2_examine_64 : decode cX2_examine 64 = .ok (.istore 6, 2) := by decide +kernel
theorem dX2_examine_66 : decode cX2_examine 66 = .ok (.aload_n 3, 1) := by decide +kernel
theorem dX2_examine_67 : decode cX2_examine 67 = .ok (.aload 4, 2) := by decide +kernel
theorem dX2_examine_69 : decode cX2_examine 69 = .ok (.getfield 97, 3) := by decide +kernel
theorem dX2_examine_72 : decode cX2_examine 72 = .ok (.iload 5, 2) := by decide +kernel
theorem dX2_examine_74 : decode cX2_examine 74 = .ok (.iload 6, 2) := by decide +kernel
theorem dX2_examine_76 : decode cX2_examine 76 = .ok (.invokevirtual 107, 3) := by decide +kernel
theorem dX2_examine_79 : decode cX2_examine 79 = .ok (.goto 7, 3) := by decide +kernel
theorem dX2_examine_82 : decode cX2_examine 82 = .ok (.aload_n 3, 1) := by decide +kernel
theorem dX2_examine_83 : decode cX2_examine 83 = .ok (.invokevirtual 111, 3) := by decide +kernel
theorem dX2_examine_86 : decode cX2_examine 86 = .ok (.aload 4, 2) := by decide +kernel
theorem dX2_examine_88 : decode cX2_examine 88 = .ok (.iload 5, 2) := by decide +kernel
theorem dX2_examine_90 : decode cX2_examine 90 = .ok (.ifCond .le 7, 3) := by decide +kernel
theorem dX2_examine_93 : decode cX2_examine 93 = .ok (.iconst 1, 1) := by decide +kernel
theorem dX2_examine_94 : decode cX2_examine 94 = .ok (.goto 4, 3) := by decide +kernel
theorem dX2_examine_97 : decode cX2_examine 97 = .ok (.iconst 0, 1) := by decide +kernel
theorem dX2_examine_98 : decode cX2_examine 98 = .ok (.invokevirtual 114, 3) := by decide +kernel
theorem dX2_examine_101 : decode cX2_examine 101 = .ok (.aload_n 0, 1) := by decide +kernel
theorem dX2_examine_102 : decode cX2_examine 102 = .ok (.aload 4, 2) := by decide +kernel
theorem dX2_examine_104 : decode cX2_examine 104 = .ok (.getfield 97, 3) := by decide +kernel
theorem dX2_examine_107 : decode cX2_examine 107 = .ok (.aload_n 0, 1) := by decide +kernel
theorem dX2_examine_108 : decode cX2_examine 108 = .ok (.iconst 2, 1) := by decide +kernel
theorem dX2_examine_109 : decode cX2_examine 109 = .ok (.invokevirtual 118, 3) := by decide +kernel
theorem dX2_examine_112 : decode cX2_examine 112 = .ok (.invokevirtual 122, 3) := by decide +kernel
theorem dX2_examine_115 : decode cX2_examine 115 = .ok (.iload 5, 2) := by decide +kernel
theorem dX2_examine_117 : decode cX2_examine 117 = .ok (.ireturn, 1) := by decide +kernel
theorem dX2_light_0 : decode cX2_light 0 = .ok (.aload_n 0, 1) := by decide +kernel
theorem dX2_light_1 : decode cX2_light 1 = .ok (.iload_n 1, 1) := by decide +kernel
theorem dX2_light_2 : decode cX2_light 2 = .ok (.invokevirtual 52, 3) := by decide +kernel
theorem dX2_light_5 : decode cX2_light 5 = .ok (.astore_n 2, 1) := by decide +kernel
theorem dX2_light_6 : decode cX2_light 6 = .ok (.aload_n 2, 1) := by decide +kernel
theorem dX2_light_7 : decode cX2_light 7 = .ok (.ifnonnull 6, 3) := by decide +kernel
theorem dX2_light_10 : decode cX2_light 10 = .ok (.ldc 67, 2) := by decide +kernel
theorem dX2_light_12 : decode cX2_light 12 = .ok (.ireturn, 1) := by decide +kernel
theorem dX2_light_13 : decode cX2_light 13 = .ok (.aload_n 2, 1) := by decide +kernel
theorem dX2_light_14 : decode cX2_light 14 = .ok (.aload_n 0, 1) := by decide +kernel
theorem dX2_light_15 : decode cX2_light 15 = .ok (.getfield 39, 3) := by decide +kernel
theorem dX2_light_18 : decode cX2_light 18 = .ok (.invokevirtual 125, 3) := by decide +kernel
theorem dX2_light_21 : decode cX2_light 21 = .ok (.ifCond .eq 6, 3) := by decide +kernel
theorem dX2_light_24 : decode cX2_light 24 = .ok (.ldc 89, 2) := by decide +kernel
theorem dX2_light_26 : decode cX2_light 26 = .ok (.ireturn, 1) := by decide +kernel
theorem dX2_light_27 : decode cX2_light 27 = .ok (.aload_n 2, 1) := by decide +kernel
theorem dX2_light_28 : decode cX2_light 28 = .ok (.iconst 1, 1) := by decide +kernel
theorem dX2_light_29 : decode cX2_light 29 = .ok (.putfield 83, 3) := by decide +kernel
theorem dX2_light_32 : decode cX2_light 32 = .ok (.aload_n 2, 1) := by decide +kernel
theorem dX2_light_33 : decode cX2_light 33 = .ok (.getfield 128, 3) := by decide +kernel
theorem dX2_light_36 : decode cX2_light 36 = .ok (.aload_n 0, 1) := by decide +kernel
theorem dX2_light_37 : decode cX2_light 37 = .ok (.getfield 39, 3) := by decide +kernel
theorem dX2_light_40 : decode cX2_light 40 = .ok (.isub, 1) := by decide +kernel
theorem dX2_light_41 : decode cX2_light 41 = .ok (.iconst 1, 1) := by decide +kernel
theorem dX2_light_42 : decode cX2_light 42 = .ok (.iadd, 1) := by decide +kernel
theorem dX2_light_43 : decode cX2_light 43 = .ok (.ireturn, 1) := by decide +kernel
theorem dX2_putOut_0 : decode cX2_putOut 0 = .ok (.aload_n 0, 1) := by decide +kernel
theorem dX2_putOut_1 : decode cX2_putOut 1 = .ok (.iload_n 1, 1) := by decide +kernel
theorem dX2_putOut_2 : decode cX2_putOut 2 = .ok (.invokevirtual 52, 3) := by decide +kernel
theorem dX2_putOut_5 : decode cX2_putOut 5 = .ok (.astore_n 2, 1) := by decide +kernel
theorem dX2_putOut_6 : decode cX2_putOut 6 = .ok (.aload_n 2, 1) := by decide +kernel
theorem dX2_putOut_7 : decode cX2_putOut 7 = .ok (.ifnonnull 6, 3) := by decide +kernel
theorem dX2_putOut_10 : decode cX2_putOut 10 = .ok (.ldc 67, 2) := by decide +kernel
theorem dX2_putOut_12 : decode cX2_putOut 12 = .ok (.ireturn, 1) := by decide +kernel
theorem dX2_putOut_13 : decode cX2_putOut 13 = .ok (.aload_n 2, 1) := by decide +kernel
theorem dX2_putOut_14 : decode cX2_putOut 14 = .ok (.getfield 83, 3) := by decide +kernel
theorem dX2_putOut_17 : decode cX2_putOut 17 = .ok (.iconst 1, 1) := by decide +kernel
theorem dX2_putOut_18 : decode cX2_putOut 18 = .ok (.if_icmp .eq 6, 3) := by decide +kernel
theorem dX2_putOut_21 : decode cX2_putOut 21 = .ok (.ldc 89, 2) := by decide +kernel
theorem dX2_putOut_23 : decode cX2_putOut 23 = .ok (.ireturn, 1) := by decide +kernel
theorem dX2_putOut_24 : decode cX2_putOut 24 = .ok (.aload_n 2, 1) := by decide +kernel
theorem dX2_putOut_25 : decode cX2_putOut 25 = .ok (.invokevirtual 131, 3) := by decide +kernel
theorem dX2_putOut_28 : decode cX2_putOut 28 = .ok (.aload_n 2, 1) := by decide +kernel
theorem dX2_putOut_29 : decode cX2_putOut 29 = .ok (.getfield 134, 3) := by decide +kernel
theorem dX2_putOut_32 : decode cX2_putOut 32 = .ok (.ireturn, 1) := by decide +kernel
theorem dX2_planShutdown_0 : decode cX2_planShutdown 0 = .ok (.aload_n 0, 1) := by decide +kernel
theorem dX2_planShutdown_1 : decode cX2_planShutdown 1 = .ok (.iload_n 1, 1) := by decide +kernel
theorem dX2_planShutdown_2 : decode cX2_planShutdown 2 = .ok (.invokevirtual 52, 3) := by decide +kernel
theorem dX2_planShutdown_5 : decode cX2_planShutdown 5 = .ok (.astore 4, 2) := by decide +kernel
theorem dX2_planShutdown_7 : decode cX2_planShutdown 7 = .ok (.aload 4, 2) := by decide +kernel
theorem dX2_planShutdown_9 : decode cX2_planShutdown 9 = .ok (.ifnull 18, 3) := by decide +kernel
theorem dX2_planShutdown_12 : decode cX2_planShutdown 12 = .ok (.iload_n 2, 1) := by decide +kernel
theorem dX2_planShutdown_13 : decode cX2_planShutdown 13 = .ok (.aload_n 0, 1) := by decide +kernel
theorem dX2_planShutdown_14 : decode cX2_planShutdown 14 = .ok (.getfield 39, 3) := by decide +kernel
theorem dX2_planShutdown_17 : decode cX2_planShutdown 17 = .ok (.if_icmp .lt 10, 3) := by decide +kernel
theorem dX2_planShutdown_20 : decode cX2_planShutdown 20 = .ok (.iload_n 2, 1) := by decide +kernel
theorem dX2_planShutdown_21 : decode cX2_planShutdown 21 = .ok (.sipush 9999, 3) := by decide +kernel
theorem dX2_planShutdown_24 : decode cX2_planShutdown 24 = .ok (.if_icmp .le 6, 3) := by decide +kernel
theorem dX2_planShutdown_27 : decode cX2_planShutdown 27 = .ok (.ldc 67, 2) := by decide +kernel
theorem dX2_planShutdown_29 : decode cX2_planShutdown 29 = .ok (.ireturn, 1) := by decide +kernel
theorem dX2_planShutdown_30 : decode cX2_planShutdown 30 = .ok (.iload_n 3, 1) := by decide +kernel
theorem dX2_planShutdown_31 : decode cX2_planShutdown 31 = .ok (.iconst 1, 1) := by decide +kernel
theorem dX2_planShutdown_32 : decode cX2_planShutdown 32 = .ok (.if_icmp .lt 9, 3) := by decide +kernel
theorem dX2_planShutdown_35 : decode cX2_planShutdown 35 = .ok (.iload_n 3, 1) := by decide +kernel
theorem dX2_planShutdown_36 : decode cX2_planShutdown 36 = .ok (.bipush 20, 2) := by decide +kernel
theorem dX2_planShutdown_38 : decode cX2_planShutdown 38 = .ok (.if_icmp .le 6, 3) := by decide +kernel
theorem dX2_planShutdown_41 : decode cX2_planShutdown 41 = .ok (.ldc 67, 2) := by decide +kernel
theorem dX2_planShutdown_43 : decode cX2_planShutdown 43 = .ok (.ireturn, 1) := by decide +kernel
theorem dX2_planShutdown_44 : decode cX2_planShutdown 44 = .ok (.iload_n 2, 1) := by decide +kernel
theorem dX2_planShutdown_45 : decode cX2_planShutdown 45 = .ok (.aload_n 0, 1) := by decide +kernel
theorem dX2_planShutdown_46 : decode cX2_planShutdown 46 = .ok (.getfield 39, 3) := by decide +kernel
theorem dX2_planShutdown_49 : decode cX2_planShutdown 49 = .ok (.if_icmp .ne 15, 3) := by decide +kernel
theorem dX2_planShutdown_52 : decode cX2_planShutdown 52 = .ok (.aload 4, 2) := by decide +kernel
theorem dX2_planShutdown_54 : decode cX2_planShutdown 54 = .ok (.getfield 83, 3) := by decide +kernel
theorem dX2_planShutdown_57 : decode cX2_planShutdown 57 = .ok (.iconst 1, 1) := by decide +kernel
theorem dX2_planShutdown_58 : decode cX2_planShutdown 58 = .ok (.if_icmp .ne 6, 3) := by decide +kernel
theorem dX2_planShutdown_61 : decode cX2_planShutdown 61 = .ok (.ldc 89, 2) := by decide +kernel
theorem dX2_planShutdown_63 : decode cX2_planShutdown 63 = .ok (.ireturn, 1) := by decide +kernel
theorem dX2_planShutdown_64 : decode cX2_planShutdown 64 = .ok (.aload 4, 2) := by decide +kernel
theorem dX2_planShutdown_66 : decode cX2_planShutdown 66 = .ok (.iconst 1, 1) := by decide +kernel
theorem dX2_planShutdown_67 : decode cX2_planShutdown 67 = .ok (.putfield 137, 3) := by decide +kernel
theorem dX2_planShutdown_70 : decode cX2_planShutdown 70 = .ok (.aload 4, 2) := by decide +kernel
theorem dX2_planShutdown_72 : decode cX2_planShutdown 72 = .ok (.iload_n 2, 1) := by decide +kernel
theorem dX2_planShutdown_73 : decode cX2_planShutdown 73 = .ok (.putfield 141, 3) := by decide +kernel
theorem dX2_planShutdown_76 : decode cX2_planShutdown 76 = .ok (.aload 4, 2) := by decide +kernel
theorem dX2_planShutdown_78 : decode cX2_planShutdown 78 = .ok (.iload_n 2, 1) := by decide +kernel
theorem dX2_planShutdown_79 : decode cX2_planShutdown 79 = .ok (.iload_n 3, 1) := by decide +kernel
theorem dX2_planShutdown_80 : decode cX2_planShutdown 80 = .ok (.iadd, 1) := by decide +kernel
theorem dX2_planShutdown_81 : decode cX2_planShutdown 81 = .ok (.iconst 1, 1) := by decide +kernel
theorem dX2_planShutdown_82 : decode cX2_planShutdown 82 = .ok (.isub, 1) := by decide +kernel
theorem dX2_planShutdown_83 : decode cX2_planShutdown 83 = .ok (.putfield 144, 3) := by decide +kernel
theorem dX2_planShutdown_86 : decode cX2_planShutdown 86 = .ok (.aload 4, 2) := by decide +kernel
theorem dX2_planShutdown_88 : decode cX2_planShutdown 88 = .ok (.getfield 144, 3) := by decide +kernel
theorem dX2_planShutdown_91 : decode cX2_planShutdown 91 = .ok (.ireturn, 1) := by decide +kernel
theorem dX2_sendToRepair_0 : decode cX2_sendToRepair 0 = .ok (.aload_n 0, 1) := by decide +kernel
theorem dX2_sendToRepair_1 : decode cX2_sendToRepair 1 = .ok (.iload_n 1, 1) := by decide +kernel
theorem dX2_sendToRepair_2 : decode cX2_sendToRepair 2 = .ok (.invokevirtual 52, 3) := by decide +kernel
theorem dX2_sendToRepair_5 : decode cX2_sendToRepair 5 = .ok (.astore_n 2, 1) := by decide +kernel
theorem dX2_sendToRepair_6 : decode cX2_sendToRepair 6 = .ok (.aload_n 2, 1) := by decide +kernel
theorem dX2_sendToRepair_7 : decode cX2_sendToRepair 7 = .ok (.ifnonnull 6, 3) := by decide +kernel
theorem dX2_sendToRepair_10 : decode cX2_sendToRepair 10 = .ok (.ldc 67, 2) := by decide +kernel
theorem dX2_sendToRepair_12 : decode cX2_sendToRepair 12 = .ok (.ireturn, 1) := by decide +kernel
theorem dX2_sendToRepair_13 : decode cX2_sendToRepair 13 = .ok (.aload_n 2, 1) := by decide +kernel
theorem dX2_sendToRepair_14 : decode cX2_sendToRepair 14 = .ok (.getfield 83, 3) := by decide +kernel
theorem dX2_sendToRepair_17 : decode cX2_sendToRepair 17 = .ok (.ifCond .eq 6, 3) := by decide +kernel
theorem dX2_sendToRepair_20 : decode cX2_sendToRepair 20 = .ok (.ldc 89, 2) := by decide +kernel
theorem dX2_sendToRepair_22 : decode cX2_sendToRepair 22 = .ok (.ireturn, 1) := by decide +kernel
theorem dX2_sendToRepair_23 : decode cX2_sendToRepair 23 = .ok (.aload_n 2, 1) := by decide +kernel
theorem dX2_sendToRepair_24 : decode cX2_sendToRepair 24 = .ok (.getfield 134, 3) := by decide +kernel
theorem dX2_sendToRepair_27 : decode cX2_sendToRepair 27 = .ok (.bipush 10, 2) := by decide +kernel
theorem dX2_sendToRepair_29 : decode cX2_sendToRepair 29 = .ok (.idiv, 1) := by decide +kernel
theorem dX2_sendToRepair_30 : decode cX2_sendToRepair 30 = .ok (.iconst 1, 1) := by decide +kernel
theorem dX2_sendToRepair_31 : decode cX2_sendToRepair 31 = .ok (.iadd, 1) := by decide +kernel
theorem dX2_sendToRepair_32 : decode cX2_sendToRepair 32 = .ok (.istore_n 3, 1) := by decide +kernel
theorem dX2_sendToRepair_33 : decode cX2_sendToRepair 33 = .ok (.aload_n 2, 1) := by decide +kernel
theorem dX2_sendToRepair_34 : decode cX2_sendToRepair 34 = .ok (.iconst 2, 1) := by decide +kernel
theorem dX2_sendToRepair_35 : decode cX2_sendToRepair 35 = .ok (.putfield 83, 3) := by decide +kernel
theorem dX2_sendToRepair_38 : decode cX2_sendToRepair 38 = .ok (.aload_n 2, 1) := by decide +kernel
theorem dX2_sendToRepair_39 : decode cX2_sendToRepair 39 = .ok (.aload_n 0, 1) := by decide +kernel
theorem dX2_sendToRepair_40 : decode cX2_sendToRepair 40 = .ok (.getfield 39, 3) := by decide +kernel
theorem dX2_sendToRepair_43 : decode cX2_sendToRepair 43 = .ok (.iload_n 3, 1) := by decide +kernel
theorem dX2_sendToRepair_44 : decode cX2_sendToRepair 44 = .ok (.iadd, 1) := by decide +kernel
theorem dX2_sendToRepair_45 : decode cX2_sendToRepair 45 = .ok (.putfield 147, 3) := by decide +kernel
theorem dX2_sendToRepair_48 : decode cX2_sendToRepair 48 = .ok (.aload_n 0, 1) := by decide +kernel
theorem dX2_sendToRepair_49 : decode cX2_sendToRepair 49 = .ok (.dup, 1) := by decide +kernel
theorem dX2_sendToRepair_50 : decode cX2_sendToRepair 50 = .ok (.getfield 45, 3) := by decide +kernel
theorem dX2_sendToRepair_53 : decode cX2_sendToRepair 53 = .ok (.iload_n 3, 1) := by decide +kernel
theorem dX2_sendToRepair_54 : decode cX2_sendToRepair 54 = .ok (.iadd, 1) := by decide +kernel
theorem dX2_sendToRepair_55 : decode cX2_sendToRepair 55 = .ok (.putfield 45, 3) := by decide +kernel
theorem dX2_sendToRepair_58 : decode cX2_sendToRepair 58 = .ok (.aload_n 0, 1) := by decide +kernel
theorem dX2_sendToRepair_59 : decode cX2_sendToRepair 59 = .ok (.iconst 2, 1) := by decide +kernel
theorem dX2_sendToRepair_60 : decode cX2_sendToRepair 60 = .ok (.iload_n 3, 1) := by decide +kernel
theorem dX2_sendToRepair_61 : decode cX2_sendToRepair 61 = .ok (.aload_n 0, 1) := by decide +kernel
theorem dX2_sendToRepair_62 : decode cX2_sendToRepair 62 = .ok (.iconst 3, 1) := by decide +kernel
theorem dX2_sendToRepair_63 : decode cX2_sendToRepair 63 = .ok (.invokevirtual 118, 3) := by decide +kernel
theorem dX2_sendToRepair_66 : decode cX2_sendToRepair 66 = .ok (.imul, 1) := by decide +kernel
theorem dX2_sendToRepair_67 : decode cX2_sendToRepair 67 = .ok (.invokevirtual 122, 3) := by decide +kernel
theorem dX2_sendToRepair_70 : decode cX2_sendToRepair 70 = .ok (.iload_n 3, 1) := by decide +kernel
theorem dX2_sendToRepair_71 : decode cX2_sendToRepair 71 = .ok (.ireturn, 1) := by decide +kernel
theorem dX2_letWeeksPass_0 : decode cX2_letWeeksPass 0 = .ok (.iload_n 1, 1) := by decide +kernel
theorem dX2_letWeeksPass_1 : decode cX2_letWeeksPass 1 = .ok (.iconst 1, 1) := by decide +kernel
theorem dX2_letWeeksPass_2 : decode cX2_letWeeksPass 2 = .ok (.if_icmp .lt 9, 3) := by decide +kernel
theorem dX2_letWeeksPass_5 : decode cX2_letWeeksPass 5 = .ok (.iload_n 1, 1) := by decide +kernel
theorem dX2_letWeeksPass_6 : decode cX2_letWeeksPass 6 = .ok (.bipush 60, 2) := by decide +kernel
theorem dX2_letWeeksPass_8 : decode cX2_letWeeksPass 8 = .ok (.if_icmp .le 6, 3) := by decide +kernel
theorem dX2_letWeeksPass_11 : decode cX2_letWeeksPass 11 = .ok (.ldc 67, 2) := by decide +kernel
theorem dX2_letWeeksPass_13 : decode cX2_letWeeksPass 13 = .ok (.ireturn, 1) := by decide +kernel
theorem dX2_letWeeksPass_14 : decode cX2_letWeeksPass 14 = .ok (.aload_n 0, 1) := by decide +kernel
theorem dX2_letWeeksPass_15 : decode cX2_letWeeksPass 15 = .ok (.getfield 39, 3) := by decide +kernel
theorem dX2_letWeeksPass_18 : decode cX2_letWeeksPass 18 = .ok (.iload_n 1, 1) := by decide +kernel
theorem dX2_letWeeksPass_19 : decode cX2_letWeeksPass 19 = .ok (.iadd, 1) := by decide +kernel
theorem dX2_letWeeksPass_20 : decode cX2_letWeeksPass 20 = .ok (.sipush 9999, 3) := by decide +kernel
theorem dX2_letWeeksPass_23 : decode cX2_letWeeksPass 23 = .ok (.if_icmp .le 6, 3) := by decide +kernel
theorem dX2_letWeeksPass_26 : decode cX2_letWeeksPass 26 = .ok (.ldc 68, 2) := by decide +kernel
theorem dX2_letWeeksPass_28 : decode cX2_letWeeksPass 28 = .ok (.ireturn, 1) := by decide +kernel
theorem dX2_letWeeksPass_29 : decode cX2_letWeeksPass 29 = .ok (.iconst 0, 1) := by decide +kernel
theorem dX2_letWeeksPass_30 : decode cX2_letWeeksPass 30 = .ok (.istore_n 2, 1) := by decide +kernel
theorem dX2_letWeeksPass_31 : decode cX2_letWeeksPass 31 = .ok (.iconst 0, 1) := by decide +kernel
theorem dX2_letWeeksPass_32 : decode cX2_letWeeksPass 32 = .ok (.istore_n 3, 1) := by decide +kernel
theorem dX2_letWeeksPass_33 : decode cX2_letWeeksPass 33 = .ok (.iload_n 3, 1) := by decide +kernel
theorem dX2_letWeeksPass_34 : decode cX2_letWeeksPass 34 = .ok (.iload_n 1, 1) := by decide +kernel
theorem dX2_letWeeksPass_35 : decode cX2_letWeeksPass 35 = .ok (.if_icmp .ge 16, 3) := by decide +kernel
theorem dX2_letWeeksPass_38 : decode cX2_letWeeksPass 38 = .ok (.iload_n 2, 1) := by decide +kernel
theorem dX2_letWeeksPass_39 : decode cX2_letWeeksPass 39 = .ok (.aload_n 0, 1) := by decide +kernel
theorem dX2_letWeeksPass_40 : decode cX2_letWeeksPass 40 = .ok (.invokevirtual 150, 3) := by decide +kernel
theorem dX2_letWeeksPass_43 : decode cX2_letWeeksPass 43 = .ok (.iadd, 1) := by decide +kernel
theorem dX2_letWeeksPass_44 : decode cX2_letWeeksPass 44 = .ok (.istore_n 2, 1) := by decide +kernel
theorem dX2_letWeeksPass_45 : decode cX2_letWeeksPass 45 = .ok (.iinc 3 1, 3) := by decide +kernel
theorem dX2_letWeeksPass_48 : decode cX2_letWeeksPass 48 = .ok (.goto (-15), 3) := by decide +kernel
theorem dX2_letWeeksPass_51 : decode cX2_letWeeksPass 51 = .ok (.aload_n 0, 1) := by decide +kernel
theorem dX2_letWeeksPass_52 : decode cX2_letWeeksPass 52 = .ok (.dup, 1) := by decide +kernel
theorem dX2_letWeeksPass_53 : decode cX2_letWeeksPass 53 = .ok (.getfield 42, 3) := by decide +kernel
theorem dX2_letWeeksPass_56 : decode cX2_letWeeksPass 56 = .ok (.iload_n 2, 1) := by decide +kernel
theorem dX2_letWeeksPass_57 : decode cX2_letWeeksPass 57 = .ok (.iadd, 1) := by decide +kernel
theorem dX2_letWeeksPass_58 : decode cX2_letWeeksPass 58 = .ok (.putfield 42, 3) := by decide +kernel
theorem dX2_letWeeksPass_61 : decode cX2_letWeeksPass 61 = .ok (.iload_n 2, 1) := by decide +kernel
theorem dX2_letWeeksPass_62 : decode cX2_letWeeksPass 62 = .ok (.ireturn, 1) := by decide +kernel
theorem dX2_letOneWeekPass_0 : decode cX2_letOneWeekPass 0 = .ok (.aload_n 0, 1) := by decide +kernel
theorem dX2_letOneWeekPass_1 : decode cX2_letOneWeekPass 1 = .ok (.dup, 1) := by decide +kernel
theorem dX2_letOneWeekPass_2 : decode cX2_letOneWeekPass 2 = .ok (.getfield 39, 3) := by decide +kernel
theorem dX2_letOneWeekPass_5 : decode cX2_letOneWeekPass 5 = .ok (.iconst 1, 1) := by decide +kernel
theorem dX2_letOneWeekPass_6 : decode cX2_letOneWeekPass 6 = .ok (.iadd, 1) := by decide +kernel
theorem dX2_letOneWeekPass_7 : decode cX2_letOneWeekPass 7 = .ok (.putfield 39, 3) := by decide +kernel
theorem dX2_letOneWeekPass_10 : decode cX2_letOneWeekPass 10 = .ok (.iconst 0, 1) := by decide +kernel
theorem dX2_letOneWeekPass_11 : decode cX2_letOneWeekPass 11 = .ok (.istore_n 1, 1) := by decide +kernel
theorem dX2_letOneWeekPass_12 : decode cX2_letOneWeekPass 12 = .ok (.iload_n 1, 1) := by decide +kernel
theorem dX2_letOneWeekPass_13 : decode cX2_letOneWeekPass 13 = .ok (.aload_n 0, 1) := by decide +kernel
theorem dX2_letOneWeekPass_14 : decode cX2_letOneWeekPass 14 = .ok (.getfield 36, 3) := by decide +kernel
theorem dX2_letOneWeekPass_17 : decode cX2_letOneWeekPass 17 = .ok (.if_icmp .ge 23, 3) := by decide +kernel
theorem dX2_letOneWeekPass_20 : decode cX2_letOneWeekPass 20 = .ok (.aload_n 0, 1) := by decide +kernel
theorem dX2_letOneWeekPass_21 : decode cX2_letOneWeekPass 21 = .ok (.iload_n 1, 1) := by decide +kernel
theorem dX2_letOneWeekPass_22 : decode cX2_letOneWeekPass 22 = .ok (.invokevirtual 60, 3) := by decide +kernel
theorem dX2_letOneWeekPass_25 : decode cX2_letOneWeekPass 25 = .ok (.astore_n 2, 1) := by decide +kernel
theorem dX2_letOneWeekPass_26 : decode cX2_letOneWeekPass 26 = .ok (.aload_n 2, 1) := by decide +kernel
theorem dX2_letOneWeekPass_27 : decode cX2_letOneWeekPass 27 = .ok (.ifnull 7, 3) := by decide +kernel
theorem dX2_letOneWeekPass_30 : decode cX2_letOneWeekPass 30 = .ok (.aload_n 2, 1) := by decide +kernel
theorem dX2_letOneWeekPass_31 : decode cX2_letOneWeekPass 31 = .ok (.invokevirtual 154, 3) := by decide +kernel
theorem dX2_letOneWeekPass_34 : decode cX2_letOneWeekPass 34 = .ok (.iinc 1 1, 3) := by decide +kernel
theorem dX2_letOneWeekPass_37 : decode cX2_letOneWeekPass 37 = .ok (.goto (-25), 3) := by decide +kernel
theorem dX2_letOneWeekPass_40 : decode cX2_letOneWeekPass 40 = .ok (.iconst 0, 1) := by decide +kernel
theorem dX2_letOneWeekPass_41 : decode cX2_letOneWeekPass 41 = .ok (.istore_n 1, 1) := by decide +kernel
theorem dX2_letOneWeekPass_42 : decode cX2_letOneWeekPass 42 = .ok (.iconst 0, 1) := by decide +kernel
theorem dX2_letOneWeekPass_43 : decode cX2_letOneWeekPass 43 = .ok (.istore_n 2, 1) := by decide +kernel
theorem dX2_letOneWeekPass_44 : decode cX2_letOneWeekPass 44 = .ok (.iload_n 2, 1) := by decide +kernel
theorem dX2_letOneWeekPass_45 : decode cX2_letOneWeekPass 45 = .ok (.aload_n 0, 1) := by decide +kernel
theorem dX2_letOneWeekPass_46 : decode cX2_letOneWeekPass 46 = .ok (.getfield 32, 3) := by decide +kernel
theorem dX2_letOneWeekPass_49 : decode cX2_letOneWeekPass 49 = .ok (.if_icmp .ge 60, 3) := by decide +kernel
theorem dX2_letOneWeekPass_52 : decode cX2_letOneWeekPass 52 = .ok (.aload_n 0, 1) := by decide +kernel
theorem dX2_letOneWeekPass_53 : decode cX2_letOneWeekPass 53 = .ok (.iload_n 2, 1) := by decide +kernel
theorem dX2_letOneWeekPass_54 : decode cX2_letOneWeekPass 54 = .ok (.invokevirtual 52, 3) := by decide +kernel
theorem dX2_letOneWeekPass_57 : decode cX2_letOneWeekPass 57 = .ok (.astore_n 3, 1) := by decide +kernel
theorem dX2_letOneWeekPass_58 : decode cX2_letOneWeekPass 58 = .ok (.aload_n 3, 1) := by decide +kernel
theorem dX2_letOneWeekPass_59 : decode cX2_letOneWeekPass 59 = .ok (.ifnonnull 6, 3) := by decide +kernel
theorem dX2_letOneWeekPass_62 : decode cX2_letOneWeekPass 62 = .ok (.goto 41, 3) := by decide +kernel
theorem dX2_letOneWeekPass_65 : decode cX2_letOneWeekPass 65 = .ok (.aload_n 3, 1) := by decide +kernel
theorem dX2_letOneWeekPass_66 : decode cX2_letOneWeekPass 66 = .ok (.invokevirtual 157, 3) := by decide +kernel
theorem dX2_letOneWeekPass_69 : decode cX2_letOneWeekPass 69 = .ok (.aload_n 3, 1) := by decide +kernel
theorem dX2_letOneWeekPass_70 : decode cX2_letOneWeekPass 70 = .ok (.aload_n 0, 1) := by decide +kernel
theorem dX2_letOneWeekPass_71 : decode cX2_letOneWeekPass 71 = .ok (.getfield 39, 3) := by decide +kernel
theorem dX2_letOneWeekPass_74 : decode cX2_letOneWeekPass 74 = .ok (.invokevirtual 160, 3) := by decide +kernel
theorem dX2_letOneWeekPass_77 : decode cX2_letOneWeekPass 77 = .ok (.aload_n 3, 1) := by decide +kernel
theorem dX2_letOneWeekPass_78 : decode cX2_letOneWeekPass 78 = .ok (.aload_n 0, 1) := by decide +kernel
theorem dX2_letOneWeekPass_79 : decode cX2_letOneWeekPass 79 = .ok (.getfield 39, 3) := by decide +kernel
theorem dX2_letOneWeekPass_82 : decode cX2_letOneWeekPass 82 = .ok (.invokevirtual 163, 3) := by decide +kernel
theorem dX2_letOneWeekPass_85 : decode cX2_letOneWeekPass 85 = .ok (.aload_n 3, 1) := by decide +kernel
theorem dX2_letOneWeekPass_86 : decode cX2_letOneWeekPass 86 = .ok (.aload_n 0, 1) := by decide +kernel
theorem dX2_letOneWeekPass_87 : decode cX2_letOneWeekPass 87 = .ok (.getfield 39, 3) := by decide +kernel
theorem dX2_letOneWeekPass_90 : decode cX2_letOneWeekPass 90 = .ok (.invokevirtual 166, 3) := by decide +kernel
theorem dX2_letOneWeekPass_93 : decode cX2_letOneWeekPass 93 = .ok (.ifCond .eq 10, 3) := by decide +kernel
theorem dX2_letOneWeekPass_96 : decode cX2_letOneWeekPass 96 = .ok (.aload_n 3, 1) := by decide +kernel
theorem dX2_letOneWeekPass_97 : decode cX2_letOneWeekPass 97 = .ok (.invokevirtual 131, 3) := by decide +kernel
theorem dX2_letOneWeekPass_100 : decode cX2_letOneWeekPass 100 = .ok (.iinc 1 1, 3) := by decide +kernel
theorem dX2_letOneWeekPass_103 : decode cX2_letOneWeekPass 103 = .ok (.iinc 2 1, 3) := by decide +kernel
theorem dX2_letOneWeekPass_106 : decode cX2_letOneWeekPass 106 = .ok (.goto (-62), 3) := by decide +kernel
theorem dX2_letOneWeekPass_109 : decode cX2_letOneWeekPass 109 = .ok (.iload_n 1, 1) := by decide +kernel
theorem dX2_letOneWeekPass_110 : decode cX2_letOneWeekPass 110 = .ok (.ireturn, 1) := by decide +kernel
theorem dX2_changeSetting_0 : decode cX2_changeSetting 0 = .ok (.iload_n 1, 1) := by decide +kernel
theorem dX2_changeSetting_1 : decode cX2_changeSetting 1 = .ok (.ifCond .lt 20, 3) := by decide +kernel
theorem dX2_changeSetting_4 : decode cX2_changeSetting 4 = .ok (.iload_n 1, 1) := by decide +kernel
theorem dX2_changeSetting_5 : decode cX2_changeSetting 5 = .ok (.aload_n 0, 1) := by decide +kernel
theorem dX2_changeSetting_6 : decode cX2_changeSetting 6 = .ok (.getfield 23, 3) := by decide +kernel
theorem dX2_changeSetting_9 : decode cX2_changeSetting 9 = .ok (.arraylength, 1) := by decide +kernel
theorem dX2_changeSetting_10 : decode cX2_changeSetting 10 = .ok (.if_icmp .ge 11, 3) := by decide +kernel
theorem dX2_changeSetting_13 : decode cX2_changeSetting 13 = .ok (.iload_n 1, 1) := by decide +kernel
theorem dX2_changeSetting_14 : decode cX2_changeSetting 14 = .ok (.getstatic 169, 3) := by decide +kernel
theorem dX2_changeSetting_17 : decode cX2_changeSetting 17 = .ok (.arraylength, 1) := by decide +kernel
theorem dX2_changeSetting_18 : decode cX2_changeSetting 18 = .ok (.if_icmp .lt 6, 3) := by decide +kernel
theorem dX2_changeSetting_21 : decode cX2_changeSetting 21 = .ok (.ldc 67, 2) := by decide +kernel
theorem dX2_changeSetting_23 : decode cX2_changeSetting 23 = .ok (.ireturn, 1) := by decide +kernel
theorem dX2_changeSetting_24 : decode cX2_changeSetting 24 = .ok (.iload_n 2, 1) := by decide +kernel
theorem dX2_changeSetting_25 : decode cX2_changeSetting 25 = .ok (.ifCond .lt 12, 3) := by decide +kernel
theorem dX2_changeSetting_28 : decode cX2_changeSetting 28 = .ok (.iload_n 2, 1) := by decide +kernel
theorem dX2_changeSetting_29 : decode cX2_changeSetting 29 = .ok (.getstatic 169, 3) := by decide +kernel
theorem dX2_changeSetting_32 : decode cX2_changeSetting 32 = .ok (.iload_n 1, 1) := by decide +kernel
theorem dX2_changeSetting_33 : decode cX2_changeSetting 33 = .ok (.iaload, 1) := by decide +kernel
theorem dX2_changeSetting_34 : decode cX2_changeSetting 34 = .ok (.if_icmp .le 6, 3) := by decide +kernel
theorem dX2_changeSetting_37 : decode cX2_changeSetting 37 = .ok (.ldc 67, 2) := by decide +kernel
theorem dX2_changeSetting_39 : decode cX2_changeSetting 39 = .ok (.ireturn, 1) := by decide +kernel
theorem dX2_changeSetting_40 : decode cX2_changeSetting 40 = .ok (.aload_n 0, 1) := by decide +kernel
theorem dX2_changeSetting_41 : decode cX2_changeSetting 41 = .ok (.getfield 23, 3) := by decide +kernel
theorem dX2_changeSetting_44 : decode cX2_changeSetting 44 = .ok (.iload_n 1, 1) := by decide +kernel
theorem dX2_changeSetting_45 : decode cX2_changeSetting 45 = .ok (.iaload, 1) := by decide +kernel
theorem dX2_changeSetting_46 : decode cX2_changeSetting 46 = .ok (.istore_n 3, 1) := by decide +kernel
theorem dX2_changeSetting_47 : decode cX2_changeSetting 47 = .ok (.aload_n 0, 1) := by decide +kernel
theorem dX2_changeSetting_48 : decode cX2_changeSetting 48 = .ok (.getfield 23, 3) := by decide +kernel
theorem dX2_changeSetting_51 : decode cX2_changeSetting 51 = .ok (.iload_n 1, 1) := by decide +kernel
theorem dX2_changeSetting_52 : decode cX2_changeSetting 52 = .ok (.iload_n 2, 1) := by decide +kernel
theorem dX2_changeSetting_53 : decode cX2_changeSetting 53 = .ok (.iastore, 1) := by decide +kernel
theorem dX2_changeSetting_54 : decode cX2_changeSetting 54 = .ok (.iload_n 3, 1) := by decide +kernel
theorem dX2_changeSetting_55 : decode cX2_changeSetting 55 = .ok (.ireturn, 1) := by decide +kernel
theorem dX2_obey_0 : decode cX2_obey 0 = .ok (.iload_n 1, 1) := by decide +kernel
theorem dX2_obey_1 : decode cX2_obey 1 = .ok (.lookupswitch 96 #[(98, 59), (102, 72), (105, 65), (111, 78), (114, 84), (119, 90)], 59) := by decide +kernel
theorem dX2_obey_60 : decode cX2_obey 60 = .ok (.aload_n 0, 1) := by decide +kernel
theorem dX2_obey_61 : decode cX2_obey 61 = .ok (.iload_n 2, 1) := by decide +kernel
theorem dX2_obey_62 : decode cX2_obey 62 = .ok (.invokevirtual 172, 3) := by decide +kernel
theorem dX2_obey_65 : decode cX2_obey 65 = .ok (.ireturn, 1) := by decide +kernel
theorem dX2_obey_66 : decode cX2_obey 66 = .ok (.aload_n 0, 1) := by decide +kernel
theorem dX2_obey_67 : decode cX2_obey 67 = .ok (.iload_n 2, 1) := by decide +kernel
theorem dX2_obey_68 : decode cX2_obey 68 = .ok (.iload_n 3, 1) := by decide +kernel
theorem dX2_obey_69 : decode cX2_obey 69 = .ok (.invokevirtual 175, 3) := by decide +kernel
theorem dX2_obey_72 : decode cX2_obey 72 = .ok (.ireturn, 1) := by decide +kernel
theorem dX2_obey_73 : decode cX2_obey 73 = .ok (.aload_n 0, 1) := by decide +kernel
theorem dX2_obey_74 : decode cX2_obey 74 = .ok (.iload_n 2, 1) := by decide +kernel
theorem dX2_obey_75 : decode cX2_obey 75 = .ok (.invokevirtual 179, 3) := by decide +kernel
theorem dX2_obey_78 : decode cX2_obey 78 = .ok (.ireturn, 1) := by decide +kernel
theorem dX2_obey_79 : decode cX2_obey 79 = .ok (.aload_n 0, 1) := by decide +kernel
theorem dX2_obey_80 : decode cX2_obey 80 = .ok (.iload_n 2, 1) := by decide +kernel
theorem dX2_obey_81 : decode cX2_obey 81 = .ok (.invokevirtual 182, 3) := by decide +kernel
theorem dX2_obey_84 : decode cX2_obey 84 = .ok (.ireturn, 1) := by decide +kernel
theorem dX2_obey_85 : decode cX2_obey 85 = .ok (.aload_n 0, 1) := by decide +kernel
theorem dX2_obey_86 : decode cX2_obey 86 = .ok (.iload_n 2, 1) := by decide +kernel
theorem dX2_obey_87 : decode cX2_obey 87 = .ok (.invokevirtual 185, 3) := by decide +kernel
theorem dX2_obey_90 : decode cX2_obey 90 = .ok (.ireturn, 1) := by decide +kernel
theorem dX2_obey_91 : decode cX2_obey 91 = .ok (.aload_n 0, 1) := by decide +kernel
theorem dX2_obey_92 : decode cX2_obey 92 = .ok (.iload_n 2, 1) := by decide +kernel
theorem dX2_obey_93 : decode cX2_obey 93 = .ok (.invokevirtual 188, 3) := by decide +kernel
theorem dX2_obey_96 : decode cX2_obey 96 = .ok (.ireturn, 1) := by decide +kernel
theorem dX2_obey_97 : decode cX2_obey 97 = .ok (.ldc 67, 2) := by decide +kernel
theorem dX2_obey_99 : decode cX2_obey 99 = .ok (.ireturn, 1) := by decide +kernel
theorem dX2_factOfBoiler_0 : decode cX2_factOfBoiler 0 = .ok (.aload_n 0, 1) := by decide +kernel
theorem dX2_factOfBoiler_1 : decode cX2_factOfBoiler 1 = .ok (.iload_n 1, 1) := by decide +kernel
theorem dX2_factOfBoiler_2 : decode cX2_factOfBoiler 2 = .ok (.invokevirtual 52, 3) := by decide +kernel
theorem dX2_factOfBoiler_5 : decode cX2_factOfBoiler 5 = .ok (.astore_n 3, 1) := by decide +kernel
theorem dX2_factOfBoiler_6 : decode cX2_factOfBoiler 6 = .ok (.aload_n 3, 1) := by decide +kernel
theorem dX2_factOfBoiler_7 : decode cX2_factOfBoiler 7 = .ok (.ifnonnull 8, 3) := by decide +kernel
