theorem dX7_acted_38 : decode cX7_acted 38 = .ok (.iload_n 2, 1) := by decide +kernel
theorem dX7_acted_39 : decode cX7_acted 39 = .ok (.sipush 141, 3) := by decide +kernel
theorem dX7_acted_42 : decode cX7_acted 42 = .ok (.iadd, 1) := by decide +kernel
theorem dX7_acted_43 : decode cX7_acted 43 = .ok (.iaload, 1) := by decide +kernel
theorem dX7_acted_44 : decode cX7_acted 44 = .ok (.iastore, 1) := by decide +kernel
theorem dX7_acted_45 : decode cX7_acted 45 = .ok (.iinc 2 1, 3) := by decide +kernel
theorem dX7_acted_48 : decode cX7_acted 48 = .ok (.goto (-26), 3) := by decide +kernel
theorem dX7_acted_51 : decode cX7_acted 51 = .ok (.aload_n 0, 1) := by decide +kernel
theorem dX7_acted_52 : decode cX7_acted 52 = .ok (.dup, 1) := by decide +kernel
theorem dX7_acted_53 : decode cX7_acted 53 = .ok (.getfield 26, 3) := by decide +kernel
theorem dX7_acted_56 : decode cX7_acted 56 = .ok (.iconst 1, 1) := by decide +kernel
theorem dX7_acted_57 : decode cX7_acted 57 = .ok (.isub, 1) := by decide +kernel
theorem dX7_acted_58 : decode cX7_acted 58 = .ok (.putfield 26, 3) := by decide +kernel
theorem dX7_acted_61 : decode cX7_acted 61 = .ok (.iconst 0, 1) := by decide +kernel
theorem dX7_acted_62 : decode cX7_acted 62 = .ok (.istore_n 2, 1) := by decide +kernel
theorem dX7_acted_63 : decode cX7_acted 63 = .ok (.iload_n 2, 1) := by decide +kernel
theorem dX7_acted_64 : decode cX7_acted 64 = .ok (.sipush 141, 3) := by decide +kernel
theorem dX7_acted_67 : decode cX7_acted 67 = .ok (.if_icmp .ge 30, 3) := by decide +kernel
theorem dX7_acted_70 : decode cX7_acted 70 = .ok (.aload_n 0, 1) := by decide +kernel
theorem dX7_acted_71 : decode cX7_acted 71 = .ok (.getfield 16, 3) := by decide +kernel
theorem dX7_acted_74 : decode cX7_acted 74 = .ok (.sipush 141, 3) := by decide +kernel
theorem dX7_acted_77 : decode cX7_acted 77 = .ok (.aload_n 0, 1) := by decide +kernel
theorem dX7_acted_78 : decode cX7_acted 78 = .ok (.getfield 26, 3) := by decide +kernel
theorem dX7_acted_81 : decode cX7_acted 81 = .ok (.imul, 1) := by decide +kernel
theorem dX7_acted_82 : decode cX7_acted 82 = .ok (.iload_n 2, 1) := by decide +kernel
theorem dX7_acted_83 : decode cX7_acted 83 = .ok (.iadd, 1) := by decide +kernel
theorem dX7_acted_84 : decode cX7_acted 84 = .ok (.aload_n 0, 1) := by decide +kernel
theorem dX7_acted_85 : decode cX7_acted 85 = .ok (.getfield 13, 3) := by decide +kernel
theorem dX7_acted_88 : decode cX7_acted 88 = .ok (.iload_n 2, 1) := by decide +kernel
theorem dX7_acted_89 : decode cX7_acted 89 = .ok (.iaload, 1) := by decide +kernel
theorem dX7_acted_90 : decode cX7_acted 90 = .ok (.iastore, 1) := by decide +kernel
theorem dX7_acted_91 : decode cX7_acted 91 = .ok (.iinc 2 1, 3) := by decide +kernel
theorem dX7_acted_94 : decode cX7_acted 94 = .ok (.goto (-31), 3) := by decide +kernel
theorem dX7_acted_97 : decode cX7_acted 97 = .ok (.aload_n 0, 1) := by decide +kernel
theorem dX7_acted_98 : decode cX7_acted 98 = .ok (.dup, 1) := by decide +kernel
theorem dX7_acted_99 : decode cX7_acted 99 = .ok (.getfield 26, 3) := by decide +kernel
theorem dX7_acted_102 : decode cX7_acted 102 = .ok (.iconst 1, 1) := by decide +kernel
theorem dX7_acted_103 : decode cX7_acted 103 = .ok (.iadd, 1) := by decide +kernel
theorem dX7_acted_104 : decode cX7_acted 104 = .ok (.putfield 26, 3) := by decide +kernel
theorem dX7_acted_107 : decode cX7_acted 107 = .ok (.iload_n 1, 1) := by decide +kernel
theorem dX7_acted_108 : decode cX7_acted 108 = .ok (.ireturn, 1) := by decide +kernel
theorem dX7_isBoiler_0 : decode cX7_isBoiler 0 = .ok (.iload_n 1, 1) := by decide +kernel
theorem dX7_isBoiler_1 : decode cX7_isBoiler 1 = .ok (.iconst 0, 1) := by decide +kernel
theorem dX7_isBoiler_2 : decode cX7_isBoiler 2 = .ok (.aload_n 0, 1) := by decide +kernel
theorem dX7_isBoiler_3 : decode cX7_isBoiler 3 = .ok (.getfield 7, 3) := by decide +kernel
theorem dX7_isBoiler_6 : decode cX7_isBoiler 6 = .ok (.iconst 0, 1) := by decide +kernel
theorem dX7_isBoiler_7 : decode cX7_isBoiler 7 = .ok (.iaload, 1) := by decide +kernel
theorem dX7_isBoiler_8 : decode cX7_isBoiler 8 = .ok (.iconst 1, 1) := by decide +kernel
theorem dX7_isBoiler_9 : decode cX7_isBoiler 9 = .ok (.isub, 1) := by decide +kernel
theorem dX7_isBoiler_10 : decode cX7_isBoiler 10 = .ok (.invokestatic 30, 3) := by decide +kernel
theorem dX7_isBoiler_13 : decode cX7_isBoiler 13 = .ok (.ireturn, 1) := by decide +kernel
theorem dX7_isInspector_0 : decode cX7_isInspector 0 = .ok (.iload_n 1, 1) := by decide +kernel
theorem dX7_isInspector_1 : decode cX7_isInspector 1 = .ok (.iconst 0, 1) := by decide +kernel
theorem dX7_isInspector_2 : decode cX7_isInspector 2 = .ok (.aload_n 0, 1) := by decide +kernel
theorem dX7_isInspector_3 : decode cX7_isInspector 3 = .ok (.getfield 7, 3) := by decide +kernel
theorem dX7_isInspector_6 : decode cX7_isInspector 6 = .ok (.iconst 1, 1) := by decide +kernel
theorem dX7_isInspector_7 : decode cX7_isInspector 7 = .ok (.iaload, 1) := by decide +kernel
theorem dX7_isInspector_8 : decode cX7_isInspector 8 = .ok (.iconst 1, 1) := by decide +kernel
theorem dX7_isInspector_9 : decode cX7_isInspector 9 = .ok (.isub, 1) := by decide +kernel
theorem dX7_isInspector_10 : decode cX7_isInspector 10 = .ok (.invokestatic 30, 3) := by decide +kernel
theorem dX7_isInspector_13 : decode cX7_isInspector 13 = .ok (.ireturn, 1) := by decide +kernel
theorem dX7_of_0 : decode cX7_of 0 = .ok (.aload_n 0, 1) := by decide +kernel
theorem dX7_of_1 : decode cX7_of 1 = .ok (.getfield 7, 3) := by decide +kernel
theorem dX7_of_4 : decode cX7_of 4 = .ok (.bipush 15, 2) := by decide +kernel
theorem dX7_of_6 : decode cX7_of 6 = .ok (.bipush 12, 2) := by decide +kernel
theorem dX7_of_8 : decode cX7_of 8 = .ok (.iload_n 1, 1) := by decide +kernel
theorem dX7_of_9 : decode cX7_of 9 = .ok (.imul, 1) := by decide +kernel
theorem dX7_of_10 : decode cX7_of 10 = .ok (.iadd, 1) := by decide +kernel
theorem dX7_of_11 : decode cX7_of 11 = .ok (.iload_n 2, 1) := by decide +kernel
theorem dX7_of_12 : decode cX7_of 12 = .ok (.iadd, 1) := by decide +kernel
theorem dX7_of_13 : decode cX7_of 13 = .ok (.iaload, 1) := by decide +kernel
theorem dX7_of_14 : decode cX7_of 14 = .ok (.ireturn, 1) := by decide +kernel
theorem dX7_lays_0 : decode cX7_lays 0 = .ok (.aload_n 0, 1) := by decide +kernel
theorem dX7_lays_1 : decode cX7_lays 1 = .ok (.getfield 7, 3) := by decide +kernel
theorem dX7_lays_4 : decode cX7_lays 4 = .ok (.bipush 15, 2) := by decide +kernel
theorem dX7_lays_6 : decode cX7_lays 6 = .ok (.bipush 12, 2) := by decide +kernel
theorem dX7_lays_8 : decode cX7_lays 8 = .ok (.iload_n 1, 1) := by decide +kernel
theorem dX7_lays_9 : decode cX7_lays 9 = .ok (.imul, 1) := by decide +kernel
theorem dX7_lays_10 : decode cX7_lays 10 = .ok (.iadd, 1) := by decide +kernel
theorem dX7_lays_11 : decode cX7_lays 11 = .ok (.iload_n 2, 1) := by decide +kernel
theorem dX7_lays_12 : decode cX7_lays 12 = .ok (.iadd, 1) := by decide +kernel
theorem dX7_lays_13 : decode cX7_lays 13 = .ok (.iload_n 3, 1) := by decide +kernel
theorem dX7_lays_14 : decode cX7_lays 14 = .ok (.iastore, 1) := by decide +kernel
theorem dX7_lays_15 : decode cX7_lays 15 = .ok (.return_, 1) := by decide +kernel
theorem dX7_by_0 : decode cX7_by 0 = .ok (.aload_n 0, 1) := by decide +kernel
theorem dX7_by_1 : decode cX7_by 1 = .ok (.getfield 7, 3) := by decide +kernel
theorem dX7_by_4 : decode cX7_by 4 = .ok (.bipush 111, 2) := by decide +kernel
theorem dX7_by_6 : decode cX7_by 6 = .ok (.iconst 5, 1) := by decide +kernel
theorem dX7_by_7 : decode cX7_by 7 = .ok (.iload_n 1, 1) := by decide +kernel
theorem dX7_by_8 : decode cX7_by 8 = .ok (.imul, 1) := by decide +kernel
theorem dX7_by_9 : decode cX7_by 9 = .ok (.iadd, 1) := by decide +kernel
theorem dX7_by_10 : decode cX7_by 10 = .ok (.iload_n 2, 1) := by decide +kernel
theorem dX7_by_11 : decode cX7_by 11 = .ok (.iadd, 1) := by decide +kernel
theorem dX7_by_12 : decode cX7_by 12 = .ok (.iaload, 1) := by decide +kernel
theorem dX7_by_13 : decode cX7_by 13 = .ok (.ireturn, 1) := by decide +kernel
theorem dX7_counts_0 : decode cX7_counts 0 = .ok (.aload_n 0, 1) := by decide +kernel
theorem dX7_counts_1 : decode cX7_counts 1 = .ok (.getfield 7, 3) := by decide +kernel
theorem dX7_counts_4 : decode cX7_counts 4 = .ok (.bipush 111, 2) := by decide +kernel
theorem dX7_counts_6 : decode cX7_counts 6 = .ok (.iconst 5, 1) := by decide +kernel
theorem dX7_counts_7 : decode cX7_counts 7 = .ok (.iload_n 1, 1) := by decide +kernel
theorem dX7_counts_8 : decode cX7_counts 8 = .ok (.imul, 1) := by decide +kernel
theorem dX7_counts_9 : decode cX7_counts 9 = .ok (.iadd, 1) := by decide +kernel
theorem dX7_counts_10 : decode cX7_counts 10 = .ok (.iload_n 2, 1) := by decide +kernel
theorem dX7_counts_11 : decode cX7_counts 11 = .ok (.iadd, 1) := by decide +kernel
theorem dX7_counts_12 : decode cX7_counts 12 = .ok (.dup2, 1) := by decide +kernel
theorem dX7_counts_13 : decode cX7_counts 13 = .ok (.iaload, 1) := by decide +kernel
theorem dX7_counts_14 : decode cX7_counts 14 = .ok (.iconst 1, 1) := by decide +kernel
theorem dX7_counts_15 : decode cX7_counts 15 = .ok (.iadd, 1) := by decide +kernel
theorem dX7_counts_16 : decode cX7_counts 16 = .ok (.iastore, 1) := by decide +kernel
theorem dX7_counts_17 : decode cX7_counts 17 = .ok (.return_, 1) := by decide +kernel
theorem dX7_strength_0 : decode cX7_strength 0 = .ok (.aload_n 0, 1) := by decide +kernel
theorem dX7_strength_1 : decode cX7_strength 1 = .ok (.iload_n 1, 1) := by decide +kernel
theorem dX7_strength_2 : decode cX7_strength 2 = .ok (.iconst 0, 1) := by decide +kernel
theorem dX7_strength_3 : decode cX7_strength 3 = .ok (.invokevirtual 34, 3) := by decide +kernel
theorem dX7_strength_6 : decode cX7_strength 6 = .ok (.sipush 200, 3) := by decide +kernel
theorem dX7_strength_9 : decode cX7_strength 9 = .ok (.aload_n 0, 1) := by decide +kernel
theorem dX7_strength_10 : decode cX7_strength 10 = .ok (.iload_n 1, 1) := by decide +kernel
theorem dX7_strength_11 : decode cX7_strength 11 = .ok (.iconst 2, 1) := by decide +kernel
theorem dX7_strength_12 : decode cX7_strength 12 = .ok (.invokevirtual 34, 3) := by decide +kernel
theorem dX7_strength_15 : decode cX7_strength 15 = .ok (.isub, 1) := by decide +kernel
theorem dX7_strength_16 : decode cX7_strength 16 = .ok (.imul, 1) := by decide +kernel
theorem dX7_strength_17 : decode cX7_strength 17 = .ok (.sipush 200, 3) := by decide +kernel
theorem dX7_strength_20 : decode cX7_strength 20 = .ok (.idiv, 1) := by decide +kernel
theorem dX7_strength_21 : decode cX7_strength 21 = .ok (.ireturn, 1) := by decide +kernel
theorem dX7_pressureBy_0 : decode cX7_pressureBy 0 = .ok (.iload_n 2, 1) := by decide +kernel
theorem dX7_pressureBy_1 : decode cX7_pressureBy 1 = .ok (.ifCond .ne 11, 3) := by decide +kernel
theorem dX7_pressureBy_4 : decode cX7_pressureBy 4 = .ok (.aload_n 0, 1) := by decide +kernel
theorem dX7_pressureBy_5 : decode cX7_pressureBy 5 = .ok (.iload_n 1, 1) := by decide +kernel
theorem dX7_pressureBy_6 : decode cX7_pressureBy 6 = .ok (.invokevirtual 38, 3) := by decide +kernel
theorem dX7_pressureBy_9 : decode cX7_pressureBy 9 = .ok (.goto 14, 3) := by decide +kernel
theorem dX7_pressureBy_12 : decode cX7_pressureBy 12 = .ok (.aload_n 0, 1) := by decide +kernel
theorem dX7_pressureBy_13 : decode cX7_pressureBy 13 = .ok (.iload_n 1, 1) := by decide +kernel
theorem dX7_pressureBy_14 : decode cX7_pressureBy 14 = .ok (.invokevirtual 38, 3) := by decide +kernel
theorem dX7_pressureBy_17 : decode cX7_pressureBy 17 = .ok (.bipush 9, 2) := by decide +kernel
theorem dX7_pressureBy_19 : decode cX7_pressureBy 19 = .ok (.imul, 1) := by decide +kernel
theorem dX7_pressureBy_20 : decode cX7_pressureBy 20 = .ok (.bipush 10, 2) := by decide +kernel
theorem dX7_pressureBy_22 : decode cX7_pressureBy 22 = .ok (.idiv, 1) := by decide +kernel
theorem dX7_pressureBy_23 : decode cX7_pressureBy 23 = .ok (.istore_n 3, 1) := by decide +kernel
theorem dX7_pressureBy_24 : decode cX7_pressureBy 24 = .ok (.aload_n 0, 1) := by decide +kernel
theorem dX7_pressureBy_25 : decode cX7_pressureBy 25 = .ok (.iload_n 1, 1) := by decide +kernel
theorem dX7_pressureBy_26 : decode cX7_pressureBy 26 = .ok (.iconst 2, 1) := by decide +kernel
theorem dX7_pressureBy_27 : decode cX7_pressureBy 27 = .ok (.invokevirtual 34, 3) := by decide +kernel
theorem dX7_pressureBy_30 : decode cX7_pressureBy 30 = .ok (.aload_n 0, 1) := by decide +kernel
theorem dX7_pressureBy_31 : decode cX7_pressureBy 31 = .ok (.getfield 7, 3) := by decide +kernel
theorem dX7_pressureBy_34 : decode cX7_pressureBy 34 = .ok (.bipush 7, 2) := by decide +kernel
theorem dX7_pressureBy_36 : decode cX7_pressureBy 36 = .ok (.iload_n 2, 1) := by decide +kernel
theorem dX7_pressureBy_37 : decode cX7_pressureBy 37 = .ok (.iadd, 1) := by decide +kernel
theorem dX7_pressureBy_38 : decode cX7_pressureBy 38 = .ok (.iaload, 1) := by decide +kernel
theorem dX7_pressureBy_39 : decode cX7_pressureBy 39 = .ok (.if_icmp .gt 8, 3) := by decide +kernel
theorem dX7_pressureBy_42 : decode cX7_pressureBy 42 = .ok (.iload_n 3, 1) := by decide +kernel
theorem dX7_pressureBy_43 : decode cX7_pressureBy 43 = .ok (.iconst 1, 1) := by decide +kernel
theorem dX7_pressureBy_44 : decode cX7_pressureBy 44 = .ok (.if_icmp .ge 7, 3) := by decide +kernel
theorem dX7_pressureBy_47 : decode cX7_pressureBy 47 = .ok (.iconst 0, 1) := by decide +kernel
theorem dX7_pressureBy_48 : decode cX7_pressureBy 48 = .ok (.goto 4, 3) := by decide +kernel
theorem dX7_pressureBy_51 : decode cX7_pressureBy 51 = .ok (.iload_n 3, 1) := by decide +kernel
theorem dX7_pressureBy_52 : decode cX7_pressureBy 52 = .ok (.ireturn, 1) := by decide +kernel
theorem dX7_lastBy_0 : decode cX7_lastBy 0 = .ok (.aload_n 0, 1) := by decide +kernel
theorem dX7_lastBy_1 : decode cX7_lastBy 1 = .ok (.getfield 7, 3) := by decide +kernel
theorem dX7_lastBy_4 : decode cX7_lastBy 4 = .ok (.iconst 2, 1) := by decide +kernel
theorem dX7_lastBy_5 : decode cX7_lastBy 5 = .ok (.iaload, 1) := by decide +kernel
theorem dX7_lastBy_6 : decode cX7_lastBy 6 = .ok (.iload_n 2, 1) := by decide +kernel
theorem dX7_lastBy_7 : decode cX7_lastBy 7 = .ok (.ifCond .ne 17, 3) := by decide +kernel
theorem dX7_lastBy_10 : decode cX7_lastBy 10 = .ok (.bipush 52, 2) := by decide +kernel
theorem dX7_lastBy_12 : decode cX7_lastBy 12 = .ok (.aload_n 0, 1) := by decide +kernel
theorem dX7_lastBy_13 : decode cX7_lastBy 13 = .ok (.iload_n 1, 1) := by decide +kernel
theorem dX7_lastBy_14 : decode cX7_lastBy 14 = .ok (.iconst 2, 1) := by decide +kernel
theorem dX7_lastBy_15 : decode cX7_lastBy 15 = .ok (.invokevirtual 34, 3) := by decide +kernel
theorem dX7_lastBy_18 : decode cX7_lastBy 18 = .ok (.iconst 5, 1) := by decide +kernel
theorem dX7_lastBy_19 : decode cX7_lastBy 19 = .ok (.idiv, 1) := by decide +kernel
theorem dX7_lastBy_20 : decode cX7_lastBy 20 = .ok (.isub, 1) := by decide +kernel
theorem dX7_lastBy_21 : decode cX7_lastBy 21 = .ok (.goto 5, 3) := by decide +kernel
theorem dX7_lastBy_24 : decode cX7_lastBy 24 = .ok (.bipush 40, 2) := by decide +kernel
theorem dX7_lastBy_26 : decode cX7_lastBy 26 = .ok (.iadd, 1) := by decide +kernel
theorem dX7_lastBy_27 : decode cX7_lastBy 27 = .ok (.ireturn, 1) := by decide +kernel
theorem dX7_hasPaper_0 : decode cX7_hasPaper 0 = .ok (.aload_n 0, 1) := by decide +kernel
theorem dX7_hasPaper_1 : decode cX7_hasPaper 1 = .ok (.iload_n 1, 1) := by decide +kernel
theorem dX7_hasPaper_2 : decode cX7_hasPaper 2 = .ok (.bipush 9, 2) := by decide +kernel
theorem dX7_hasPaper_4 : decode cX7_hasPaper 4 = .ok (.invokevirtual 34, 3) := by decide +kernel
theorem dX7_hasPaper_7 : decode cX7_hasPaper 7 = .ok (.ifCond .lt 7, 3) := by decide +kernel
theorem dX7_hasPaper_10 : decode cX7_hasPaper 10 = .ok (.iconst 1, 1) := by decide +kernel
theorem dX7_hasPaper_11 : decode cX7_hasPaper 11 = .ok (.goto 4, 3) := by decide +kernel
theorem dX7_hasPaper_14 : decode cX7_hasPaper 14 = .ok (.iconst 0, 1) := by decide +kernel
theorem dX7_hasPaper_15 : decode cX7_hasPaper 15 = .ok (.ireturn, 1) := by decide +kernel
theorem dX7_isShut_0 : decode cX7_isShut 0 = .ok (.aload_n 0, 1) := by decide +kernel
theorem dX7_isShut_1 : decode cX7_isShut 1 = .ok (.iload_n 1, 1) := by decide +kernel
theorem dX7_isShut_2 : decode cX7_isShut 2 = .ok (.bipush 7, 2) := by decide +kernel
theorem dX7_isShut_4 : decode cX7_isShut 4 = .ok (.invokevirtual 34, 3) := by decide +kernel
theorem dX7_isShut_7 : decode cX7_isShut 7 = .ok (.ifCond .lt 33, 3) := by decide +kernel
theorem dX7_isShut_10 : decode cX7_isShut 10 = .ok (.aload_n 0, 1) := by decide +kernel
theorem dX7_isShut_11 : decode cX7_isShut 11 = .ok (.getfield 7, 3) := by decide +kernel
theorem dX7_isShut_14 : decode cX7_isShut 14 = .ok (.iconst 2, 1) := by decide +kernel
theorem dX7_isShut_15 : decode cX7_isShut 15 = .ok (.iaload, 1) := by decide +kernel
theorem dX7_isShut_16 : decode cX7_isShut 16 = .ok (.aload_n 0, 1) := by decide +kernel
theorem dX7_isShut_17 : decode cX7_isShut 17 = .ok (.iload_n 1, 1) := by decide +kernel
theorem dX7_isShut_18 : decode cX7_isShut 18 = .ok (.bipush 7, 2) := by decide +kernel
theorem dX7_isShut_20 : decode cX7_isShut 20 = .ok (.invokevirtual 34, 3) := by decide +kernel
theorem dX7_isShut_23 : decode cX7_isShut 23 = .ok (.aload_n 0, 1) := by decide +kernel
theorem dX7_isShut_24 : decode cX7_isShut 24 = .ok (.iload_n 1, 1) := by decide +kernel
theorem dX7_isShut_25 : decode cX7_isShut 25 = .ok (.bipush 8, 2) := by decide +kernel
theorem dX7_isShut_27 : decode cX7_isShut 27 = .ok (.invokevirtual 34, 3) := by decide +kernel
theorem dX7_isShut_30 : decode cX7_isShut 30 = .ok (.invokestatic 30, 3) := by decide +kernel
theorem dX7_isShut_33 : decode cX7_isShut 33 = .ok (.ifCond .eq 7, 3) := by decide +kernel
theorem dX7_isShut_36 : decode cX7_isShut 36 = .ok (.iconst 1, 1) := by decide +kernel
theorem dX7_isShut_37 : decode cX7_isShut 37 = .ok (.goto 4, 3) := by decide +kernel
theorem dX7_isShut_40 : decode cX7_isShut 40 = .ok (.iconst 0, 1) := by decide +kernel
theorem dX7_isShut_41 : decode cX7_isShut 41 = .ok (.ireturn, 1) := by decide +kernel
theorem dX7_whyNotFired_0 : decode cX7_whyNotFired 0 = .ok (.aload_n 0, 1) := by decide +kernel
theorem dX7_whyNotFired_1 : decode cX7_whyNotFired 1 = .ok (.iload_n 1, 1) := by decide +kernel
theorem dX7_whyNotFired_2 : decode cX7_whyNotFired 2 = .ok (.iconst 3, 1) := by decide +kernel
theorem dX7_whyNotFired_3 : decode cX7_whyNotFired 3 = .ok (.invokevirtual 34, 3) := by decide +kernel
theorem dX7_whyNotFired_6 : decode cX7_whyNotFired 6 = .ok (.ifCond .eq 19, 3) := by decide +kernel
theorem dX7_whyNotFired_9 : decode cX7_whyNotFired 9 = .ok (.aload_n 0, 1) := by decide +kernel
theorem dX7_whyNotFired_10 : decode cX7_whyNotFired 10 = .ok (.iload_n 1, 1) := by decide +kernel
theorem dX7_whyNotFired_11 : decode cX7_whyNotFired 11 = .ok (.iconst 3, 1) := by decide +kernel
theorem dX7_whyNotFired_12 : decode cX7_whyNotFired 12 = .ok (.invokevirtual 34, 3) := by decide +kernel
theorem dX7_whyNotFired_15 : decode cX7_whyNotFired 15 = .ok (.iconst 2, 1) := by decide +kernel
theorem dX7_whyNotFired_16 : decode cX7_whyNotFired 16 = .ok (.if_icmp .ne 7, 3) := by decide +kernel
theorem dX7_whyNotFired_19 : decode cX7_whyNotFired 19 = .ok (.iconst 1, 1) := by decide +kernel
theorem dX7_whyNotFired_20 : decode cX7_whyNotFired 20 = .ok (.goto 4, 3) := by decide +kernel
theorem dX7_whyNotFired_23 : decode cX7_whyNotFired 23 = .ok (.iconst 2, 1) := by decide +kernel
theorem dX7_whyNotFired_24 : decode cX7_whyNotFired 24 = .ok (.ireturn, 1) := by decide +kernel
theorem dX7_whyNotFired_25 : decode cX7_whyNotFired 25 = .ok (.aload_n 0, 1) := by decide +kernel
theorem dX7_whyNotFired_26 : decode cX7_whyNotFired 26 = .ok (.iload_n 1, 1) := by decide +kernel
theorem dX7_whyNotFired_27 : decode cX7_whyNotFired 27 = .ok (.bipush 6, 2) := by decide +kernel
theorem dX7_whyNotFired_29 : decode cX7_whyNotFired 29 = .ok (.invokevirtual 34, 3) := by decide +kernel
theorem dX7_whyNotFired_32 : decode cX7_whyNotFired 32 = .ok (.iconst 1, 1) := by decide +kernel
theorem dX7_whyNotFired_33 : decode cX7_whyNotFired 33 = .ok (.if_icmp .ne 5, 3) := by decide +kernel
theorem dX7_whyNotFired_36 : decode cX7_whyNotFired 36 = .ok (.iconst 3, 1) := by decide +kernel
theorem dX7_whyNotFired_37 : decode cX7_whyNotFired 37 = .ok (.ireturn, 1) := by decide +kernel
theorem dX7_whyNotFired_38 : decode cX7_whyNotFired 38 = .ok (.aload_n 0, 1) := by decide +kernel
theorem dX7_whyNotFired_39 : decode cX7_whyNotFired 39 = .ok (.iload_n 1, 1) := by decide +kernel
theorem dX7_whyNotFired_40 : decode cX7_whyNotFired 40 = .ok (.invokevirtual 42, 3) := by decide +kernel
theorem dX7_whyNotFired_43 : decode cX7_whyNotFired 43 = .ok (.ifCond .eq 7, 3) := by decide +kernel
theorem dX7_whyNotFired_46 : decode cX7_whyNotFired 46 = .ok (.iconst 4, 1) := by decide +kernel
theorem dX7_whyNotFired_47 : decode cX7_whyNotFired 47 = .ok (.goto 37, 3) := by decide +kernel
theorem dX7_whyNotFired_50 : decode cX7_whyNotFired 50 = .ok (.aload_n 0, 1) := by decide +kernel
theorem dX7_whyNotFired_51 : decode cX7_whyNotFired 51 = .ok (.iload_n 1, 1) := by decide +kernel
theorem dX7_whyNotFired_52 : decode cX7_whyNotFired 52 = .ok (.invokevirtual 46, 3) := by decide +kernel
theorem dX7_whyNotFired_55 : decode cX7_whyNotFired 55 = .ok (.ifCond .ne 7, 3) := by decide +kernel
theorem dX7_whyNotFired_58 : decode cX7_whyNotFired 58 = .ok (.iconst 5, 1) := by decide +kernel
theorem dX7_whyNotFired_59 : decode cX7_whyNotFired 59 = .ok (.goto 25, 3) := by decide +kernel
theorem dX7_whyNotFired_62 : decode cX7_whyNotFired 62 = .ok (.aload_n 0, 1) := by decide +kernel
theorem dX7_whyNotFired_63 : decode cX7_whyNotFired 63 = .ok (.iload_n 1, 1) := by decide +kernel
theorem dX7_whyNotFired_64 : decode cX7_whyNotFired 64 = .ok (.iconst 1, 1) := by decide +kernel
theorem dX7_whyNotFired_65 : decode cX7_whyNotFired 65 = .ok (.invokevirtual 34, 3) := by decide +kernel
theorem dX7_whyNotFired_68 : decode cX7_whyNotFired 68 = .ok (.aload_n 0, 1) := by decide +kernel
theorem dX7_whyNotFired_69 : decode cX7_whyNotFired 69 = .ok (.iload_n 1, 1) := by decide +kernel
theorem dX7_whyNotFired_70 : decode cX7_whyNotFired 70 = .ok (.bipush 10, 2) := by decide +kernel
theorem dX7_whyNotFired_72 : decode cX7_whyNotFired 72 = .ok (.invokevirtual 34, 3) := by decide +kernel
theorem dX7_whyNotFired_75 : decode cX7_whyNotFired 75 = .ok (.if_icmp .le 8, 3) := by decide +kernel
theorem dX7_whyNotFired_78 : decode cX7_whyNotFired 78 = .ok (.bipush 6, 2) := by decide +kernel
theorem dX7_whyNotFired_80 : decode cX7_whyNotFired 80 = .ok (.goto 4, 3) := by decide +kernel
theorem dX7_whyNotFired_83 : decode cX7_whyNotFired 83 = .ok (.iconst 0, 1) := by decide +kernel
theorem dX7_whyNotFired_84 : decode cX7_whyNotFired 84 = .ok (.ireturn, 1) := by decide +kernel
theorem dX7_whyNotInspected_0 : decode cX7_whyNotInspected 0 = .ok (.aload_n 0, 1) := by decide +kernel
theorem dX7_whyNotInspected_1 : decode cX7_whyNotInspected 1 = .ok (.iload_n 1, 1) := by decide +kernel
theorem dX7_whyNotInspected_2 : decode cX7_whyNotInspected 2 = .ok (.iconst 3, 1) := by decide +kernel
theorem dX7_whyNotInspected_3 : decode cX7_whyNotInspected 3 = .ok (.invokevirtual 34, 3) := by decide +kernel
theorem dX7_whyNotInspected_6 : decode cX7_whyNotInspected 6 = .ok (.ifCond .eq 19, 3) := by decide +kernel
theorem dX7_whyNotInspected_9 : decode cX7_whyNotInspected 9 = .ok (.aload_n 0, 1) := by decide +kernel
theorem dX7_whyNotInspected_10 : decode cX7_whyNotInspected 10 = .ok (.iload_n 1, 1) := by decide +kernel
theorem dX7_whyNotInspected_11 : decode cX7_whyNotInspected 11 = .ok (.iconst 3, 1) := by decide +kernel
theorem dX7_whyNotInspected_12 : decode cX7_whyNotInspected 12 = .ok (.invokevirtual 34, 3) := by decide +kernel
theorem dX7_whyNotInspected_15 : decode cX7_whyNotInspected 15 = .ok (.iconst 2, 1) := by decide +kernel
theorem dX7_whyNotInspected_16 : decode cX7_whyNotInspected 16 = .ok (.if_icmp .ne 7, 3) := by decide +kernel
theorem dX7_whyNotInspected_19 : decode cX7_whyNotInspected 19 = .ok (.iconst 1, 1) := by decide +kernel
theorem dX7_whyNotInspected_20 : decode cX7_whyNotInspected 20 = .ok (.goto 4, 3) := by decide +kernel
theorem dX7_whyNotInspected_23 : decode cX7_whyNotInspected 23 = .ok (.iconst 2, 1) := by decide +kernel
theorem dX7_whyNotInspected_24 : decode cX7_whyNotInspected 24 = .ok (.ireturn, 1) := by decide +kernel
theorem dX7_whyNotInspected_25 : decode cX7_whyNotInspected 25 = .ok (.aload_n 0, 1) := by decide +kernel
theorem dX7_whyNotInspected_26 : decode cX7_whyNotInspected 26 = .ok (.iload_n 1, 1) := by decide +kernel
theorem dX7_whyNotInspected_27 : decode cX7_whyNotInspected 27 = .ok (.iconst 4, 1) := by decide +kernel
theorem dX7_whyNotInspected_28 : decode cX7_whyNotInspected 28 = .ok (.invokevirtual 34, 3) := by decide +kernel
theorem dX7_whyNotInspected_31 : decode cX7_whyNotInspected 31 = .ok (.ifCond .ne 5, 3) := by decide +kernel
theorem dX7_whyNotInspected_34 : decode cX7_whyNotInspected 34 = .ok (.iconst 3, 1) := by decide +kernel
theorem dX7_whyNotInspected_35 : decode cX7_whyNotInspected 35 = .ok (.ireturn, 1) := by decide +kernel
theorem dX7_whyNotInspected_36 : decode cX7_whyNotInspected 36 = .ok (.aload_n 0, 1) := by decide +kernel
theorem dX7_whyNotInspected_37 : decode cX7_whyNotInspected 37 = .ok (.iload_n 1, 1) := by decide +kernel
theorem dX7_whyNotInspected_38 : decode cX7_whyNotInspected 38 = .ok (.bipush 6, 2) := by decide +kernel
theorem dX7_whyNotInspected_40 : decode cX7_whyNotInspected 40 = .ok (.invokevirtual 34, 3) := by decide +kernel
theorem dX7_whyNotInspected_43 : decode cX7_whyNotInspected 43 = .ok (.iconst 1, 1) := by decide +kernel
theorem dX7_whyNotInspected_44 : decode cX7_whyNotInspected 44 = .ok (.if_icmp .ne 7, 3) := by decide +kernel
theorem dX7_whyNotInspected_47 : decode cX7_whyNotInspected 47 = .ok (.iconst 4, 1) := by decide +kernel
theorem dX7_whyNotInspected_48 : decode cX7_whyNotInspected 48 = .ok (.goto 23, 3) := by decide +kernel
theorem dX7_whyNotInspected_51 : decode cX7_whyNotInspected 51 = .ok (.aload_n 0, 1) := by decide +kernel
theorem dX7_whyNotInspected_52 : decode cX7_whyNotInspected 52 = .ok (.iload_n 2, 1) := by decide +kernel
theorem dX7_whyNotInspected_53 : decode cX7_whyNotInspected 53 = .ok (.iconst 2, 1) := by decide +kernel
theorem dX7_whyNotInspected_54 : decode cX7_whyNotInspected 54 = .ok (.invokevirtual 49, 3) := by decide +kernel
theorem dX7_whyNotInspected_57 : decode cX7_whyNotInspected 57 = .ok (.aload_n 0, 1) := by decide +kernel
theorem dX7_whyNotInspected_58 : decode cX7_whyNotInspected 58 = .ok (.iload_n 2, 1) := by decide +kernel
theorem dX7_whyNotInspected_59 : decode cX7_whyNotInspected 59 = .ok (.iconst 1, 1) := by decide +kernel
theorem dX7_whyNotInspected_60 : decode cX7_whyNotInspected 60 = .ok (.invokevirtual 49, 3) := by decide +kernel
theorem dX7_whyNotInspected_63 : decode cX7_whyNotInspected 63 = .ok (.if_icmp .ne 7, 3) := by decide +kernel
theorem dX7_whyNotInspected_66 : decode cX7_whyNotInspected 66 = .ok (.iconst 5, 1) := by decide +kernel
theorem dX7_whyNotInspected_67 : decode cX7_whyNotInspected 67 = .ok (.goto 4, 3) := by decide +kernel
theorem dX7_whyNotInspected_70 : decode cX7_whyNotInspected 70 = .ok (.iconst 0, 1) := by decide +kernel
theorem dX7_whyNotInspected_71 : decode cX7_whyNotInspected 71 = .ok (.ireturn, 1) := by decide +kernel
theorem dX7_cools_0 : decode cX7_cools 0 = .ok (.aload_n 0, 1) := by decide +kernel
theorem dX7_cools_1 : decode cX7_cools 1 = .ok (.iload_n 1, 1) := by decide +kernel
theorem dX7_cools_2 : decode cX7_cools 2 = .ok (.iconst 3, 1) := by decide +kernel
theorem dX7_cools_3 : decode cX7_cools 3 = .ok (.iconst 0, 1) := by decide +kernel
theorem dX7_cools_4 : decode cX7_cools 4 = .ok (.invokevirtual 52, 3) := by decide +kernel
theorem dX7_cools_7 : decode cX7_cools 7 = .ok (.aload_n 0, 1) := by decide +kernel
theorem dX7_cools_8 : decode cX7_cools 8 = .ok (.iload_n 1, 1) := by decide +kernel
theorem dX7_cools_9 : decode cX7_cools 9 = .ok (.iconst 4, 1) := by decide +kernel
theorem dX7_cools_10 : decode cX7_cools 10 = .ok (.iconst 0, 1) := by decide +kernel
theorem dX7_cools_11 : decode cX7_cools 11 = .ok (.invokevirtual 52, 3) := by decide +kernel
theorem dX7_cools_14 : decode cX7_cools 14 = .ok (.return_, 1) := by decide +kernel
theorem dX7_pays_0 : decode cX7_pays 0 = .ok (.aload_n 0, 1) := by decide +kernel
theorem dX7_pays_1 : decode cX7_pays 1 = .ok (.getfield 7, 3) := by decide +kernel
theorem dX7_pays_4 : decode cX7_pays 4 = .ok (.bipush 14, 2) := by decide +kernel
theorem dX7_pays_6 : decode cX7_pays 6 = .ok (.dup2, 1) := by decide +kernel
theorem dX7_pays_7 : decode cX7_pays 7 = .ok (.iaload, 1) := by decide +kernel
theorem dX7_pays_8 : decode cX7_pays 8 = .ok (.iload_n 2, 1) := by decide +kernel
theorem dX7_pays_9 : decode cX7_pays 9 = .ok (.isub, 1) := by decide +kernel
theorem dX7_pays_10 : decode cX7_pays 10 = .ok (.iastore, 1) := by decide +kernel
theorem dX7_pays_11 : decode cX7_pays 11 = .ok (.aload_n 0, 1) := by decide +kernel
theorem dX7_pays_12 : decode cX7_pays 12 = .ok (.getfield 7, 3) := by decide +kernel
theorem dX7_pays_15 : decode cX7_pays 15 = .ok (.bipush 11, 2) := by decide +kernel
theorem dX7_pays_17 : decode cX7_pays 17 = .ok (.iload_n 1, 1) := by decide +kernel
theorem dX7_pays_18 : decode cX7_pays 18 = .ok (.iadd, 1) := by decide +kernel
theorem dX7_pays_19 : decode cX7_pays 19 = .ok (.dup2, 1) := by decide +kernel
theorem dX7_pays_20 : decode cX7_pays 20 = .ok (.iaload, 1) := by decide +kernel
theorem dX7_pays_21 : decode cX7_pays 21 = .ok (.iload_n 2, 1) := by decide +kernel
theorem dX7_pays_22 : decode cX7_pays 22 = .ok (.iadd, 1) := by decide +kernel
theorem dX7_pays_23 : decode cX7_pays 23 = .ok (.iastore, 1) := by decide +kernel
theorem dX7_pays_24 : decode cX7_pays 24 = .ok (.return_, 1) := by decide +kernel
theorem dX7_repairs_0 : decode cX7_repairs 0 = .ok (.aload_n 0, 1) := by decide +kernel
theorem dX7_repairs_1 : decode cX7_repairs 1 = .ok (.iload_n 1, 1) := by decide +kernel
theorem dX7_repairs_2 : decode cX7_repairs 2 = .ok (.iconst 3, 1) := by decide +kernel
theorem dX7_repairs_3 : decode cX7_repairs 3 = .ok (.invokevirtual 34, 3) := by decide +kernel
theorem dX7_repairs_6 : decode cX7_repairs 6 = .ok (.iconst 2, 1) := by decide +kernel
theorem dX7_repairs_7 : decode cX7_repairs 7 = .ok (.if_icmp .ne 53, 3) := by decide +kernel
theorem dX7_repairs_10 : decode cX7_repairs 10 = .ok (.aload_n 0, 1) := by decide +kernel
theorem dX7_repairs_11 : decode cX7_repairs 11 = .ok (.iload_n 1, 1) := by decide +kernel
theorem dX7_repairs_12 : decode cX7_repairs 12 = .ok (.iconst 5, 1) := by decide +kernel
theorem dX7_repairs_13 : decode cX7_repairs 13 = .ok (.invokevirtual 34, 3) := by decide +kernel
theorem dX7_repairs_16 : decode cX7_repairs 16 = .ok (.aload_n 0, 1) := by decide +kernel
theorem dX7_repairs_17 : decode cX7_repairs 17 = .ok (.getfield 7, 3) := by decide +kernel
theorem dX7_repairs_20 : decode cX7_repairs 20 = .ok (.iconst 2, 1) := by decide +kernel
theorem dX7_repairs_21 : decode cX7_repairs 21 = .ok (.iaload, 1) := by decide +kernel
theorem dX7_repairs_22 : decode cX7_repairs 22 = .ok (.if_icmp .ne 38, 3) := by decide +kernel
theorem dX7_repairs_25 : decode cX7_repairs 25 = .ok (.aload_n 0, 1) := by decide +kernel
theorem dX7_repairs_26 : decode cX7_repairs 26 = .ok (.iload_n 1, 1) := by decide +kernel
theorem dX7_repairs_27 : decode cX7_repairs 27 = .ok (.invokevirtual 56, 3) := by decide +kernel
theorem dX7_repairs_30 : decode cX7_repairs 30 = .ok (.aload_n 0, 1) := by decide +kernel
theorem dX7_repairs_31 : decode cX7_repairs 31 = .ok (.iload_n 1, 1) := by decide +kernel
theorem dX7_repairs_32 : decode cX7_repairs 32 = .ok (.iconst 2, 1) := by decide +kernel
theorem dX7_repairs_33 : decode cX7_repairs 33 = .ok (.aload_n 0, 1) := by decide +kernel
theorem dX7_repairs_34 : decode cX7_repairs 34 = .ok (.iload_n 1, 1) := by decide +kernel
theorem dX7_repairs_35 : decode cX7_repairs 35 = .ok (.iconst 2, 1) := by decide +kernel
theorem dX7_repairs_36 : decode cX7_repairs 36 = .ok (.invokevirtual 34, 3) := by decide +kernel
theorem dX7_repairs_39 : decode cX7_repairs 39 = .ok (.iconst 4, 1) := by decide +kernel
theorem dX7_repairs_40 : decode cX7_repairs 40 = .ok (.idiv, 1) := by decide +kernel
theorem dX7_repairs_41 : decode cX7_repairs 41 = .ok (.invokevirtual 52, 3) := by decide +kernel
theorem dX7_repairs_44 : decode cX7_repairs 44 = .ok (.aload_n 0, 1) := by decide +kernel
theorem dX7_repairs_45 : decode cX7_repairs 45 = .ok (.iload_n 1, 1) := by decide +kernel
theorem dX7_repairs_46 : decode cX7_repairs 46 = .ok (.bipush 6, 2) := by decide +kernel
theorem dX7_repairs_48 : decode cX7_repairs 48 = .ok (.iconst 0, 1) := by decide +kernel
theorem dX7_repairs_49 : decode cX7_repairs 49 = .ok (.invokevirtual 52, 3) := by decide +kernel
theorem dX7_repairs_52 : decode cX7_repairs 52 = .ok (.aload_n 0, 1) := by decide +kernel
theorem dX7_repairs_53 : decode cX7_repairs 53 = .ok (.iload_n 1, 1) := by decide +kernel
theorem dX7_repairs_54 : decode cX7_repairs 54 = .ok (.bipush 9, 2) := by decide +kernel
theorem dX7_repairs_56 : decode cX7_repairs 56 = .ok (.iconst (-1), 1) := by decide +kernel
theorem dX7_repairs_57 : decode cX7_repairs 57 = .ok (.invokevirtual 52, 3) := by decide +kernel
theorem dX7_repairs_60 : decode cX7_repairs 60 = .ok (.return_, 1) := by decide +kernel
theorem dX7_grows_0 : decode cX7_grows 0 = .ok (.aload_n 0, 1) := by decide +kernel
theorem dX7_grows_1 : decode cX7_grows 1 = .ok (.iload_n 1, 1) := by decide +kernel
theorem dX7_grows_2 : decode cX7_grows 2 = .ok (.iconst 3, 1) := by decide +kernel
theorem dX7_grows_3 : decode cX7_grows 3 = .ok (.invokevirtual 34, 3) := by decide +kernel
theorem dX7_grows_6 : decode cX7_grows 6 = .ok (.iconst 1, 1) := by decide +kernel
theorem dX7_grows_7 : decode cX7_grows 7 = .ok (.if_icmp .ne 42, 3) := by decide +kernel
theorem dX7_grows_10 : decode cX7_grows 10 = .ok (.aload_n 0, 1) := by decide +kernel
theorem dX7_grows_11 : decode cX7_grows 11 = .ok (.iload_n 1, 1) := by decide +kernel
theorem dX7_grows_12 : decode cX7_grows 12 = .ok (.iconst 2, 1) := by decide +kernel
theorem dX7_grows_13 : decode cX7_grows 13 = .ok (.invokevirtual 34, 3) := by decide +kernel
theorem dX7_grows_16 : decode cX7_grows 16 = .ok (.iconst 1, 1) := by decide +kernel
theorem dX7_grows_17 : decode cX7_grows 17 = .ok (.iadd, 1) := by decide +kernel
theorem dX7_grows_18 : decode cX7_grows 18 = .ok (.aload_n 0, 1) := by decide +kernel
theorem dX7_grows_19 : decode cX7_grows 19 = .ok (.iload_n 1, 1) := by decide +kernel
theorem dX7_grows_20 : decode cX7_grows 20 = .ok (.iconst 1, 1) := by decide +kernel
theorem dX7_grows_21 : decode cX7_grows 21 = .ok (.invokevirtual 34, 3) := by decide +kernel
theorem dX7_grows_24 : decode cX7_grows 24 = .ok (.bipush 10, 2) := by decide +kernel
theorem dX7_grows_26 : decode cX7_grows 26 = .ok (.idiv, 1) := by decide +kernel
theorem dX7_grows_27 : decode cX7_grows 27 = .ok (.iadd, 1) := by decide +kernel
theorem dX7_grows_28 : decode cX7_grows 28 = .ok (.istore_n 2, 1) := by decide +kernel
theorem dX7_grows_29 : decode cX7_grows 29 = .ok (.aload_n 0, 1) := by decide +kernel
theorem dX7_grows_30 : decode cX7_grows 30 = .ok (.iload_n 1, 1) := by decide +kernel
theorem dX7_grows_31 : decode cX7_grows 31 = .ok (.iconst 2, 1) := by decide +kernel
theorem dX7_grows_32 : decode cX7_grows 32 = .ok (.iload_n 2, 1) := by decide +kernel
theorem dX7_grows_33 : decode cX7_grows 33 = .ok (.sipush 200, 3) := by decide +kernel
theorem dX7_grows_36 : decode cX7_grows 36 = .ok (.if_icmp .le 9, 3) := by decide +kernel
theorem dX7_grows_39 : decode cX7_grows 39 = .ok (.sipush 200, 3) := by decide +kernel
theorem dX7_grows_42 : decode cX7_grows 42 = .ok (.goto 4, 3) := by decide +kernel
theorem dX7_grows_45 : decode cX7_grows 45 = .ok (.iload_n 2, 1) := by decide +kernel
theorem dX7_grows_46 : decode cX7_grows 46 = .ok (.invokevirtual 52, 3) := by decide +kernel
theorem dX7_grows_49 : decode cX7_grows 49 = .ok (.aload_n 0, 1) := by decide +kernel
theorem dX7_grows_50 : decode cX7_grows 50 = .ok (.iload_n 1, 1) := by decide +kernel
theorem dX7_grows_51 : decode cX7_grows 51 = .ok (.iconst 3, 1) := by decide +kernel
theorem dX7_grows_52 : decode cX7_grows 52 = .ok (.invokevirtual 34, 3) := by decide +kernel
theorem dX7_grows_55 : decode cX7_grows 55 = .ok (.ifCond .ne 17, 3) := by decide +kernel
theorem dX7_grows_58 : decode cX7_grows 58 = .ok (.aload_n 0, 1) := by decide +kernel
theorem dX7_grows_59 : decode cX7_grows 59 = .ok (.iload_n 1, 1) := by decide +kernel
theorem dX7_grows_60 : decode cX7_grows 60 = .ok (.iconst 4, 1) := by decide +kernel
theorem dX7_grows_61 : decode cX7_grows 61 = .ok (.aload_n 0, 1) := by decide +kernel
theorem dX7_grows_62 : decode cX7_grows 62 = .ok (.iload_n 1, 1) := by decide +kernel
theorem dX7_grows_63 : decode cX7_grows 63 = .ok (.iconst 4, 1) := by decide +kernel
theorem dX7_grows_64 : decode cX7_grows 64 = .ok (.invokevirtual 34, 3) := by decide +kernel
theorem dX7_grows_67 : decode cX7_grows 67 = .ok (.iconst 1, 1) := by decide +kernel
theorem dX7_grows_68 : decode cX7_grows 68 = .ok (.iadd, 1) := by decide +kernel
theorem dX7_grows_69 : decode cX7_grows 69 = .ok (.invokevirtual 52, 3) := by decide +kernel
theorem dX7_grows_72 : decode cX7_grows 72 = .ok (.return_, 1) := by decide +kernel
theorem dX7_week_0 : decode cX7_week 0 = .ok (.iconst 0, 1) := by decide +kernel
theorem dX7_week_1 : decode cX7_week 1 = .ok (.istore_n 1, 1) := by decide +kernel
theorem dX7_week_2 : decode cX7_week 2 = .ok (.iconst 0, 1) := by decide +kernel
theorem dX7_week_3 : decode cX7_week 3 = .ok (.istore_n 2, 1) := by decide +kernel
theorem dX7_week_4 : decode cX7_week 4 = .ok (.iload_n 2, 1) := by decide +kernel
theorem dX7_week_5 : decode cX7_week 5 = .ok (.aload_n 0, 1) := by decide +kernel
theorem dX7_week_6 : decode cX7_week 6 = .ok (.getfield 7, 3) := by decide +kernel
theorem dX7_week_9 : decode cX7_week 9 = .ok (.iconst 0, 1) := by decide +kernel
theorem dX7_week_10 : decode cX7_week 10 = .ok (.iaload, 1) := by decide +kernel
theorem dX7_week_11 : decode cX7_week 11 = .ok (.if_icmp .ge 14, 3) := by decide +kernel
theorem dX7_week_14 : decode cX7_week 14 = .ok (.aload_n 0, 1) := by decide +kernel
theorem dX7_week_15 : decode cX7_week 15 = .ok (.iload_n 2, 1) := by decide +kernel
theorem dX7_week_16 : decode cX7_week 16 = .ok (.invokevirtual 60, 3) := by decide +kernel
theorem dX7_week_19 : decode cX7_week 19 = .ok (.iinc 2 1, 3) := by decide +kernel
theorem dX7_week_22 : decode cX7_week 22 = .ok (.goto (-18), 3) := by decide +kernel
theorem dX7_week_25 : decode cX7_week 25 = .ok (.aload_n 0, 1) := by decide +kernel
theorem dX7_week_26 : decode cX7_week 26 = .ok (.getfield 7, 3) := by decide +kernel
theorem dX7_week_29 : decode cX7_week 29 = .ok (.iconst 2, 1) := by decide +kernel
theorem dX7_week_30 : decode cX7_week 30 = .ok (.dup2, 1) := by decide +kernel
theorem dX7_week_31 : decode cX7_week 31 = .ok (.iaload, 1) := by decide +kernel
theorem dX7_week_32 : decode cX7_week 32 = .ok (.iconst 1, 1) := by decide +kernel
theorem dX7_week_33 : decode cX7_week 33 = .ok (.iadd, 1) := by decide +kernel
theorem dX7_week_34 : decode cX7_week 34 = .ok (.iastore, 1) := by decide +kernel
theorem dX7_week_35 : decode cX7_week 35 = .ok (.iconst 0, 1) := by decide +kernel
theorem dX7_week_36 : decode cX7_week 36 = .ok (.istore_n 2, 1) := by decide +kernel
theorem dX7_week_37 : decode cX7_week 37 = .ok (.iload_n 2, 1) := by decide +kernel
theorem dX7_week_38 : decode cX7_week 38 = .ok (.aload_n 0, 1) := by decide +kernel
theorem dX7_week_39 : decode cX7_week 39 = .ok (.getfield 7, 3) := by decide +kernel
theorem dX7_week_42 : decode cX7_week 42 = .ok (.iconst 1, 1) := by decide +kernel
theorem dX7_week_43 : decode cX7_week 43 = .ok (.iaload, 1) := by decide +kernel
theorem dX7_week_44 : decode cX7_week 44 = .ok (.if_icmp .ge 23, 3) := by decide +kernel
theorem dX7_week_47 : decode cX7_week 47 = .ok (.aload_n 0, 1) := by decide +kernel
theorem dX7_week_48 : decode cX7_week 48 = .ok (.getfield 7, 3) := by decide +kernel
theorem dX7_week_51 : decode cX7_week 51 = .ok (.bipush 111, 2) := by decide +kernel
theorem dX7_week_53 : decode cX7_week 53 = .ok (.iconst 5, 1) := by decide +kernel
theorem dX7_week_54 : decode cX7_week 54 = .ok (.iload_n 2, 1) := by decide +kernel
theorem dX7_week_55 : decode cX7_week 55 = .ok (.imul, 1) := by decide +kernel
theorem dX7_week_56 : decode cX7_week 56 = .ok (.iadd, 1) := by decide +kernel
theorem dX7_week_57 : decode cX7_week 57 = .ok (.iconst 2, 1) := by decide +kernel
theorem dX7_week_58 : decode cX7_week 58 = .ok (.iadd, 1) := by decide +kernel
theorem dX7_week_59 : decode cX7_week 59 = .ok (.iconst 0, 1) := by decide +kernel
theorem dX7_week_60 : decode cX7_week 60 = .ok (.iastore, 1) := by decide +kernel
theorem dX7_week_61 : decode cX7_week 61 = .ok (.iinc 2 1, 3) := by decide +kernel
theorem dX7_week_64 : decode cX7_week 64 = .ok (.goto (-27), 3) := by decide +kernel
theorem dX7_week_67 : decode cX7_week 67 = .ok (.iconst 0, 1) := by decide +kernel
theorem dX7_week_68 : decode cX7_week 68 = .ok (.istore_n 2, 1) := by decide +kernel
theorem dX7_week_69 : decode cX7_week 69 = .ok (.iload_n 2, 1) := by decide +kernel
theorem dX7_week_70 : decode cX7_week 70 = .ok (.aload_n 0, 1) := by decide +kernel
theorem dX7_week_71 : decode cX7_week 71 = .ok (.getfield 7, 3) := by decide +kernel
theorem dX7_week_74 : decode cX7_week 74 = .ok (.iconst 0, 1) := by decide +kernel
theorem dX7_week_75 : decode cX7_week 75 = .ok (.iaload, 1) := by decide +kernel
theorem dX7_week_76 : decode cX7_week 76 = .ok (.if_icmp .ge 114, 3) := by decide +kernel
theorem dX7_week_79 : decode cX7_week 79 = .ok (.aload_n 0, 1) := by decide +kernel
theorem dX7_week_80 : decode cX7_week 80 = .ok (.iload_n 2, 1) := by decide +kernel
theorem dX7_week_81 : decode cX7_week 81 = .ok (.invokevirtual 63, 3) := by decide +kernel
theorem dX7_week_84 : decode cX7_week 84 = .ok (.aload_n 0, 1) := by decide +kernel
theorem dX7_week_85 : decode cX7_week 85 = .ok (.iload_n 2, 1) := by decide +kernel
theorem dX7_week_86 : decode cX7_week 86 = .ok (.invokevirtual 46, 3) := by decide +kernel
theorem dX7_week_89 : decode cX7_week 89 = .ok (.ifCond .eq 27, 3) := by decide +kernel
theorem dX7_week_92 : decode cX7_week 92 = .ok (.aload_n 0, 1) := by decide +kernel
theorem dX7_week_93 : decode cX7_week 93 = .ok (.iload_n 2, 1) := by decide +kernel
theorem dX7_week_94 : decode cX7_week 94 = .ok (.bipush 11, 2) := by decide +kernel
theorem dX7_week_96 : decode cX7_week 96 = .ok (.invokevirtual 34, 3) := by decide +kernel
theorem dX7_week_99 : decode cX7_week 99 = .ok (.aload_n 0, 1) := by decide +kernel
theorem dX7_week_100 : decode cX7_week 100 = .ok (.getfield 7, 3) := by decide +kernel
theorem dX7_week_103 : decode cX7_week 103 = .ok (.iconst 2, 1) := by decide +kernel
theorem dX7_week_104 : decode cX7_week 104 = .ok (.iaload, 1) := by decide +kernel
theorem dX7_week_105 : decode cX7_week 105 = .ok (.if_icmp .ge 11, 3) := by decide +kernel
theorem dX7_week_108 : decode cX7_week 108 = .ok (.aload_n 0, 1) := by decide +kernel
theorem dX7_week_109 : decode cX7_week 109 = .ok (.iload_n 2, 1) := by decide +kernel
theorem dX7_week_110 : decode cX7_week 110 = .ok (.bipush 9, 2) := by decide +kernel
theorem dX7_week_112 : decode cX7_week 112 = .ok (.iconst (-1), 1) := by decide +kernel
theorem dX7_week_113 : decode cX7_week 113 = .ok (.invokevirtual 52, 3) := by decide +kernel
theorem dX7_week_116 : decode cX7_week 116 = .ok (.aload_n 0, 1) := by decide +kernel
theorem dX7_week_117 : decode cX7_week 117 = .ok (.iload_n 2, 1) := by decide +kernel
theorem dX7_week_118 : decode cX7_week 118 = .ok (.bipush 7, 2) := by decide +kernel
theorem dX7_week_120 : decode cX7_week 120 = .ok (.invokevirtual 34, 3) := by decide +kernel
theorem dX7_week_123 : decode cX7_week 123 = .ok (.ifCond .lt 27, 3) := by decide +kernel
theorem dX7_week_126 : decode cX7_week 126 = .ok (.aload_n 0, 1) := by decide +kernel
theorem dX7_week_127 : decode cX7_week 127 = .ok (.iload_n 2, 1) := by decide +kernel
theorem dX7_week_128 : decode cX7_week 128 = .ok (.bipush 8, 2) := by decide +kernel
theorem dX7_week_130 : decode cX7_week 130 = .ok (.invokevirtual 34, 3) := by decide +kernel
theorem dX7_week_133 : decode cX7_week 133 = .ok (.aload_n 0, 1) := by decide +kernel
theorem dX7_week_134 : decode cX7_week 134 = .ok (.getfield 7, 3) := by decide +kernel
theorem dX7_week_137 : decode cX7_week 137 = .ok (.iconst 2, 1) := by decide +kernel
theorem dX7_week_138 : decode cX7_week 138 = .ok (.iaload, 1) := by decide +kernel
theorem dX7_week_139 : decode cX7_week 139 = .ok (.if_icmp .ge 11, 3) := by decide +kernel
theorem dX7_week_142 : decode cX7_week 142 = .ok (.aload_n 0, 1) := by decide +kernel
theorem dX7_week_143 : decode cX7_week 143 = .ok (.iload_n 2, 1) := by decide +kernel
theorem dX7_week_144 : decode cX7_week 144 = .ok (.bipush 7, 2) := by decide +kernel
theorem dX7_week_146 : decode cX7_week 146 = .ok (.iconst (-1), 1) := by decide +kernel
theorem dX7_week_147 : decode cX7_week 147 = .ok (.invokevirtual 52, 3) := by decide +kernel
theorem dX7_week_150 : decode cX7_week 150 = .ok (.aload_n 0, 1) := by decide +kernel
theorem dX7_week_151 : decode cX7_week 151 = .ok (.iload_n 2, 1) := by decide +kernel
theorem dX7_week_152 : decode cX7_week 152 = .ok (.iconst 3, 1) := by decide +kernel
theorem dX7_week_153 : decode cX7_week 153 = .ok (.invokevirtual 34, 3) := by decide +kernel
theorem dX7_week_156 : decode cX7_week 156 = .ok (.iconst 1, 1) := by decide +kernel
theorem dX7_week_157 : decode cX7_week 157 = .ok (.if_icmp .ne 27, 3) := by decide +kernel
theorem dX7_week_160 : decode cX7_week 160 = .ok (.aload_n 0, 1) := by decide +kernel
theorem dX7_week_161 : decode cX7_week 161 = .ok (.iload_n 2, 1) := by decide +kernel
theorem dX7_week_162 : decode cX7_week 162 = .ok (.invokevirtual 46, 3) := by decide +kernel
theorem dX7_week_165 : decode cX7_week 165 = .ok (.ifCond .eq 11, 3) := by decide +kernel
theorem dX7_week_168 : decode cX7_week 168 = .ok (.aload_n 0, 1) := by decide +kernel
theorem dX7_week_169 : decode cX7_week 169 = .ok (.iload_n 2, 1) := by decide +kernel
theorem dX7_week_170 : decode cX7_week 170 = .ok (.invokevirtual 42, 3) := by decide +kernel
theorem dX7_week_173 : decode cX7_week 173 = .ok (.ifCond .eq 11, 3) := by decide +kernel
theorem dX7_week_176 : decode cX7_week 176 = .ok (.aload_n 0, 1) := by decide +kernel
theorem dX7_week_177 : decode cX7_week 177 = .ok (.iload_n 2, 1) := by decide +kernel
theorem dX7_week_178 : decode cX7_week 178 = .ok (.invokevirtual 56, 3) := by decide +kernel
theorem dX7_week_181 : decode cX7_week 181 = .ok (.iinc 1 1, 3) := by decide +kernel
theorem dX7_week_184 : decode cX7_week 184 = .ok (.iinc 2 1, 3) := by decide +kernel
theorem dX7_week_187 : decode cX7_week 187 = .ok (.goto (-118), 3) := by decide +kernel
theorem dX7_week_190 : decode cX7_week 190 = .ok (.aload_n 0, 1) := by decide +kernel
theorem dX7_week_191 : decode cX7_week 191 = .ok (.getfield 7, 3) := by decide +kernel
theorem dX7_week_194 : decode cX7_week 194 = .ok (.iconst 3, 1) := by decide +kernel
theorem dX7_week_195 : decode cX7_week 195 = .ok (.dup2, 1) := by decide +kernel
theorem dX7_week_196 : decode cX7_week 196 = .ok (.iaload, 1) := by decide +kernel
theorem dX7_week_197 : decode cX7_week 197 = .ok (.iload_n 1, 1) := by decide +kernel
theorem dX7_week_198 : decode cX7_week 198 = .ok (.iadd, 1) := by decide +kernel
theorem dX7_week_199 : decode cX7_week 199 = .ok (.iastore, 1) := by decide +kernel
theorem dX7_week_200 : decode cX7_week 200 = .ok (.iload_n 1, 1) := by decide +kernel
theorem dX7_week_201 : decode cX7_week 201 = .ok (.ireturn, 1) := by decide +kernel
theorem dX7_comes_0 : decode cX7_comes 0 = .ok (.iload_n 1, 1) := by decide +kernel
theorem dX7_comes_1 : decode cX7_comes 1 = .ok (.iconst 2, 1) := by decide +kernel
theorem dX7_comes_2 : decode cX7_comes 2 = .ok (.bipush 40, 2) := by decide +kernel
theorem dX7_comes_4 : decode cX7_comes 4 = .ok (.invokestatic 30, 3) := by decide +kernel
theorem dX7_comes_7 : decode cX7_comes 7 = .ok (.ifCond .ne 6, 3) := by decide +kernel
theorem dX7_comes_10 : decode cX7_comes 10 = .ok (.ldc 22, 2) := by decide +kernel
theorem dX7_comes_12 : decode cX7_comes 12 = .ok (.ireturn, 1) := by decide +kernel
theorem dX7_comes_13 : decode cX7_comes 13 = .ok (.aload_n 0, 1) := by decide +kernel
theorem dX7_comes_14 : decode cX7_comes 14 = .ok (.getfield 7, 3) := by decide +kernel
theorem dX7_comes_17 : decode cX7_comes 17 = .ok (.iconst 0, 1) := by decide +kernel
theorem dX7_comes_18 : decode cX7_comes 18 = .ok (.iaload, 1) := by decide +kernel
theorem dX7_comes_19 : decode cX7_comes 19 = .ok (.bipush 8, 2) := by decide +kernel
theorem dX7_comes_21 : decode cX7_comes 21 = .ok (.if_icmp .ne 6, 3) := by decide +kernel
theorem dX7_comes_24 : decode cX7_comes 24 = .ok (.ldc 66, 2) := by decide +kernel
theorem dX7_comes_26 : decode cX7_comes 26 = .ok (.ireturn, 1) := by decide +kernel
theorem dX7_comes_27 : decode cX7_comes 27 = .ok (.aload_n 0, 1) := by decide +kernel
theorem dX7_comes_28 : decode cX7_comes 28 = .ok (.getfield 7, 3) := by decide +kernel
theorem dX7_comes_31 : decode cX7_comes 31 = .ok (.iconst 0, 1) := by decide +kernel
theorem dX7_comes_32 : decode cX7_comes 32 = .ok (.iaload, 1) := by decide +kernel
theorem dX7_comes_33 : decode cX7_comes 33 = .ok (.istore_n 2, 1) := by decide +kernel
theorem dX7_comes_34 : decode cX7_comes 34 = .ok (.aload_n 0, 1) := by decide +kernel
theorem dX7_comes_35 : decode cX7_comes 35 = .ok (.getfield 7, 3) := by decide +kernel
theorem dX7_comes_38 : decode cX7_comes 38 = .ok (.iconst 0, 1) := by decide +kernel
theorem dX7_comes_39 : decode cX7_comes 39 = .ok (.dup2, 1) := by decide +kernel
theorem dX7_comes_40 : decode cX7_comes 40 = .ok (.iaload, 1) := by decide +kernel
theorem dX7_comes_41 : decode cX7_comes 41 = .ok (.iconst 1, 1) := by decide +kernel
theorem dX7_comes_42 : decode cX7_comes 42 = .ok (.iadd, 1) := by decide +kernel
theorem dX7_comes_43 : decode cX7_comes 43 = .ok (.iastore, 1) := by decide +kernel
theorem dX7_comes_44 : decode cX7_comes 44 = .ok (.iconst 0, 1) := by decide +kernel
theorem dX7_comes_45 : decode cX7_comes 45 = .ok (.istore_n 3, 1) := by decide +kernel
theorem dX7_comes_46 : decode cX7_comes 46 = .ok (.iload_n 3, 1) := by decide +kernel
theorem dX7_comes_47 : decode cX7_comes 47 = .ok (.bipush 12, 2) := by decide +kernel
theorem dX7_comes_49 : decode cX7_comes 49 = .ok (.if_icmp .ge 16, 3) := by decide +kernel
theorem dX7_comes_52 : decode cX7_comes 52 = .ok (.aload_n 0, 1) := by decide +kernel
theorem dX7_comes_53 : decode cX7_comes 53 = .ok (.iload_n 2, 1) := by decide +kernel
theorem dX7_comes_54 : decode cX7_comes 54 = .ok (.iload_n 3, 1) := by decide +kernel
theorem dX7_comes_55 : decode cX7_comes 55 = .ok (.iconst 0, 1) := by decide +kernel
theorem dX7_comes_56 : decode cX7_comes 56 = .ok (.invokevirtual 52, 3) := by decide +kernel
theorem dX7_comes_59 : decode cX7_comes 59 = .ok (.iinc 3 1, 3) := by decide +kernel
theorem dX7_comes_62 : decode cX7_comes 62 = .ok (.goto (-16), 3) := by decide +kernel
theorem dX7_comes_65 : decode cX7_comes 65 = .ok (.aload_n 0, 1) := by decide +kernel
theorem dX7_comes_66 : decode cX7_comes 66 = .ok (.iload_n 2, 1) := by decide +kernel
theorem dX7_comes_67 : decode cX7_comes 67 = .ok (.iconst 0, 1) := by decide +kernel
theorem dX7_comes_68 : decode cX7_comes 68 = .ok (.iload_n 1, 1) := by decide +kernel
theorem dX7_comes_69 : decode cX7_comes 69 = .ok (.invokevirtual 52, 3) := by decide +kernel
theorem dX7_comes_72 : decode cX7_comes 72 = .ok (.aload_n 0, 1) := by decide +kernel
theorem dX7_comes_73 : decode cX7_comes 73 = .ok (.iload_n 2, 1) := by decide +kernel
theorem dX7_comes_74 : decode cX7_comes 74 = .ok (.iconst 1, 1) := by decide +kernel
theorem dX7_comes_75 : decode cX7_comes 75 = .ok (.iload_n 1, 1) := by decide +kernel
theorem dX7_comes_76 : decode cX7_comes 76 = .ok (.invokevirtual 52, 3) := by decide +kernel
theorem dX7_comes_79 : decode cX7_comes 79 = .ok (.aload_n 0, 1) := by decide +kernel
theorem dX7_comes_80 : decode cX7_comes 80 = .ok (.iload_n 2, 1) := by decide +kernel
theorem dX7_comes_81 : decode cX7_comes 81 = .ok (.iconst 4, 1) := by decide +kernel
theorem dX7_comes_82 : decode cX7_comes 82 = .ok (.iconst 1, 1) := by decide +kernel
theorem dX7_comes_83 : decode cX7_comes 83 = .ok (.invokevirtual 52, 3) := by decide +kernel
theorem dX7_comes_86 : decode cX7_comes 86 = .ok (.aload_n 0, 1) := by decide +kernel
theorem dX7_comes_87 : decode cX7_comes 87 = .ok (.iload_n 2, 1) := by decide +kernel
theorem dX7_comes_88 : decode cX7_comes 88 = .ok (.bipush 7, 2) := by decide +kernel
theorem dX7_comes_90 : decode cX7_comes 90 = .ok (.iconst (-1), 1) := by decide +kernel
theorem dX7_comes_91 : decode cX7_comes 91 = .ok (.invokevirtual 52, 3) := by decide +kernel
theorem dX7_comes_94 : decode cX7_comes 94 = .ok (.aload_n 0, 1) := by decide +kernel
theorem dX7_comes_95 : decode cX7_comes 95 = .ok (.iload_n 2, 1) := by decide +kernel
theorem dX7_comes_96 : decode cX7_comes 96 = .ok (.bipush 9, 2) := by decide +kernel
theorem dX7_comes_98 : decode cX7_comes 98 = .ok (.iconst (-1), 1) := by decide +kernel
theorem dX7_comes_99 : decode cX7_comes 99 = .ok (.invokevirtual 52, 3) := by decide +kernel
theorem dX7_comes_102 : decode cX7_comes 102 = .ok (.iload_n 2, 1) := by decide +kernel
theorem dX7_comes_103 : decode cX7_comes 103 = .ok (.ireturn, 1) := by decide +kernel
theorem dX7_inspects_0 : decode cX7_inspects 0 = .ok (.aload_n 0, 1) := by decide +kernel
theorem dX7_inspects_1 : decode cX7_inspects 1 = .ok (.iload_n 1, 1) := by decide +kernel
theorem dX7_inspects_2 : decode cX7_inspects 2 = .ok (.invokevirtual 67, 3) := by decide +kernel
theorem dX7_inspects_5 : decode cX7_inspects 5 = .ok (.ifCond .eq 11, 3) := by decide +kernel
theorem dX7_inspects_8 : decode cX7_inspects 8 = .ok (.aload_n 0, 1) := by decide +kernel
theorem dX7_inspects_9 : decode cX7_inspects 9 = .ok (.iload_n 2, 1) := by decide +kernel
theorem dX7_inspects_10 : decode cX7_inspects 10 = .ok (.invokevirtual 70, 3) := by decide +kernel
theorem dX7_inspects_13 : decode cX7_inspects 13 = .ok (.ifCond .ne 6, 3) := by decide +kernel
theorem dX7_inspects_16 : decode cX7_inspects 16 = .ok (.ldc 22, 2) := by decide +kernel
theorem dX7_inspects_18 : decode cX7_inspects 18 = .ok (.ireturn, 1) := by decide +kernel
theorem dX7_inspects_19 : decode cX7_inspects 19 = .ok (.aload_n 0, 1) := by decide +kernel
theorem dX7_inspects_20 : decode cX7_inspects 20 = .ok (.iload_n 1, 1) := by decide +kernel
theorem dX7_inspects_21 : decode cX7_inspects 21 = .ok (.iload_n 2, 1) := by decide +kernel
theorem dX7_inspects_22 : decode cX7_inspects 22 = .ok (.invokevirtual 73, 3) := by decide +kernel
theorem dX7_inspects_25 : decode cX7_inspects 25 = .ok (.ifCond .le 6, 3) := by decide +kernel
theorem dX7_inspects_28 : decode cX7_inspects 28 = .ok (.ldc 76, 2) := by decide +kernel
theorem dX7_inspects_30 : decode cX7_inspects 30 = .ok (.ireturn, 1) := by decide +kernel
theorem dX7_inspects_31 : decode cX7_inspects 31 = .ok (.aload_n 0, 1) := by decide +kernel
theorem dX7_inspects_32 : decode cX7_inspects 32 = .ok (.iload_n 2, 1) := by decide +kernel
theorem dX7_inspects_33 : decode cX7_inspects 33 = .ok (.iconst 0, 1) := by decide +kernel
theorem dX7_inspects_34 : decode cX7_inspects 34 = .ok (.invokevirtual 49, 3) := by decide +kernel
theorem dX7_inspects_37 : decode cX7_inspects 37 = .ok (.istore_n 3, 1) := by decide +kernel
theorem dX7_inspects_38 : decode cX7_inspects 38 = .ok (.aload_n 0, 1) := by decide +kernel
theorem dX7_inspects_39 : decode cX7_inspects 39 = .ok (.iload_n 1, 1) := by decide +kernel
theorem dX7_inspects_40 : decode cX7_inspects 40 = .ok (.iload_n 3, 1) := by decide +kernel
theorem dX7_inspects_41 : decode cX7_inspects 41 = .ok (.invokevirtual 77, 3) := by decide +kernel
theorem dX7_inspects_44 : decode cX7_inspects 44 = .ok (.istore 4, 2) := by decide +kernel
theorem dX7_inspects_46 : decode cX7_inspects 46 = .ok (.aload_n 0, 1) := by decide +kernel
theorem dX7_inspects_47 : decode cX7_inspects 47 = .ok (.iload_n 3, 1) := by decide +kernel
theorem dX7_inspects_48 : decode cX7_inspects 48 = .ok (.aload_n 0, 1) := by decide +kernel
theorem dX7_inspects_49 : decode cX7_inspects 49 = .ok (.getfield 7, 3) := by decide +kernel
theorem dX7_inspects_52 : decode cX7_inspects 52 = .ok (.bipush 9, 2) := by decide +kernel
theorem dX7_inspects_54 : decode cX7_inspects 54 = .ok (.iaload, 1) := by decide +kernel
theorem dX7_inspects_55 : decode cX7_inspects 55 = .ok (.invokevirtual 80, 3) := by decide +kernel
theorem dX7_inspects_58 : decode cX7_inspects 58 = .ok (.aload_n 0, 1) := by decide +kernel
theorem dX7_inspects_59 : decode cX7_inspects 59 = .ok (.iload_n 2, 1) := by decide +kernel
theorem dX7_inspects_60 : decode cX7_inspects 60 = .ok (.iconst 2, 1) := by decide +kernel
theorem dX7_inspects_61 : decode cX7_inspects 61 = .ok (.invokevirtual 84, 3) := by decide +kernel
theorem dX7_inspects_64 : decode cX7_inspects 64 = .ok (.aload_n 0, 1) := by decide +kernel
theorem dX7_inspects_65 : decode cX7_inspects 65 = .ok (.iload_n 2, 1) := by decide +kernel
theorem dX7_inspects_66 : decode cX7_inspects 66 = .ok (.iconst 3, 1) := by decide +kernel
theorem dX7_inspects_67 : decode cX7_inspects 67 = .ok (.invokevirtual 84, 3) := by decide +kernel
theorem dX7_inspects_70 : decode cX7_inspects 70 = .ok (.aload_n 0, 1) := by decide +kernel
theorem dX7_inspects_71 : decode cX7_inspects 71 = .ok (.getfield 7, 3) := by decide +kernel
theorem dX7_inspects_74 : decode cX7_inspects 74 = .ok (.iconst 5, 1) := by decide +kernel
theorem dX7_inspects_75 : decode cX7_inspects 75 = .ok (.dup2, 1) := by decide +kernel
theorem dX7_inspects_76 : decode cX7_inspects 76 = .ok (.iaload, 1) := by decide +kernel
theorem dX7_inspects_77 : decode cX7_inspects 77 = .ok (.iconst 1, 1) := by decide +kernel
theorem dX7_inspects_78 : decode cX7_inspects 78 = .ok (.iadd, 1) := by decide +kernel
theorem dX7_inspects_79 : decode cX7_inspects 79 = .ok (.iastore, 1) := by decide +kernel
theorem dX7_inspects_80 : decode cX7_inspects 80 = .ok (.aload_n 0, 1) := by decide +kernel
theorem dX7_inspects_81 : decode cX7_inspects 81 = .ok (.iload_n 1, 1) := by decide +kernel
theorem dX7_inspects_82 : decode cX7_inspects 82 = .ok (.bipush 9, 2) := by decide +kernel
theorem dX7_inspects_84 : decode cX7_inspects 84 = .ok (.iload 4, 2) := by decide +kernel
theorem dX7_inspects_86 : decode cX7_inspects 86 = .ok (.ifCond .ne 7, 3) := by decide +kernel
theorem dX7_inspects_89 : decode cX7_inspects 89 = .ok (.iconst (-1), 1) := by decide +kernel
theorem dX7_inspects_90 : decode cX7_inspects 90 = .ok (.goto 4, 3) := by decide +kernel
theorem dX7_inspects_93 : decode cX7_inspects 93 = .ok (.iload_n 3, 1) := by decide +kernel
theorem dX7_inspects_94 : decode cX7_inspects 94 = .ok (.invokevirtual 52, 3) := by decide +kernel
theorem dX7_inspects_97 : decode cX7_inspects 97 = .ok (.aload_n 0, 1) := by decide +kernel
theorem dX7_inspects_98 : decode cX7_inspects 98 = .ok (.iload_n 1, 1) := by decide +kernel
theorem dX7_inspects_99 : decode cX7_inspects 99 = .ok (.bipush 10, 2) := by decide +kernel
theorem dX7_inspects_101 : decode cX7_inspects 101 = .ok (.iload 4, 2) := by decide +kernel
theorem dX7_inspects_103 : decode cX7_inspects 103 = .ok (.invokevirtual 52, 3) := by decide +kernel
theorem dX7_inspects_106 : decode cX7_inspects 106 = .ok (.aload_n 0, 1) := by decide +kernel
theorem dX7_inspects_107 : decode cX7_inspects 107 = .ok (.iload_n 1, 1) := by decide +kernel
theorem dX7_inspects_108 : decode cX7_inspects 108 = .ok (.bipush 11, 2) := by decide +kernel
theorem dX7_inspects_110 : decode cX7_inspects 110 = .ok (.aload_n 0, 1) := by decide +kernel
theorem dX7_inspects_111 : decode cX7_inspects 111 = .ok (.iload_n 1, 1) := by decide +kernel
theorem dX7_inspects_112 : decode cX7_inspects 112 = .ok (.iload_n 3, 1) := by decide +kernel
theorem dX7_inspects_113 : decode cX7_inspects 113 = .ok (.invokevirtual 87, 3) := by decide +kernel
theorem dX7_inspects_116 : decode cX7_inspects 116 = .ok (.invokevirtual 52, 3) := by decide +kernel
theorem dX7_inspects_119 : decode cX7_inspects 119 = .ok (.iload 4, 2) := by decide +kernel
theorem dX7_inspects_121 : decode cX7_inspects 121 = .ok (.ifCond .ne 14, 3) := by decide +kernel
theorem dX7_inspects_124 : decode cX7_inspects 124 = .ok (.aload_n 0, 1) := by decide +kernel
theorem dX7_inspects_125 : decode cX7_inspects 125 = .ok (.iload_n 1, 1) := by decide +kernel
theorem dX7_inspects_126 : decode cX7_inspects 126 = .ok (.bipush 6, 2) := by decide +kernel
theorem dX7_inspects_128 : decode cX7_inspects 128 = .ok (.iconst 1, 1) := by decide +kernel
theorem dX7_inspects_129 : decode cX7_inspects 129 = .ok (.invokevirtual 52, 3) := by decide +kernel
theorem dX7_inspects_132 : decode cX7_inspects 132 = .ok (.goto 20, 3) := by decide +kernel
theorem dX7_inspects_135 : decode cX7_inspects 135 = .ok (.aload_n 0, 1) := by decide +kernel
theorem dX7_inspects_136 : decode cX7_inspects 136 = .ok (.iload_n 2, 1) := by decide +kernel
theorem dX7_inspects_137 : decode cX7_inspects 137 = .ok (.iconst 4, 1) := by decide +kernel
theorem dX7_inspects_138 : decode cX7_inspects 138 = .ok (.invokevirtual 84, 3) := by decide +kernel
theorem dX7_inspects_141 : decode cX7_inspects 141 = .ok (.aload_n 0, 1) := by decide +kernel
theorem dX7_inspects_142 : decode cX7_inspects 142 = .ok (.getfield 7, 3) := by decide +kernel
theorem dX7_inspects_145 : decode cX7_inspects 145 = .ok (.bipush 6, 2) := by decide +kernel
theorem dX7_inspects_147 : decode cX7_inspects 147 = .ok (.dup2, 1) := by decide +kernel
theorem dX7_inspects_148 : decode cX7_inspects 148 = .ok (.iaload, 1) := by decide +kernel
theorem dX7_inspects_149 : decode cX7_inspects 149 = .ok (.iconst 1, 1) := by decide +kernel
theorem dX7_inspects_150 : decode cX7_inspects 150 = .ok (.iadd, 1) := by decide +kernel
theorem dX7_inspects_151 : decode cX7_inspects 151 = .ok (.iastore, 1) := by decide +kernel
theorem dX7_inspects_152 : decode cX7_inspects 152 = .ok (.iload 4, 2) := by decide +kernel
theorem dX7_inspects_154 : decode cX7_inspects 154 = .ok (.ireturn, 1) := by decide +kernel
theorem dX7_fires_0 : decode cX7_fires 0 = .ok (.aload_n 0, 1) := by decide +kernel
theorem dX7_fires_1 : decode cX7_fires 1 = .ok (.iload_n 1, 1) := by decide +kernel
theorem dX7_fires_2 : decode cX7_fires 2 = .ok (.invokevirtual 67, 3) := by decide +kernel
theorem dX7_fires_5 : decode cX7_fires 5 = .ok (.ifCond .ne 6, 3) := by decide +kernel
theorem dX7_fires_8 : decode cX7_fires 8 = .ok (.ldc 22, 2) := by decide +kernel
theorem dX7_fires_10 : decode cX7_fires 10 = .ok (.ireturn, 1) := by decide +kernel
theorem dX7_fires_11 : decode cX7_fires 11 = .ok (.aload_n 0, 1) := by decide +kernel
theorem dX7_fires_12 : decode cX7_fires 12 = .ok (.iload_n 1, 1) := by decide +kernel
theorem dX7_fires_13 : decode cX7_fires 13 = .ok (.invokevirtual 90, 3) := by decide +kernel
theorem dX7_fires_16 : decode cX7_fires 16 = .ok (.ifCond .le 6, 3) := by decide +kernel
theorem dX7_fires_19 : decode cX7_fires 19 = .ok (.ldc 76, 2) := by decide +kernel
theorem dX7_fires_21 : decode cX7_fires 21 = .ok (.ireturn, 1) := by decide +kernel
theorem dX7_fires_22 : decode cX7_fires 22 = .ok (.aload_n 0, 1) := by decide +kernel
theorem dX7_fires_23 : decode cX7_fires 23 = .ok (.iload_n 1, 1) := by decide +kernel
theorem dX7_fires_24 : decode cX7_fires 24 = .ok (.iconst 3, 1) := by decide +kernel
theorem dX7_fires_25 : decode cX7_fires 25 = .ok (.iconst 1, 1) := by decide +kernel
theorem dX7_fires_26 : decode cX7_fires 26 = .ok (.invokevirtual 52, 3) := by decide +kernel
theorem dX7_fires_29 : decode cX7_fires 29 = .ok (.aload_n 0, 1) := by decide +kernel
theorem dX7_fires_30 : decode cX7_fires 30 = .ok (.iload_n 1, 1) := by decide +kernel
theorem dX7_fires_31 : decode cX7_fires 31 = .ok (.bipush 11, 2) := by decide +kernel
theorem dX7_fires_33 : decode cX7_fires 33 = .ok (.invokevirtual 34, 3) := by decide +kernel
theorem dX7_fires_36 : decode cX7_fires 36 = .ok (.aload_n 0, 1) := by decide +kernel
theorem dX7_fires_37 : decode cX7_fires 37 = .ok (.getfield 7, 3) := by decide +kernel
theorem dX7_fires_40 : decode cX7_fires 40 = .ok (.iconst 2, 1) := by decide +kernel
theorem dX7_fires_41 : decode cX7_fires 41 = .ok (.iaload, 1) := by decide +kernel
theorem dX7_fires_42 : decode cX7_fires 42 = .ok (.isub, 1) := by decide +kernel
theorem dX7_fires_43 : decode cX7_fires 43 = .ok (.iconst 1, 1) := by decide +kernel
theorem dX7_fires_44 : decode cX7_fires 44 = .ok (.iadd, 1) := by decide +kernel
theorem dX7_fires_45 : decode cX7_fires 45 = .ok (.ireturn, 1) := by decide +kernel
theorem dX7_puts_0 : decode cX7_puts 0 = .ok (.aload_n 0, 1) := by decide +kernel
theorem dX7_puts_1 : decode cX7_puts 1 = .ok (.iload_n 1, 1) := by decide +kernel
theorem dX7_puts_2 : decode cX7_puts 2 = .ok (.invokevirtual 67, 3) := by decide +kernel
theorem dX7_puts_5 : decode cX7_puts 5 = .ok (.ifCond .ne 6, 3) := by decide +kernel
theorem dX7_puts_8 : decode cX7_puts 8 = .ok (.ldc 22, 2) := by decide +kernel
theorem dX7_puts_10 : decode cX7_puts 10 = .ok (.ireturn, 1) := by decide +kernel
theorem dX7_puts_11 : decode cX7_puts 11 = .ok (.aload_n 0, 1) := by decide +kernel
theorem dX7_puts_12 : decode cX7_puts 12 = .ok (.iload_n 1, 1) := by decide +kernel
theorem dX7_puts_13 : decode cX7_puts 13 = .ok (.iconst 3, 1) := by decide +kernel
theorem dX7_puts_14 : decode cX7_puts 14 = .ok (.invokevirtual 34, 3) := by decide +kernel
theorem dX7_puts_17 : decode cX7_puts 17 = .ok (.iconst 1, 1) := by decide +kernel
theorem dX7_puts_18 : decode cX7_puts 18 = .ok (.if_icmp .eq 6, 3) := by decide +kernel
theorem dX7_puts_21 : decode cX7_puts 21 = .ok (.ldc 76, 2) := by decide +kernel
theorem dX7_puts_23 : decode cX7_puts 23 = .ok (.ireturn, 1) := by decide +kernel
theorem dX7_puts_24 : decode cX7_puts 24 = .ok (.aload_n 0, 1) := by decide +kernel
theorem dX7_puts_25 : decode cX7_puts 25 = .ok (.iload_n 1, 1) := by decide +kernel
theorem dX7_puts_26 : decode cX7_puts 26 = .ok (.invokevirtual 56, 3) := by decide +kernel
theorem dX7_puts_29 : decode cX7_puts 29 = .ok (.aload_n 0, 1) := by decide +kernel
theorem dX7_puts_30 : decode cX7_puts 30 = .ok (.iload_n 1, 1) := by decide +kernel
theorem dX7_puts_31 : decode cX7_puts 31 = .ok (.iconst 2, 1) := by decide +kernel
theorem dX7_puts_32 : decode cX7_puts 32 = .ok (.invokevirtual 34, 3) := by decide +kernel
theorem dX7_puts_35 : decode cX7_puts 35 = .ok (.ireturn, 1) := by decide +kernel
theorem dX7_sends_0 : decode cX7_sends 0 = .ok (.aload_n 0, 1) := by decide +kernel
theorem dX7_sends_1 : decode cX7_sends 1 = .ok (.iload_n 1, 1) := by decide +kernel
theorem dX7_sends_2 : decode cX7_sends 2 = .ok (.invokevirtual 67, 3) := by decide +kernel
theorem dX7_sends_5 : decode cX7_sends 5 = .ok (.ifCond .ne 6, 3) := by decide +kernel
theorem dX7_sends_8 : decode cX7_sends 8 = .ok (.ldc 22, 2) := by decide +kernel
theorem dX7_sends_10 : decode cX7_sends 10 = .ok (.ireturn, 1) := by decide +kernel
theorem dX7_sends_11 : decode cX7_sends 11 = .ok (.aload_n 0, 1) := by decide +kernel
theorem dX7_sends_12 : decode cX7_sends 12 = .ok (.iload_n 1, 1) := by decide +kernel
theorem dX7_sends_13 : decode cX7_sends 13 = .ok (.iconst 3, 1) := by decide +kernel
theorem dX7_sends_14 : decode cX7_sends 14 = .ok (.invokevirtual 34, 3) := by decide +kernel
theorem dX7_sends_17 : decode cX7_sends 17 = .ok (.ifCond .eq 6, 3) := by decide +kernel
theorem dX7_sends_20 : decode cX7_sends 20 = .ok (.ldc 76, 2) := by decide +kernel
theorem dX7_sends_22 : decode cX7_sends 22 = .ok (.ireturn, 1) := by decide +kernel
theorem dX7_sends_23 : decode cX7_sends 23 = .ok (.aload_n 0, 1) := by decide +kernel
theorem dX7_sends_24 : decode cX7_sends 24 = .ok (.iload_n 1, 1) := by decide +kernel
theorem dX7_sends_25 : decode cX7_sends 25 = .ok (.iconst 2, 1) := by decide +kernel
theorem dX7_sends_26 : decode cX7_sends 26 = .ok (.invokevirtual 34, 3) := by decide +kernel
theorem dX7_sends_29 : decode cX7_sends 29 = .ok (.bipush 10, 2) := by decide +kernel
theorem dX7_sends_31 : decode cX7_sends 31 = .ok (.idiv, 1) := by decide +kernel
theorem dX7_sends_32 : decode cX7_sends 32 = .ok (.iconst 1, 1) := by decide +kernel
theorem dX7_sends_33 : decode cX7_sends 33 = .ok (.iadd, 1) := by decide +kernel
theorem dX7_sends_34 : decode cX7_sends 34 = .ok (.istore_n 2, 1) := by decide +kernel
theorem dX7_sends_35 : decode cX7_sends 35 = .ok (.aload_n 0, 1) := by decide +kernel
theorem dX7_sends_36 : decode cX7_sends 36 = .ok (.iconst 2, 1) := by decide +kernel
theorem dX7_sends_37 : decode cX7_sends 37 = .ok (.aload_n 0, 1) := by decide +kernel
theorem dX7_sends_38 : decode cX7_sends 38 = .ok (.getfield 7, 3) := by decide +kernel
theorem dX7_sends_41 : decode cX7_sends 41 = .ok (.bipush 10, 2) := by decide +kernel
theorem dX7_sends_43 : decode cX7_sends 43 = .ok (.iaload, 1) := by decide +kernel
theorem dX7_sends_44 : decode cX7_sends 44 = .ok (.iload_n 2, 1) := by decide +kernel
theorem dX7_sends_45 : decode cX7_sends 45 = .ok (.imul, 1) := by decide +kernel
theorem dX7_sends_46 : decode cX7_sends 46 = .ok (.invokevirtual 80, 3) := by decide +kernel
theorem dX7_sends_49 : decode cX7_sends 49 = .ok (.aload_n 0, 1) := by decide +kernel
theorem dX7_sends_50 : decode cX7_sends 50 = .ok (.getfield 7, 3) := by decide +kernel
theorem dX7_sends_53 : decode cX7_sends 53 = .ok (.iconst 4, 1) := by decide +kernel
theorem dX7_sends_54 : decode cX7_sends 54 = .ok (.dup2, 1) := by decide +kernel
theorem dX7_sends_55 : decode cX7_sends 55 = .ok (.iaload, 1) := by decide +kernel
theorem dX7_sends_56 : decode cX7_sends 56 = .ok (.iload_n 2, 1) := by decide +kernel
theorem dX7_sends_57 : decode cX7_sends 57 = .ok (.iadd, 1) := by decide +kernel
theorem dX7_sends_58 : decode cX7_sends 58 = .ok (.iastore, 1) := by decide +kernel
theorem dX7_sends_59 : decode cX7_sends 59 = .ok (.aload_n 0, 1) := by decide +kernel
theorem dX7_sends_60 : decode cX7_sends 60 = .ok (.iload_n 1, 1) := by decide +kernel
theorem dX7_sends_61 : decode cX7_sends 61 = .ok (.iconst 3, 1) := by decide +kernel
theorem dX7_sends_62 : decode cX7_sends 62 = .ok (.iconst 2, 1) := by decide +kernel
theorem dX7_sends_63 : decode cX7_sends 63 = .ok (.invokevirtual 52, 3) := by decide +kernel
theorem dX7_sends_66 : decode cX7_sends 66 = .ok (.aload_n 0, 1) := by decide +kernel
theorem dX7_sends_67 : decode cX7_sends 67 = .ok (.iload_n 1, 1) := by decide +kernel
theorem dX7_sends_68 : decode cX7_sends 68 = .ok (.iconst 5, 1) := by decide +kernel
theorem dX7_sends_69 : decode cX7_sends 69 = .ok (.aload_n 0, 1) := by decide +kernel
theorem dX7_sends_70 : decode cX7_sends 70 = .ok (.getfield 7, 3) := by decide +kernel
theorem dX7_sends_73 : decode cX7_sends 73 = .ok (.iconst 2, 1) := by decide +kernel
theorem dX7_sends_74 : decode cX7_sends 74 = .ok (.iaload, 1) := by decide +kernel
theorem dX7_sends_75 : decode cX7_sends 75 = .ok (.iload_n 2, 1) := by decide +kernel
theorem dX7_sends_76 : decode cX7_sends 76 = .ok (.iadd, 1) := by decide +kernel
theorem dX7_sends_77 : decode cX7_sends 77 = .ok (.invokevirtual 52, 3) := by decide +kernel
theorem dX7_sends_80 : decode cX7_sends 80 = .ok (.iload_n 2, 1) := by decide +kernel
theorem dX7_sends_81 : decode cX7_sends 81 = .ok (.ireturn, 1) := by decide +kernel
theorem dX7_passes_0 : decode cX7_passes 0 = .ok (.iload_n 1, 1) := by decide +kernel
theorem dX7_passes_1 : decode cX7_passes 1 = .ok (.iconst 1, 1) := by decide +kernel
theorem dX7_passes_2 : decode cX7_passes 2 = .ok (.bipush 60, 2) := by decide +kernel
theorem dX7_passes_4 : decode cX7_passes 4 = .ok (.invokestatic 30, 3) := by decide +kernel
theorem dX7_passes_7 : decode cX7_passes 7 = .ok (.ifCond .ne 6, 3) := by decide +kernel
theorem dX7_passes_10 : decode cX7_passes 10 = .ok (.ldc 22, 2) := by decide +kernel
theorem dX7_passes_12 : decode cX7_passes 12 = .ok (.ireturn, 1) := by decide +kernel
theorem dX7_passes_13 : decode cX7_passes 13 = .ok (.aload_n 0, 1) := by decide +kernel
theorem dX7_passes_14 : decode cX7_passes 14 = .ok (.getfield 7, 3) := by decide +kernel
theorem dX7_passes_17 : decode cX7_passes 17 = .ok (.iconst 2, 1) := by decide +kernel
theorem dX7_passes_18 : decode cX7_passes 18 = .ok (.iaload, 1) := by decide +kernel
theorem dX7_passes_19 : decode cX7_passes 19 = .ok (.iload_n 1, 1) := by decide +kernel
theorem dX7_passes_20 : decode cX7_passes 20 = .ok (.iadd, 1) := by decide +kernel
theorem dX7_passes_21 : decode cX7_passes 21 = .ok (.sipush 9999, 3) := by decide +kernel
theorem dX7_passes_24 : decode cX7_passes 24 = .ok (.if_icmp .le 6, 3) := by decide +kernel
theorem dX7_passes_27 : decode cX7_passes 27 = .ok (.ldc 66, 2) := by decide +kernel
theorem dX7_passes_29 : decode cX7_passes 29 = .ok (.ireturn, 1) := by decide +kernel
theorem dX7_passes_30 : decode cX7_passes 30 = .ok (.iconst 0, 1) := by decide +kernel
theorem dX7_passes_31 : decode cX7_passes 31 = .ok (.istore_n 2, 1) := by decide +kernel
theorem dX7_passes_32 : decode cX7_passes 32 = .ok (.iconst 0, 1) := by decide +kernel
theorem dX7_passes_33 : decode cX7_passes 33 = .ok (.istore_n 3, 1) := by decide +kernel
theorem dX7_passes_34 : decode cX7_passes 34 = .ok (.iload_n 3, 1) := by decide +kernel
theorem dX7_passes_35 : decode cX7_passes 35 = .ok (.iload_n 1, 1) := by decide +kernel
theorem dX7_passes_36 : decode cX7_passes 36 = .ok (.if_icmp .ge 16, 3) := by decide +kernel
theorem dX7_passes_39 : decode cX7_passes 39 = .ok (.iload_n 2, 1) := by decide +kernel
theorem dX7_passes_40 : decode cX7_passes 40 = .ok (.aload_n 0, 1) := by decide +kernel
theorem dX7_passes_41 : decode cX7_passes 41 = .ok (.invokevirtual 93, 3) := by decide +kernel
theorem dX7_passes_44 : decode cX7_passes 44 = .ok (.iadd, 1) := by decide +kernel
theorem dX7_passes_45 : decode cX7_passes 45 = .ok (.istore_n 2, 1) := by decide +kernel
theorem dX7_passes_46 : decode cX7_passes 46 = .ok (.iinc 3 1, 3) := by decide +kernel
theorem dX7_passes_49 : decode cX7_passes 49 = .ok (.goto (-15), 3) := by decide +kernel
theorem dX7_passes_52 : decode cX7_passes 52 = .ok (.iload_n 2, 1) := by decide +kernel
theorem dX7_passes_53 : decode cX7_passes 53 = .ok (.ireturn, 1) := by decide +kernel
theorem dX7_boiler_0 : decode cX7_boiler 0 = .ok (.aload_n 0, 1) := by decide +kernel
theorem dX7_boiler_1 : decode cX7_boiler 1 = .ok (.invokevirtual 97, 3) := by decide +kernel
theorem dX7_boiler_4 : decode cX7_boiler 4 = .ok (.aload_n 0, 1) := by decide +kernel
theorem dX7_boiler_5 : decode cX7_boiler 5 = .ok (.aload_n 0, 1) := by decide +kernel
theorem dX7_boiler_6 : decode cX7_boiler 6 = .ok (.iload_n 1, 1) := by decide +kernel
theorem dX7_boiler_7 : decode cX7_boiler 7 = .ok (.invokevirtual 100, 3) := by decide +kernel
theorem dX7_boiler_10 : decode cX7_boiler 10 = .ok (.invokevirtual 103, 3) := by decide +kernel
theorem dX7_boiler_13 : decode cX7_boiler 13 = .ok (.ireturn, 1) := by decide +kernel
theorem dX7_inspector_0 : decode cX7_inspector 0 = .ok (.aload_n 0, 1) := by decide +kernel
theorem dX7_inspector_1 : decode cX7_inspector 1 = .ok (.invokevirtual 97, 3) := by decide +kernel
theorem dX7_inspector_4 : decode cX7_inspector 4 = .ok (.iload_n 1, 1) := by decide +kernel
theorem dX7_inspector_5 : decode cX7_inspector 5 = .ok (.iconst 0, 1) := by decide +kernel
theorem dX7_inspector_6 : decode cX7_inspector 6 = .ok (.iconst 1, 1) := by decide +kernel
theorem dX7_inspector_7 : decode cX7_inspector 7 = .ok (.invokestatic 30, 3) := by decide +kernel
theorem dX7_inspector_10 : decode cX7_inspector 10 = .ok (.ifCond .eq 12, 3) := by decide +kernel
theorem dX7_inspector_13 : decode cX7_inspector 13 = .ok (.iload_n 2, 1) := by decide +kernel
theorem dX7_inspector_14 : decode cX7_inspector 14 = .ok (.iconst 1, 1) := by decide +kernel
theorem dX7_inspector_15 : decode cX7_inspector 15 = .ok (.iconst 3, 1) := by decide +kernel
theorem dX7_inspector_16 : decode cX7_inspector 16 = .ok (.invokestatic 30, 3) := by decide +kernel
theorem dX7_inspector_19 : decode cX7_inspector 19 = .ok (.ifCond .ne 6, 3) := by decide +kernel
theorem dX7_inspector_22 : decode cX7_inspector 22 = .ok (.ldc 22, 2) := by decide +kernel
theorem dX7_inspector_24 : decode cX7_inspector 24 = .ok (.ireturn, 1) := by decide +kernel
theorem dX7_inspector_25 : decode cX7_inspector 25 = .ok (.aload_n 0, 1) := by decide +kernel
theorem dX7_inspector_26 : decode cX7_inspector 26 = .ok (.getfield 7, 3) := by decide +kernel
theorem dX7_inspector_29 : decode cX7_inspector 29 = .ok (.iconst 1, 1) := by decide +kernel
theorem dX7_inspector_30 : decode cX7_inspector 30 = .ok (.iaload, 1) := by decide +kernel
theorem dX7_inspector_31 : decode cX7_inspector 31 = .ok (.bipush 6, 2) := by decide +kernel
theorem dX7_inspector_33 : decode cX7_inspector 33 = .ok (.if_icmp .ne 6, 3) := by decide +kernel
theorem dX7_inspector_36 : decode cX7_inspector 36 = .ok (.ldc 66, 2) := by decide +kernel
theorem dX7_inspector_38 : decode cX7_inspector 38 = .ok (.ireturn, 1) := by decide +kernel
theorem dX7_inspector_39 : decode cX7_inspector 39 = .ok (.bipush 111, 2) := by decide +kernel
theorem dX7_inspector_41 : decode cX7_inspector 41 = .ok (.iconst 5, 1) := by decide +kernel
theorem dX7_inspector_42 : decode cX7_inspector 42 = .ok (.aload_n 0, 1) := by decide +kernel
theorem dX7_inspector_43 : decode cX7_inspector 43 = .ok (.getfield 7, 3) := by decide +kernel
theorem dX7_inspector_46 : decode cX7_inspector 46 = .ok (.iconst 1, 1) := by decide +kernel
theorem dX7_inspector_47 : decode cX7_inspector 47 = .ok (.iaload, 1) := by decide +kernel
theorem dX7_inspector_48 : decode cX7_inspector 48 = .ok (.imul, 1) := by decide +kernel
theorem dX7_inspector_49 : decode cX7_inspector 49 = .ok (.iadd, 1) := by decide +kernel
theorem dX7_inspector_50 : decode cX7_inspector 50 = .ok (.istore_n 3, 1) := by decide +kernel
theorem dX7_inspector_51 : decode cX7_inspector 51 = .ok (.aload_n 0, 1) := by decide +kernel
theorem dX7_inspector_52 : decode cX7_inspector 52 = .ok (.getfield 7, 3) := by decide +kernel
theorem dX7_inspector_55 : decode cX7_inspector 55 = .ok (.iload_n 3, 1) := by decide +kernel
theorem dX7_inspector_56 : decode cX7_inspector 56 = .ok (.iconst 0, 1) := by decide +kernel
theorem dX7_inspector_57 : decode cX7_inspector 57 = .ok (.iadd, 1) := by decide +kernel
theorem dX7_inspector_58 : decode cX7_inspector 58 = .ok (.iload_n 1, 1) := by decide +kernel
theorem dX7_inspector_59 : decode cX7_inspector 59 = .ok (.iastore, 1) := by decide +kernel
theorem dX7_inspector_60 : decode cX7_inspector 60 = .ok (.aload_n 0, 1) := by decide +kernel
theorem dX7_inspector_61 : decode cX7_inspector 61 = .ok (.getfield 7, 3) := by decide +kernel
theorem dX7_inspector_64 : decode cX7_inspector 64 = .ok (.iload_n 3, 1) := by decide +kernel
theorem dX7_inspector_65 : decode cX7_inspector 65 = .ok (.iconst 1, 1) := by decide +kernel
theorem dX7_inspector_66 : decode cX7_inspector 66 = .ok (.iadd, 1) := by decide +kernel
theorem dX7_inspector_67 : decode cX7_inspector 67 = .ok (.iload_n 2, 1) := by decide +kernel
theorem dX7_inspector_68 : decode cX7_inspector 68 = .ok (.iastore, 1) := by decide +kernel
theorem dX7_inspector_69 : decode cX7_inspector 69 = .ok (.aload_n 0, 1) := by decide +kernel
theorem dX7_inspector_70 : decode cX7_inspector 70 = .ok (.getfield 7, 3) := by decide +kernel
theorem dX7_inspector_73 : decode cX7_inspector 73 = .ok (.iload_n 3, 1) := by decide +kernel
theorem dX7_inspector_74 : decode cX7_inspector 74 = .ok (.iconst 2, 1) := by decide +kernel
theorem dX7_inspector_75 : decode cX7_inspector 75 = .ok (.iadd, 1) := by decide +kernel
theorem dX7_inspector_76 : decode cX7_inspector 76 = .ok (.iconst 0, 1) := by decide +kernel
theorem dX7_inspector_77 : decode cX7_inspector 77 = .ok (.iastore, 1) := by decide +kernel
theorem dX7_inspector_78 : decode cX7_inspector 78 = .ok (.aload_n 0, 1) := by decide +kernel
theorem dX7_inspector_79 : decode cX7_inspector 79 = .ok (.getfield 7, 3) := by decide +kernel
theorem dX7_inspector_82 : decode cX7_inspector 82 = .ok (.iload_n 3, 1) := by decide +kernel
theorem dX7_inspector_83 : decode cX7_inspector 83 = .ok (.iconst 3, 1) := by decide +kernel
theorem dX7_inspector_84 : decode cX7_inspector 84 = .ok (.iadd, 1) := by decide +kernel
theorem dX7_inspector_85 : decode cX7_inspector 85 = .ok (.iconst 0, 1) := by decide +kernel
theorem dX7_inspector_86 : decode cX7_inspector 86 = .ok (.iastore, 1) := by decide +kernel
theorem dX7_inspector_87 : decode cX7_inspector 87 = .ok (.aload_n 0, 1) := by decide +kernel
theorem dX7_inspector_88 : decode cX7_inspector 88 = .ok (.getfield 7, 3) := by decide +kernel
theorem dX7_inspector_91 : decode cX7_inspector 91 = .ok (.iload_n 3, 1) := by decide +kernel
theorem dX7_inspector_92 : decode cX7_inspector 92 = .ok (.iconst 4, 1) := by decide +kernel
theorem dX7_inspector_93 : decode cX7_inspector 93 = .ok (.iadd, 1) := by decide +kernel
theorem dX7_inspector_94 : decode cX7_inspector 94 = .ok (.iconst 0, 1) := by decide +kernel
theorem dX7_inspector_95 : decode cX7_inspector 95 = .ok (.iastore, 1) := by decide +kernel
theorem dX7_inspector_96 : decode cX7_inspector 96 = .ok (.aload_n 0, 1) := by decide +kernel
theorem dX7_inspector_97 : decode cX7_inspector 97 = .ok (.getfield 7, 3) := by decide +kernel
theorem dX7_inspector_100 : decode cX7_inspector 100 = .ok (.iconst 1, 1) := by decide +kernel
theorem dX7_inspector_101 : decode cX7_inspector 101 = .ok (.dup2, 1) := by decide +kernel
theorem dX7_inspector_102 : decode cX7_inspector 102 = .ok (.iaload, 1) := by decide +kernel
theorem dX7_inspector_103 : decode cX7_inspector 103 = .ok (.iconst 1, 1) := by decide +kernel
theorem dX7_inspector_104 : decode cX7_inspector 104 = .ok (.iadd, 1) := by decide +kernel
theorem dX7_inspector_105 : decode cX7_inspector 105 = .ok (.iastore, 1) := by decide +kernel
theorem dX7_inspector_106 : decode cX7_inspector 106 = .ok (.aload_n 0, 1) := by decide +kernel
theorem dX7_inspector_107 : decode cX7_inspector 107 = .ok (.aload_n 0, 1) := by decide +kernel
theorem dX7_inspector_108 : decode cX7_inspector 108 = .ok (.getfield 7, 3) := by decide +kernel
theorem dX7_inspector_111 : decode cX7_inspector 111 = .ok (.iconst 1, 1) := by decide +kernel
theorem dX7_inspector_112 : decode cX7_inspector 112 = .ok (.iaload, 1) := by decide +kernel
theorem dX7_inspector_113 : decode cX7_inspector 113 = .ok (.iconst 1, 1) := by decide +kernel
theorem dX7_inspector_114 : decode cX7_inspector 114 = .ok (.isub, 1) := by decide +kernel
theorem dX7_inspector_115 : decode cX7_inspector 115 = .ok (.invokevirtual 103, 3) := by decide +kernel
theorem dX7_inspector_118 : decode cX7_inspector 118 = .ok (.ireturn, 1) := by decide +kernel
theorem dX7_press_0 : decode cX7_press 0 = .ok (.aload_n 0, 1) := by decide +kernel
theorem dX7_press_1 : decode cX7_press 1 = .ok (.invokevirtual 97, 3) := by decide +kernel
theorem dX7_press_4 : decode cX7_press 4 = .ok (.aload_n 0, 1) := by decide +kernel
theorem dX7_press_5 : decode cX7_press 5 = .ok (.iload_n 1, 1) := by decide +kernel
theorem dX7_press_6 : decode cX7_press 6 = .ok (.invokevirtual 67, 3) := by decide +kernel
theorem dX7_press_9 : decode cX7_press 9 = .ok (.ifCond .eq 17, 3) := by decide +kernel
theorem dX7_press_12 : decode cX7_press 12 = .ok (.iload_n 2, 1) := by decide +kernel
theorem dX7_press_13 : decode cX7_press 13 = .ok (.iconst 1, 1) := by decide +kernel
theorem dX7_press_14 : decode cX7_press 14 = .ok (.aload_n 0, 1) := by decide +kernel
theorem dX7_press_15 : decode cX7_press 15 = .ok (.iload_n 1, 1) := by decide +kernel
theorem dX7_press_16 : decode cX7_press 16 = .ok (.iconst 0, 1) := by decide +kernel
theorem dX7_press_17 : decode cX7_press 17 = .ok (.invokevirtual 34, 3) := by decide +kernel
theorem dX7_press_20 : decode cX7_press 20 = .ok (.invokestatic 30, 3) := by decide +kernel
theorem dX7_press_23 : decode cX7_press 23 = .ok (.ifCond .ne 6, 3) := by decide +kernel
theorem dX7_press_26 : decode cX7_press 26 = .ok (.ldc 22, 2) := by decide +kernel
theorem dX7_press_28 : decode cX7_press 28 = .ok (.ireturn, 1) := by decide +kernel
theorem dX7_press_29 : decode cX7_press 29 = .ok (.aload_n 0, 1) := by decide +kernel
theorem dX7_press_30 : decode cX7_press 30 = .ok (.iload_n 1, 1) := by decide +kernel
theorem dX7_press_31 : decode cX7_press 31 = .ok (.iconst 3, 1) := by decide +kernel
theorem dX7_press_32 : decode cX7_press 32 = .ok (.invokevirtual 34, 3) := by decide +kernel
theorem dX7_press_35 : decode cX7_press 35 = .ok (.iconst 1, 1) := by decide +kernel
theorem dX7_press_36 : decode cX7_press 36 = .ok (.if_icmp .ne 17, 3) := by decide +kernel
theorem dX7_press_39 : decode cX7_press 39 = .ok (.iload_n 2, 1) := by decide +kernel
theorem dX7_press_40 : decode cX7_press 40 = .ok (.aload_n 0, 1) := by decide +kernel
theorem dX7_press_41 : decode cX7_press 41 = .ok (.iload_n 1, 1) := by decide +kernel
theorem dX7_press_42 : decode cX7_press 42 = .ok (.bipush 10, 2) := by decide +kernel
theorem dX7_press_44 : decode cX7_press 44 = .ok (.invokevirtual 34, 3) := by decide +kernel
theorem dX7_press_47 : decode cX7_press 47 = .ok (.if_icmp .le 6, 3) := by decide +kernel
theorem dX7_press_50 : decode cX7_press 50 = .ok (.ldc 76, 2) := by decide +kernel
theorem dX7_press_52 : decode cX7_press 52 = .ok (.ireturn, 1) := by decide +kernel
theorem dX7_press_53 : decode cX7_press 53 = .ok (.aload_n 0, 1) := by decide +kernel
theorem dX7_press_54 : decode cX7_press 54 = .ok (.iload_n 1, 1) := by decide +kernel
theorem dX7_press_55 : decode cX7_press 55 = .ok (.iconst 1, 1) := by decide +kernel
theorem dX7_press_56 : decode cX7_press 56 = .ok (.invokevirtual 34, 3) := by decide +kernel
theorem dX7_press_59 : decode cX7_press 59 = .ok (.istore_n 3, 1) := by decide +kernel
theorem dX7_press_60 : decode cX7_press 60 = .ok (.aload_n 0, 1) := by decide +kernel
theorem dX7_press_61 : decode cX7_press 61 = .ok (.iload_n 1, 1) := by decide +kernel
theorem dX7_press_62 : decode cX7_press 62 = .ok (.iconst 1, 1) := by decide +kernel
theorem dX7_press_63 : decode cX7_press 63 = .ok (.iload_n 2, 1) := by decide +kernel
theorem dX7_press_64 : decode cX7_press 64 = .ok (.invokevirtual 52, 3) := by decide +kernel
theorem dX7_press_67 : decode cX7_press 67 = .ok (.aload_n 0, 1) := by decide +kernel
theorem dX7_press_68 : decode cX7_press 68 = .ok (.iload_n 3, 1) := by decide +kernel
theorem dX7_press_69 : decode cX7_press 69 = .ok (.invokevirtual 103, 3) := by decide +kernel
theorem dX7_press_72 : decode cX7_press 72 = .ok (.ireturn, 1) := by decide +kernel
theorem dX7_inspect_0 : decode cX7_inspect 0 = .ok (.aload_n 0, 1) := by decide +kernel
theorem dX7_inspect_1 : decode cX7_inspect 1 = .ok (.invokevirtual 97, 3) := by decide +kernel
theorem dX7_inspect_4 : decode cX7_inspect 4 = .ok (.aload_n 0, 1) := by decide +kernel
theorem dX7_inspect_5 : decode cX7_inspect 5 = .ok (.aload_n 0, 1) := by decide +kernel
theorem dX7_inspect_6 : decode cX7_inspect 6 = .ok (.iload_n 1, 1) := by decide +kernel
theorem dX7_inspect_7 : decode cX7_inspect 7 = .ok (.iload_n 2, 1) := by decide +kernel
theorem dX7_inspect_8 : decode cX7_inspect 8 = .ok (.invokevirtual 106, 3) := by decide +kernel
theorem dX7_inspect_11 : decode cX7_inspect 11 = .ok (.invokevirtual 103, 3) := by decide +kernel
theorem dX7_inspect_14 : decode cX7_inspect 14 = .ok (.ireturn, 1) := by decide +kernel
theorem dX7_fire_0 : decode cX7_fire 0 = .ok (.aload_n 0, 1) := by decide +kernel
theorem dX7_fire_1 : decode cX7_fire 1 = .ok (.invokevirtual 97, 3) := by decide +kernel
theorem dX7_fire_4 : decode cX7_fire 4 = .ok (.aload_n 0, 1) := by decide +kernel
theorem dX7_fire_5 : decode cX7_fire 5 = .ok (.aload_n 0, 1) := by decide +kernel
theorem dX7_fire_6 : decode cX7_fire 6 = .ok (.iload_n 1, 1) := by decide +kernel
theorem dX7_fire_7 : decode cX7_fire 7 = .ok (.invokevirtual 109, 3) := by decide +kernel
theorem dX7_fire_10 : decode cX7_fire 10 = .ok (.invokevirtual 103, 3) := by decide +kernel
theorem dX7_fire_13 : decode cX7_fire 13 = .ok (.ireturn, 1) := by decide +kernel
theorem dX7_out_0 : decode cX7_out 0 = .ok (.aload_n 0, 1) := by decide +kernel
theorem dX7_out_1 : decode cX7_out 1 = .ok (.invokevirtual 97, 3) := by decide +kernel
theorem dX7_out_4 : decode cX7_out 4 = .ok (.aload_n 0, 1) := by decide +kernel
theorem dX7_out_5 : decode cX7_out 5 = .ok (.aload_n 0, 1) := by decide +kernel
theorem dX7_out_6 : decode cX7_out 6 = .ok (.iload_n 1, 1) := by decide +kernel
theorem dX7_out_7 : decode cX7_out 7 = .ok (.invokevirtual 112, 3) := by decide +kernel
theorem dX7_out_10 : decode cX7_out 10 = .ok (.invokevirtual 103, 3) := by decide +kernel
theorem dX7_out_13 : decode cX7_out 13 = .ok (.ireturn, 1) := by decide +kernel
theorem dX7_plan_0 : decode cX7_plan 0 = .ok (.aload_n 0, 1) := by decide +kernel
theorem dX7_plan_1 : decode cX7_plan 1 = .ok (.invokevirtual 97, 3) := by decide +kernel
theorem dX7_plan_4 : decode cX7_plan 4 = .ok (.aload_n 0, 1) := by decide +kernel
theorem dX7_plan_5 : decode cX7_plan 5 = .ok (.iload_n 1, 1) := by decide +kernel
theorem dX7_plan_6 : decode cX7_plan 6 = .ok (.invokevirtual 67, 3) := by decide +kernel
theorem dX7_plan_9 : decode cX7_plan 9 = .ok (.ifCond .eq 29, 3) := by decide +kernel
theorem dX7_plan_12 : decode cX7_plan 12 = .ok (.iload_n 2, 1) := by decide +kernel
theorem dX7_plan_13 : decode cX7_plan 13 = .ok (.aload_n 0, 1) := by decide +kernel
theorem dX7_plan_14 : decode cX7_plan 14 = .ok (.getfield 7, 3) := by decide +kernel
theorem dX7_plan_17 : decode cX7_plan 17 = .ok (.iconst 2, 1) := by decide +kernel
theorem dX7_plan_18 : decode cX7_plan 18 = .ok (.iaload, 1) := by decide +kernel
theorem dX7_plan_19 : decode cX7_plan 19 = .ok (.sipush 9999, 3) := by decide +kernel
theorem dX7_plan_22 : decode cX7_plan 22 = .ok (.invokestatic 30, 3) := by decide +kernel
theorem dX7_plan_25 : decode cX7_plan 25 = .ok (.ifCond .eq 13, 3) := by decide +kernel
theorem dX7_plan_28 : decode cX7_plan 28 = .ok (.iload_n 3, 1) := by decide +kernel
theorem dX7_plan_29 : decode cX7_plan 29 = .ok (.iconst 1, 1) := by decide +kernel
theorem dX7_plan_30 : decode cX7_plan 30 = .ok (.bipush 20, 2) := by decide +kernel
theorem dX7_plan_32 : decode cX7_plan 32 = .ok (.invokestatic 30, 3) := by decide +kernel
theorem dX7_plan_35 : decode cX7_plan 35 = .ok (.ifCond .ne 6, 3) := by decide +kernel
theorem dX7_plan_38 : decode cX7_plan 38 = .ok (.ldc 22, 2) := by decide +kernel
theorem dX7_plan_40 : decode cX7_plan 40 = .ok (.ireturn, 1) := by decide +kernel
theorem dX7_plan_41 : decode cX7_plan 41 = .ok (.iload_n 2, 1) := by decide +kernel
theorem dX7_plan_42 : decode cX7_plan 42 = .ok (.aload_n 0, 1) := by decide +kernel
theorem dX7_plan_43 : decode cX7_plan 43 = .ok (.getfield 7, 3) := by decide +kernel
theorem dX7_plan_46 : decode cX7_plan 46 = .ok (.iconst 2, 1) := by decide +kernel
theorem dX7_plan_47 : decode cX7_plan 47 = .ok (.iaload, 1) := by decide +kernel
theorem dX7_plan_48 : decode cX7_plan 48 = .ok (.if_icmp .ne 16, 3) := by decide +kernel
theorem dX7_plan_51 : decode cX7_plan 51 = .ok (.aload_n 0, 1) := by decide +kernel
theorem dX7_plan_52 : decode cX7_plan 52 = .ok (.iload_n 1, 1) := by decide +kernel
theorem dX7_plan_53 : decode cX7_plan 53 = .ok (.iconst 3, 1) := by decide +kernel
theorem dX7_plan_54 : decode cX7_plan 54 = .ok (.invokevirtual 34, 3) := by decide +kernel
theorem dX7_plan_57 : decode cX7_plan 57 = .ok (.iconst 1, 1) := by decide +kernel
theorem dX7_plan_58 : decode cX7_plan 58 = .ok (.if_icmp .ne 6, 3) := by decide +kernel
theorem dX7_plan_61 : decode cX7_plan 61 = .ok (.ldc 76, 2) := by decide +kernel
theorem dX7_plan_63 : decode cX7_plan 63 = .ok (.ireturn, 1) := by decide +kernel
theorem dX7_plan_64 : decode cX7_plan 64 = .ok (.aload_n 0, 1) := by decide +kernel
theorem dX7_plan_65 : decode cX7_plan 65 = .ok (.iload_n 1, 1) := by decide +kernel
theorem dX7_plan_66 : decode cX7_plan 66 = .ok (.bipush 7, 2) := by decide +kernel
theorem dX7_plan_68 : decode cX7_plan 68 = .ok (.iload_n 2, 1) := by decide +kernel
theorem dX7_plan_69 : decode cX7_plan 69 = .ok (.invokevirtual 52, 3) := by decide +kernel
theorem dX7_plan_72 : decode cX7_plan 72 = .ok (.aload_n 0, 1) := by decide +kernel
theorem dX7_plan_73 : decode cX7_plan 73 = .ok (.iload_n 1, 1) := by decide +kernel
theorem dX7_plan_74 : decode cX7_plan 74 = .ok (.bipush 8, 2) := by decide +kernel
theorem dX7_plan_76 : decode cX7_plan 76 = .ok (.iload_n 2, 1) := by decide +kernel
theorem dX7_plan_77 : decode cX7_plan 77 = .ok (.iload_n 3, 1) := by decide +kernel
theorem dX7_plan_78 : decode cX7_plan 78 = .ok (.iadd, 1) := by decide +kernel
theorem dX7_plan_79 : decode cX7_plan 79 = .ok (.iconst 1, 1) := by decide +kernel
theorem dX7_plan_80 : decode cX7_plan 80 = .ok (.isub, 1) := by decide +kernel
theorem dX7_plan_81 : decode cX7_plan 81 = .ok (.invokevirtual 52, 3) := by decide +kernel
theorem dX7_plan_84 : decode cX7_plan 84 = .ok (.aload_n 0, 1) := by decide +kernel
theorem dX7_plan_85 : decode cX7_plan 85 = .ok (.aload_n 0, 1) := by decide +kernel
theorem dX7_plan_86 : decode cX7_plan 86 = .ok (.iload_n 1, 1) := by decide +kernel
theorem dX7_plan_87 : decode cX7_plan 87 = .ok (.bipush 8, 2) := by decide +kernel
theorem dX7_plan_89 : decode cX7_plan 89 = .ok (.invokevirtual 34, 3) := by decide +kernel
theorem dX7_plan_92 : decode cX7_plan 92 = .ok (.invokevirtual 103, 3) := by decide +kernel
theorem dX7_plan_95 : decode cX7_plan 95 = .ok (.ireturn, 1) := by decide +kernel
theorem dX7_repair_0 : decode cX7_repair 0 = .ok (.aload_n 0, 1) := by decide +kernel
theorem dX7_repair_1 : decode cX7_repair 1 = .ok (.invokevirtual 97, 3) := by decide +kernel
theorem dX7_repair_4 : decode cX7_repair 4 = .ok (.aload_n 0, 1) := by decide +kernel
theorem dX7_repair_5 : decode cX7_repair 5 = .ok (.aload_n 0, 1) := by decide +kernel
theorem dX7_repair_6 : decode cX7_repair 6 = .ok (.iload_n 1, 1) := by decide +kernel
theorem dX7_repair_7 : decode cX7_repair 7 = .ok (.invokevirtual 115, 3) := by decide +kernel
theorem dX7_repair_10 : decode cX7_repair 10 = .ok (.invokevirtual 103, 3) := by decide +kernel
theorem dX7_repair_13 : decode cX7_repair 13 = .ok (.ireturn, 1) := by decide +kernel
theorem dX7_pass_0 : decode cX7_pass 0 = .ok (.aload_n 0, 1) := by decide +kernel
theorem dX7_pass_1 : decode cX7_pass 1 = .ok (.invokevirtual 97, 3) := by decide +kernel
theorem dX7_pass_4 : decode cX7_pass 4 = .ok (.aload_n 0, 1) := by decide +kernel
theorem dX7_pass_5 : decode cX7_pass 5 = .ok (.aload_n 0, 1) := by decide +kernel
theorem dX7_pass_6 : decode cX7_pass 6 = .ok (.iload_n 1, 1) := by decide +kernel
theorem dX7_pass_7 : decode cX7_pass 7 = .ok (.invokevirtual 118, 3) := by decide +kernel
theorem dX7_pass_10 : decode cX7_pass 10 = .ok (.invokevirtual 103, 3) := by decide +kernel
theorem dX7_pass_13 : decode cX7_pass 13 = .ok (.ireturn, 1) := by decide +kernel
theorem dX7_set_0 : decode cX7_set 0 = .ok (.aload_n 0, 1) := by decide +kernel
theorem dX7_set_1 : decode cX7_set 1 = .ok (.invokevirtual 97, 3) := by decide +kernel
theorem dX7_set_4 : decode cX7_set 4 = .ok (.iload_n 1, 1) := by decide +kernel
theorem dX7_set_5 : decode cX7_set 5 = .ok (.iconst 0, 1) := by decide +kernel
theorem dX7_set_6 : decode cX7_set 6 = .ok (.iconst 3, 1) := by decide +kernel
theorem dX7_set_7 : decode cX7_set 7 = .ok (.invokestatic 30, 3) := by decide +kernel
theorem dX7_set_10 : decode cX7_set 10 = .ok (.ifCond .eq 24, 3) := by decide +kernel
theorem dX7_set_13 : decode cX7_set 13 = .ok (.iload_n 2, 1) := by decide +kernel
theorem dX7_set_14 : decode cX7_set 14 = .ok (.iconst 0, 1) := by decide +kernel
theorem dX7_set_15 : decode cX7_set 15 = .ok (.iload_n 1, 1) := by decide +kernel
theorem dX7_set_16 : decode cX7_set 16 = .ok (.iconst 2, 1) := by decide +kernel
theorem dX7_set_17 : decode cX7_set 17 = .ok (.if_icmp .ge 9, 3) := by decide +kernel
theorem dX7_set_20 : decode cX7_set 20 = .ok (.sipush 200, 3) := by decide +kernel
theorem dX7_set_23 : decode cX7_set 23 = .ok (.goto 5, 3) := by decide +kernel
theorem dX7_set_26 : decode cX7_set 26 = .ok (.bipush 99, 2) := by decide +kernel
theorem dX7_set_28 : decode cX7_set 28 = .ok (.invokestatic 30, 3) := by decide +kernel
theorem dX7_set_31 : decode cX7_set 31 = .ok (.ifCond .ne 6, 3) := by decide +kernel
theorem dX7_set_34 : decode cX7_set 34 = .ok (.ldc 22, 2) := by decide +kernel
theorem dX7_set_36 : decode cX7_set 36 = .ok (.ireturn, 1) := by decide +kernel
theorem dX7_set_37 : decode cX7_set 37 = .ok (.aload_n 0, 1) := by decide +kernel
theorem dX7_set_38 : decode cX7_set 38 = .ok (.getfield 7, 3) := by decide +kernel
theorem dX7_set_41 : decode cX7_set 41 = .ok (.bipush 7, 2) := by decide +kernel
theorem dX7_set_43 : decode cX7_set 43 = .ok (.iload_n 1, 1) := by decide +kernel
theorem dX7_set_44 : decode cX7_set 44 = .ok (.iadd, 1) := by decide +kernel
theorem dX7_set_45 : decode cX7_set 45 = .ok (.iaload, 1) := by decide +kernel
theorem dX7_set_46 : decode cX7_set 46 = .ok (.istore_n 3, 1) := by decide +kernel
theorem dX7_set_47 : decode cX7_set 47 = .ok (.aload_n 0, 1) := by decide +kernel
theorem dX7_set_48 : decode cX7_set 48 = .ok (.getfield 7, 3) := by decide +kernel
theorem dX7_set_51 : decode cX7_set 51 = .ok (.bipush 7, 2) := by decide +kernel
theorem dX7_set_53 : decode cX7_set 53 = .ok (.iload_n 1, 1) := by decide +kernel
theorem dX7_set_54 : decode cX7_set 54 = .ok (.iadd, 1) := by decide +kernel
theorem dX7_set_55 : decode cX7_set 55 = .ok (.iload_n 2, 1) := by decide +kernel
theorem dX7_set_56 : decode cX7_set 56 = .ok (.iastore, 1) := by decide +kernel
theorem dX7_set_57 : decode cX7_set 57 = .ok (.aload_n 0, 1) := by decide +kernel
theorem dX7_set_58 : decode cX7_set 58 = .ok (.iload_n 3, 1) := by decide +kernel
theorem dX7_set_59 : decode cX7_set 59 = .ok (.invokevirtual 103, 3) := by decide +kernel
theorem dX7_set_62 : decode cX7_set 62 = .ok (.ireturn, 1) := by decide +kernel
theorem dX7_boilerOf_0 : decode cX7_boilerOf 0 = .ok (.aload_n 0, 1) := by decide +kernel
theorem dX7_boilerOf_1 : decode cX7_boilerOf 1 = .ok (.iload_n 1, 1) := by decide +kernel
theorem dX7_boilerOf_2 : decode cX7_boilerOf 2 = .ok (.invokevirtual 67, 3) := by decide +kernel
theorem dX7_boilerOf_5 : decode cX7_boilerOf 5 = .ok (.ifCond .eq 13, 3) := by decide +kernel
theorem dX7_boilerOf_8 : decode cX7_boilerOf 8 = .ok (.iload_n 2, 1) := by decide +kernel
theorem dX7_boilerOf_9 : decode cX7_boilerOf 9 = .ok (.iconst 0, 1) := by decide +kernel
theorem dX7_boilerOf_10 : decode cX7_boilerOf 10 = .ok (.bipush 9, 2) := by decide +kernel
theorem dX7_boilerOf_12 : decode cX7_boilerOf 12 = .ok (.invokestatic 30, 3) := by decide +kernel
theorem dX7_boilerOf_15 : decode cX7_boilerOf 15 = .ok (.ifCond .ne 6, 3) := by decide +kernel
theorem dX7_boilerOf_18 : decode cX7_boilerOf 18 = .ok (.ldc 22, 2) := by decide +kernel
theorem dX7_boilerOf_20 : decode cX7_boilerOf 20 = .ok (.ireturn, 1) := by decide +kernel
theorem dX7_boilerOf_21 : decode cX7_boilerOf 21 = .ok (.iload_n 2, 1) := by decide +kernel
theorem dX7_boilerOf_22 : decode cX7_boilerOf 22 = .ok (.tableswitch 116 4 9 #[38, 59, 116, 88, 88, 110], 38) := by decide +kernel
theorem dX7_boilerOf_60 : decode cX7_boilerOf 60 = .ok (.aload_n 0, 1) := by decide +kernel
theorem dX7_boilerOf_61 : decode cX7_boilerOf 61 = .ok (.iload_n 1, 1) := by decide +kernel
theorem dX7_boilerOf_62 : decode cX7_boilerOf 62 = .ok (.iconst 3, 1) := by decide +kernel
theorem dX7_boilerOf_63 : decode cX7_boilerOf 63 = .ok (.invokevirtual 34, 3) := by decide +kernel
theorem dX7_boilerOf_66 : decode cX7_boilerOf 66 = .ok (.ifCond .ne 12, 3) := by decide +kernel
theorem dX7_boilerOf_69 : decode cX7_boilerOf 69 = .ok (.aload_n 0, 1) := by decide +kernel
theorem dX7_boilerOf_70 : decode cX7_boilerOf 70 = .ok (.iload_n 1, 1) := by decide +kernel
theorem dX7_boilerOf_71 : decode cX7_boilerOf 71 = .ok (.iconst 4, 1) := by decide +kernel
theorem dX7_boilerOf_72 : decode cX7_boilerOf 72 = .ok (.invokevirtual 34, 3) := by decide +kernel
theorem dX7_boilerOf_75 : decode cX7_boilerOf 75 = .ok (.goto 5, 3) := by decide +kernel
theorem dX7_boilerOf_78 : decode cX7_boilerOf 78 = .ok (.ldc 121, 2) := by decide +kernel
theorem dX7_boilerOf_80 : decode cX7_boilerOf 80 = .ok (.ireturn, 1) := by decide +kernel
theorem dX7_boilerOf_81 : decode cX7_boilerOf 81 = .ok (.aload_n 0, 1) := by decide +kernel
theorem dX7_boilerOf_82 : decode cX7_boilerOf 82 = .ok (.iload_n 1, 1) := by decide +kernel
theorem dX7_boilerOf_83 : decode cX7_boilerOf 83 = .ok (.iconst 3, 1) := by decide +kernel
theorem dX7_boilerOf_84 : decode cX7_boilerOf 84 = .ok (.invokevirtual 34, 3) := by decide +kernel
theorem dX7_boilerOf_87 : decode cX7_boilerOf 87 = .ok (.iconst 2, 1) := by decide +kernel
theorem dX7_boilerOf_88 : decode cX7_boilerOf 88 = .ok (.if_icmp .ne 19, 3) := by decide +kernel
theorem dX7_boilerOf_91 : decode cX7_boilerOf 91 = .ok (.aload_n 0, 1) := by decide +kernel
theorem dX7_boilerOf_92 : decode cX7_boilerOf 92 = .ok (.iload_n 1, 1) := by decide +kernel
theorem dX7_boilerOf_93 : decode cX7_boilerOf 93 = .ok (.iconst 5, 1) := by decide +kernel
theorem dX7_boilerOf_94 : decode cX7_boilerOf 94 = .ok (.invokevirtual 34, 3) := by decide +kernel
theorem dX7_boilerOf_97 : decode cX7_boilerOf 97 = .ok (.aload_n 0, 1) := by decide +kernel
theorem dX7_boilerOf_98 : decode cX7_boilerOf 98 = .ok (.getfield 7, 3) := by decide +kernel
theorem dX7_boilerOf_101 : decode cX7_boilerOf 101 = .ok (.iconst 2, 1) := by decide +kernel
theorem dX7_boilerOf_102 : decode cX7_boilerOf 102 = .ok (.iaload, 1) := by decide +kernel
theorem dX7_boilerOf_103 : decode cX7_boilerOf 103 = .ok (.isub, 1) := by decide +kernel
theorem dX7_boilerOf_104 : decode cX7_boilerOf 104 = .ok (.goto 5, 3) := by decide +kernel
theorem dX7_boilerOf_107 : decode cX7_boilerOf 107 = .ok (.ldc 121, 2) := by decide +kernel
theorem dX7_boilerOf_109 : decode cX7_boilerOf 109 = .ok (.ireturn, 1) := by decide +kernel
theorem dX7_boilerOf_110 : decode cX7_boilerOf 110 = .ok (.aload_n 0, 1) := by decide +kernel
theorem dX7_boilerOf_111 : decode cX7_boilerOf 111 = .ok (.iload_n 1, 1) := by decide +kernel
theorem dX7_boilerOf_112 : decode cX7_boilerOf 112 = .ok (.bipush 7, 2) := by decide +kernel
theorem dX7_boilerOf_114 : decode cX7_boilerOf 114 = .ok (.invokevirtual 34, 3) := by decide +kernel
theorem dX7_boilerOf_117 : decode cX7_boilerOf 117 = .ok (.ifCond .ge 8, 3) := by decide +kernel
theorem dX7_boilerOf_120 : decode cX7_boilerOf 120 = .ok (.ldc 121, 2) := by decide +kernel
theorem dX7_boilerOf_122 : decode cX7_boilerOf 122 = .ok (.goto 9, 3) := by decide +kernel
theorem dX7_boilerOf_125 : decode cX7_boilerOf 125 = .ok (.aload_n 0, 1) := by decide +kernel
theorem dX7_boilerOf_126 : decode cX7_boilerOf 126 = .ok (.iload_n 1, 1) := by decide +kernel
theorem dX7_boilerOf_127 : decode cX7_boilerOf 127 = .ok (.iload_n 2, 1) := by decide +kernel
theorem dX7_boilerOf_128 : decode cX7_boilerOf 128 = .ok (.invokevirtual 34, 3) := by decide +kernel
theorem dX7_boilerOf_131 : decode cX7_boilerOf 131 = .ok (.ireturn, 1) := by decide +kernel
theorem dX7_boilerOf_132 : decode cX7_boilerOf 132 = .ok (.aload_n 0, 1) := by decide +kernel
theorem dX7_boilerOf_133 : decode cX7_boilerOf 133 = .ok (.iload_n 1, 1) := by decide +kernel
theorem dX7_boilerOf_134 : decode cX7_boilerOf 134 = .ok (.invokevirtual 38, 3) := by decide +kernel
theorem dX7_boilerOf_137 : decode cX7_boilerOf 137 = .ok (.ireturn, 1) := by decide +kernel
theorem dX7_boilerOf_138 : decode cX7_boilerOf 138 = .ok (.aload_n 0, 1) := by decide +kernel
theorem dX7_boilerOf_139 : decode cX7_boilerOf 139 = .ok (.iload_n 1, 1) := by decide +kernel
theorem dX7_boilerOf_140 : decode cX7_boilerOf 140 = .ok (.iload_n 2, 1) := by decide +kernel
theorem dX7_boilerOf_141 : decode cX7_boilerOf 141 = .ok (.invokevirtual 34, 3) := by decide +kernel
theorem dX7_boilerOf_144 : decode cX7_boilerOf 144 = .ok (.ireturn, 1) := by decide +kernel
theorem dX7_paperOf_0 : decode cX7_paperOf 0 = .ok (.aload_n 0, 1) := by decide +kernel
theorem dX7_paperOf_1 : decode cX7_paperOf 1 = .ok (.iload_n 1, 1) := by decide +kernel
theorem dX7_paperOf_2 : decode cX7_paperOf 2 = .ok (.invokevirtual 67, 3) := by decide +kernel
theorem dX7_paperOf_5 : decode cX7_paperOf 5 = .ok (.ifCond .eq 12, 3) := by decide +kernel
theorem dX7_paperOf_8 : decode cX7_paperOf 8 = .ok (.iload_n 2, 1) := by decide +kernel
theorem dX7_paperOf_9 : decode cX7_paperOf 9 = .ok (.iconst 0, 1) := by decide +kernel
theorem dX7_paperOf_10 : decode cX7_paperOf 10 = .ok (.iconst 2, 1) := by decide +kernel
theorem dX7_paperOf_11 : decode cX7_paperOf 11 = .ok (.invokestatic 30, 3) := by decide +kernel
theorem dX7_paperOf_14 : decode cX7_paperOf 14 = .ok (.ifCond .ne 6, 3) := by decide +kernel
theorem dX7_paperOf_17 : decode cX7_paperOf 17 = .ok (.ldc 22, 2) := by decide +kernel
theorem dX7_paperOf_19 : decode cX7_paperOf 19 = .ok (.ireturn, 1) := by decide +kernel
theorem dX7_paperOf_20 : decode cX7_paperOf 20 = .ok (.aload_n 0, 1) := by decide +kernel
theorem dX7_paperOf_21 : decode cX7_paperOf 21 = .ok (.iload_n 1, 1) := by decide +kernel
theorem dX7_paperOf_22 : decode cX7_paperOf 22 = .ok (.invokevirtual 46, 3) := by decide +kernel
theorem dX7_paperOf_25 : decode cX7_paperOf 25 = .ok (.ifCond .eq 15, 3) := by decide +kernel
theorem dX7_paperOf_28 : decode cX7_paperOf 28 = .ok (.aload_n 0, 1) := by decide +kernel
theorem dX7_paperOf_29 : decode cX7_paperOf 29 = .ok (.iload_n 1, 1) := by decide +kernel
theorem dX7_paperOf_30 : decode cX7_paperOf 30 = .ok (.bipush 9, 2) := by decide +kernel
theorem dX7_paperOf_32 : decode cX7_paperOf 32 = .ok (.iload_n 2, 1) := by decide +kernel
theorem dX7_paperOf_33 : decode cX7_paperOf 33 = .ok (.iadd, 1) := by decide +kernel
theorem dX7_paperOf_34 : decode cX7_paperOf 34 = .ok (.invokevirtual 34, 3) := by decide +kernel
theorem dX7_paperOf_37 : decode cX7_paperOf 37 = .ok (.goto 5, 3) := by decide +kernel
theorem dX7_paperOf_40 : decode cX7_paperOf 40 = .ok (.ldc 121, 2) := by decide +kernel
theorem dX7_paperOf_42 : decode cX7_paperOf 42 = .ok (.ireturn, 1) := by decide +kernel
theorem dX7_inspectorOf_0 : decode cX7_inspectorOf 0 = .ok (.aload_n 0, 1) := by decide +kernel
theorem dX7_inspectorOf_1 : decode cX7_inspectorOf 1 = .ok (.iload_n 1, 1) := by decide +kernel
theorem dX7_inspectorOf_2 : decode cX7_inspectorOf 2 = .ok (.invokevirtual 70, 3) := by decide +kernel
theorem dX7_inspectorOf_5 : decode cX7_inspectorOf 5 = .ok (.ifCond .eq 12, 3) := by decide +kernel
theorem dX7_inspectorOf_8 : decode cX7_inspectorOf 8 = .ok (.iload_n 2, 1) := by decide +kernel
theorem dX7_inspectorOf_9 : decode cX7_inspectorOf 9 = .ok (.iconst 0, 1) := by decide +kernel
theorem dX7_inspectorOf_10 : decode cX7_inspectorOf 10 = .ok (.iconst 4, 1) := by decide +kernel
theorem dX7_inspectorOf_11 : decode cX7_inspectorOf 11 = .ok (.invokestatic 30, 3) := by decide +kernel
theorem dX7_inspectorOf_14 : decode cX7_inspectorOf 14 = .ok (.ifCond .ne 6, 3) := by decide +kernel
theorem dX7_inspectorOf_17 : decode cX7_inspectorOf 17 = .ok (.ldc 22, 2) := by decide +kernel
theorem dX7_inspectorOf_19 : decode cX7_inspectorOf 19 = .ok (.ireturn, 1) := by decide +kernel
theorem dX7_inspectorOf_20 : decode cX7_inspectorOf 20 = .ok (.iload_n 2, 1) := by decide +kernel
theorem dX7_inspectorOf_21 : decode cX7_inspectorOf 21 = .ok (.iconst 2, 1) := by decide +kernel
theorem dX7_inspectorOf_22 : decode cX7_inspectorOf 22 = .ok (.if_icmp .ne 19, 3) := by decide +kernel
theorem dX7_inspectorOf_25 : decode cX7_inspectorOf 25 = .ok (.aload_n 0, 1) := by decide +kernel
theorem dX7_inspectorOf_26 : decode cX7_inspectorOf 26 = .ok (.iload_n 1, 1) := by decide +kernel
theorem dX7_inspectorOf_27 : decode cX7_inspectorOf 27 = .ok (.iconst 1, 1) := by decide +kernel
theorem dX7_inspectorOf_28 : decode cX7_inspectorOf 28 = .ok (.invokevirtual 49, 3) := by decide +kernel
theorem dX7_inspectorOf_31 : decode cX7_inspectorOf 31 = .ok (.aload_n 0, 1) := by decide +kernel
theorem dX7_inspectorOf_32 : decode cX7_inspectorOf 32 = .ok (.iload_n 1, 1) := by decide +kernel
theorem dX7_inspectorOf_33 : decode cX7_inspectorOf 33 = .ok (.iconst 2, 1) := by decide +kernel
theorem dX7_inspectorOf_34 : decode cX7_inspectorOf 34 = .ok (.invokevirtual 49, 3) := by decide +kernel
theorem dX7_inspectorOf_37 : decode cX7_inspectorOf 37 = .ok (.isub, 1) := by decide +kernel
theorem dX7_inspectorOf_38 : decode cX7_inspectorOf 38 = .ok (.goto 9, 3) := by decide +kernel
theorem dX7_inspectorOf_41 : decode cX7_inspectorOf 41 = .ok (.aload_n 0, 1) := by decide +kernel
theorem dX7_inspectorOf_42 : decode cX7_inspectorOf 42 = .ok (.iload_n 1, 1) := by decide +kernel
theorem dX7_inspectorOf_43 : decode cX7_inspectorOf 43 = .ok (.iload_n 2, 1) := by decide +kernel
theorem dX7_inspectorOf_44 : decode cX7_inspectorOf 44 = .ok (.invokevirtual 49, 3) := by decide +kernel
theorem dX7_inspectorOf_47 : decode cX7_inspectorOf 47 = .ok (.ireturn, 1) := by decide +kernel
theorem dX7_why_0 : decode cX7_why 0 = .ok (.aload_n 0, 1) := by decide +kernel
theorem dX7_why_1 : decode cX7_why 1 = .ok (.iload_n 1, 1) := by decide +kernel
theorem dX7_why_2 : decode cX7_why 2 = .ok (.invokevirtual 67, 3) := by decide +kernel
theorem dX7_why_5 : decode cX7_why 5 = .ok (.ifCond .eq 16, 3) := by decide +kernel
theorem dX7_why_8 : decode cX7_why 8 = .ok (.iload_n 2, 1) := by decide +kernel
theorem dX7_why_9 : decode cX7_why 9 = .ok (.iconst (-1), 1) := by decide +kernel
theorem dX7_why_10 : decode cX7_why 10 = .ok (.if_icmp .eq 14, 3) := by decide +kernel
theorem dX7_why_13 : decode cX7_why 13 = .ok (.aload_n 0, 1) := by decide +kernel
theorem dX7_why_14 : decode cX7_why 14 = .ok (.iload_n 2, 1) := by decide +kernel
theorem dX7_why_15 : decode cX7_why 15 = .ok (.invokevirtual 70, 3) := by decide +kernel
theorem dX7_why_18 : decode cX7_why 18 = .ok (.ifCond .ne 6, 3) := by decide +kernel
theorem dX7_why_21 : decode cX7_why 21 = .ok (.ldc 22, 2) := by decide +kernel
theorem dX7_why_23 : decode cX7_why 23 = .ok (.ireturn, 1) := by decide +kernel
theorem dX7_why_24 : decode cX7_why 24 = .ok (.iload_n 2, 1) := by decide +kernel
theorem dX7_why_25 : decode cX7_why 25 = .ok (.iconst (-1), 1) := by decide +kernel
theorem dX7_why_26 : decode cX7_why 26 = .ok (.if_icmp .ne 11, 3) := by decide +kernel
theorem dX7_why_29 : decode cX7_why 29 = .ok (.aload_n 0, 1) := by decide +kernel
theorem dX7_why_30 : decode cX7_why 30 = .ok (.iload_n 1, 1) := by decide +kernel
theorem dX7_why_31 : decode cX7_why 31 = .ok (.invokevirtual 90, 3) := by decide +kernel
theorem dX7_why_34 : decode cX7_why 34 = .ok (.goto 9, 3) := by decide +kernel
theorem dX7_why_37 : decode cX7_why 37 = .ok (.aload_n 0, 1) := by decide +kernel
theorem dX7_why_38 : decode cX7_why 38 = .ok (.iload_n 1, 1) := by decide +kernel
theorem dX7_why_39 : decode cX7_why 39 = .ok (.iload_n 2, 1) := by decide +kernel
theorem dX7_why_40 : decode cX7_why 40 = .ok (.invokevirtual 73, 3) := by decide +kernel
theorem dX7_why_43 : decode cX7_why 43 = .ok (.ireturn, 1) := by decide +kernel
theorem dX7_account_0 : decode cX7_account 0 = .ok (.iload_n 1, 1) := by decide +kernel
theorem dX7_account_1 : decode cX7_account 1 = .ok (.iconst 0, 1) := by decide +kernel
theorem dX7_account_2 : decode cX7_account 2 = .ok (.iconst 3, 1) := by decide +kernel
theorem dX7_account_3 : decode cX7_account 3 = .ok (.invokestatic 30, 3) := by decide +kernel
theorem dX7_account_6 : decode cX7_account 6 = .ok (.ifCond .eq 15, 3) := by decide +kernel
theorem dX7_account_9 : decode cX7_account 9 = .ok (.aload_n 0, 1) := by decide +kernel
theorem dX7_account_10 : decode cX7_account 10 = .ok (.getfield 7, 3) := by decide +kernel
theorem dX7_account_13 : decode cX7_account 13 = .ok (.bipush 11, 2) := by decide +kernel
theorem dX7_account_15 : decode cX7_account 15 = .ok (.iload_n 1, 1) := by decide +kernel
theorem dX7_account_16 : decode cX7_account 16 = .ok (.iadd, 1) := by decide +kernel
theorem dX7_account_17 : decode cX7_account 17 = .ok (.iaload, 1) := by decide +kernel
theorem dX7_account_18 : decode cX7_account 18 = .ok (.goto 5, 3) := by decide +kernel
theorem dX7_account_21 : decode cX7_account 21 = .ok (.ldc 22, 2) := by decide +kernel
theorem dX7_account_23 : decode cX7_account 23 = .ok (.ireturn, 1) := by decide +kernel
theorem dX7_would_0 : decode cX7_would 0 = .ok (.aload_n 0, 1) := by decide +kernel
theorem dX7_would_1 : decode cX7_would 1 = .ok (.iload_n 1, 1) := by decide +kernel
theorem dX7_would_2 : decode cX7_would 2 = .ok (.invokevirtual 67, 3) := by decide +kernel
theorem dX7_would_5 : decode cX7_would 5 = .ok (.ifCond .eq 21, 3) := by decide +kernel
theorem dX7_would_8 : decode cX7_would 8 = .ok (.iload_n 2, 1) := by decide +kernel
theorem dX7_would_9 : decode cX7_would 9 = .ok (.iconst 0, 1) := by decide +kernel
theorem dX7_would_10 : decode cX7_would 10 = .ok (.iconst 1, 1) := by decide +kernel
theorem dX7_would_11 : decode cX7_would 11 = .ok (.invokestatic 30, 3) := by decide +kernel
theorem dX7_would_14 : decode cX7_would 14 = .ok (.ifCond .eq 12, 3) := by decide +kernel
theorem dX7_would_17 : decode cX7_would 17 = .ok (.iload_n 3, 1) := by decide +kernel
theorem dX7_would_18 : decode cX7_would 18 = .ok (.iconst 0, 1) := by decide +kernel
theorem dX7_would_19 : decode cX7_would 19 = .ok (.iconst 1, 1) := by decide +kernel
theorem dX7_would_20 : decode cX7_would 20 = .ok (.invokestatic 30, 3) := by decide +kernel
theorem dX7_would_23 : decode cX7_would 23 = .ok (.ifCond .ne 6, 3) := by decide +kernel
theorem dX7_would_26 : decode cX7_would 26 = .ok (.ldc 22, 2) := by decide +kernel
theorem dX7_would_28 : decode cX7_would 28 = .ok (.ireturn, 1) := by decide +kernel
theorem dX7_would_29 : decode cX7_would 29 = .ok (.aload_n 0, 1) := by decide +kernel
