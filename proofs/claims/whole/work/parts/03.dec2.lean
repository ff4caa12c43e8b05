theorem dX2_factOfBoiler_10 : decode cX2_factOfBoiler 10 = .ok (.ldc 67, 2) := by decide +kernel
theorem dX2_factOfBoiler_12 : decode cX2_factOfBoiler 12 = .ok (.goto 12, 3) := by decide +kernel
theorem dX2_factOfBoiler_15 : decode cX2_factOfBoiler 15 = .ok (.aload_n 3, 1) := by decide +kernel
theorem dX2_factOfBoiler_16 : decode cX2_factOfBoiler 16 = .ok (.iload_n 2, 1) := by decide +kernel
theorem dX2_factOfBoiler_17 : decode cX2_factOfBoiler 17 = .ok (.aload_n 0, 1) := by decide +kernel
theorem dX2_factOfBoiler_18 : decode cX2_factOfBoiler 18 = .ok (.getfield 39, 3) := by decide +kernel
theorem dX2_factOfBoiler_21 : decode cX2_factOfBoiler 21 = .ok (.invokevirtual 191, 3) := by decide +kernel
theorem dX2_factOfBoiler_24 : decode cX2_factOfBoiler 24 = .ok (.ireturn, 1) := by decide +kernel
theorem dX2_factOfPaper_0 : decode cX2_factOfPaper 0 = .ok (.aload_n 0, 1) := by decide +kernel
theorem dX2_factOfPaper_1 : decode cX2_factOfPaper 1 = .ok (.iload_n 1, 1) := by decide +kernel
theorem dX2_factOfPaper_2 : decode cX2_factOfPaper 2 = .ok (.invokevirtual 52, 3) := by decide +kernel
theorem dX2_factOfPaper_5 : decode cX2_factOfPaper 5 = .ok (.astore_n 3, 1) := by decide +kernel
theorem dX2_factOfPaper_6 : decode cX2_factOfPaper 6 = .ok (.aload_n 3, 1) := by decide +kernel
theorem dX2_factOfPaper_7 : decode cX2_factOfPaper 7 = .ok (.ifnonnull 8, 3) := by decide +kernel
theorem dX2_factOfPaper_10 : decode cX2_factOfPaper 10 = .ok (.ldc 67, 2) := by decide +kernel
theorem dX2_factOfPaper_12 : decode cX2_factOfPaper 12 = .ok (.goto 8, 3) := by decide +kernel
theorem dX2_factOfPaper_15 : decode cX2_factOfPaper 15 = .ok (.aload_n 3, 1) := by decide +kernel
theorem dX2_factOfPaper_16 : decode cX2_factOfPaper 16 = .ok (.iload_n 2, 1) := by decide +kernel
theorem dX2_factOfPaper_17 : decode cX2_factOfPaper 17 = .ok (.invokevirtual 194, 3) := by decide +kernel
theorem dX2_factOfPaper_20 : decode cX2_factOfPaper 20 = .ok (.ireturn, 1) := by decide +kernel
theorem dX2_factOfInspector_0 : decode cX2_factOfInspector 0 = .ok (.aload_n 0, 1) := by decide +kernel
theorem dX2_factOfInspector_1 : decode cX2_factOfInspector 1 = .ok (.iload_n 1, 1) := by decide +kernel
theorem dX2_factOfInspector_2 : decode cX2_factOfInspector 2 = .ok (.invokevirtual 60, 3) := by decide +kernel
theorem dX2_factOfInspector_5 : decode cX2_factOfInspector 5 = .ok (.astore_n 3, 1) := by decide +kernel
theorem dX2_factOfInspector_6 : decode cX2_factOfInspector 6 = .ok (.aload_n 3, 1) := by decide +kernel
theorem dX2_factOfInspector_7 : decode cX2_factOfInspector 7 = .ok (.ifnonnull 8, 3) := by decide +kernel
theorem dX2_factOfInspector_10 : decode cX2_factOfInspector 10 = .ok (.ldc 67, 2) := by decide +kernel
theorem dX2_factOfInspector_12 : decode cX2_factOfInspector 12 = .ok (.goto 8, 3) := by decide +kernel
theorem dX2_factOfInspector_15 : decode cX2_factOfInspector 15 = .ok (.aload_n 3, 1) := by decide +kernel
theorem dX2_factOfInspector_16 : decode cX2_factOfInspector 16 = .ok (.iload_n 2, 1) := by decide +kernel
theorem dX2_factOfInspector_17 : decode cX2_factOfInspector 17 = .ok (.invokevirtual 197, 3) := by decide +kernel
theorem dX2_factOfInspector_20 : decode cX2_factOfInspector 20 = .ok (.ireturn, 1) := by decide +kernel
theorem dX2_whyNotFired_0 : decode cX2_whyNotFired 0 = .ok (.aload_n 0, 1) := by decide +kernel
theorem dX2_whyNotFired_1 : decode cX2_whyNotFired 1 = .ok (.iload_n 1, 1) := by decide +kernel
theorem dX2_whyNotFired_2 : decode cX2_whyNotFired 2 = .ok (.invokevirtual 52, 3) := by decide +kernel
theorem dX2_whyNotFired_5 : decode cX2_whyNotFired 5 = .ok (.astore_n 2, 1) := by decide +kernel
theorem dX2_whyNotFired_6 : decode cX2_whyNotFired 6 = .ok (.aload_n 2, 1) := by decide +kernel
theorem dX2_whyNotFired_7 : decode cX2_whyNotFired 7 = .ok (.ifnonnull 8, 3) := by decide +kernel
theorem dX2_whyNotFired_10 : decode cX2_whyNotFired 10 = .ok (.ldc 67, 2) := by decide +kernel
theorem dX2_whyNotFired_12 : decode cX2_whyNotFired 12 = .ok (.goto 11, 3) := by decide +kernel
theorem dX2_whyNotFired_15 : decode cX2_whyNotFired 15 = .ok (.aload_n 2, 1) := by decide +kernel
theorem dX2_whyNotFired_16 : decode cX2_whyNotFired 16 = .ok (.aload_n 0, 1) := by decide +kernel
theorem dX2_whyNotFired_17 : decode cX2_whyNotFired 17 = .ok (.getfield 39, 3) := by decide +kernel
theorem dX2_whyNotFired_20 : decode cX2_whyNotFired 20 = .ok (.invokevirtual 125, 3) := by decide +kernel
theorem dX2_whyNotFired_23 : decode cX2_whyNotFired 23 = .ok (.ireturn, 1) := by decide +kernel
theorem dX2_whyNotInspected_0 : decode cX2_whyNotInspected 0 = .ok (.aload_n 0, 1) := by decide +kernel
theorem dX2_whyNotInspected_1 : decode cX2_whyNotInspected 1 = .ok (.iload_n 1, 1) := by decide +kernel
theorem dX2_whyNotInspected_2 : decode cX2_whyNotInspected 2 = .ok (.invokevirtual 52, 3) := by decide +kernel
theorem dX2_whyNotInspected_5 : decode cX2_whyNotInspected 5 = .ok (.astore_n 3, 1) := by decide +kernel
theorem dX2_whyNotInspected_6 : decode cX2_whyNotInspected 6 = .ok (.aload_n 0, 1) := by decide +kernel
theorem dX2_whyNotInspected_7 : decode cX2_whyNotInspected 7 = .ok (.iload_n 2, 1) := by decide +kernel
theorem dX2_whyNotInspected_8 : decode cX2_whyNotInspected 8 = .ok (.invokevirtual 60, 3) := by decide +kernel
theorem dX2_whyNotInspected_11 : decode cX2_whyNotInspected 11 = .ok (.astore 4, 2) := by decide +kernel
theorem dX2_whyNotInspected_13 : decode cX2_whyNotInspected 13 = .ok (.aload_n 3, 1) := by decide +kernel
theorem dX2_whyNotInspected_14 : decode cX2_whyNotInspected 14 = .ok (.ifnull 8, 3) := by decide +kernel
theorem dX2_whyNotInspected_17 : decode cX2_whyNotInspected 17 = .ok (.aload 4, 2) := by decide +kernel
theorem dX2_whyNotInspected_19 : decode cX2_whyNotInspected 19 = .ok (.ifnonnull 6, 3) := by decide +kernel
theorem dX2_whyNotInspected_22 : decode cX2_whyNotInspected 22 = .ok (.ldc 67, 2) := by decide +kernel
theorem dX2_whyNotInspected_24 : decode cX2_whyNotInspected 24 = .ok (.ireturn, 1) := by decide +kernel
theorem dX2_whyNotInspected_25 : decode cX2_whyNotInspected 25 = .ok (.aload_n 3, 1) := by decide +kernel
theorem dX2_whyNotInspected_26 : decode cX2_whyNotInspected 26 = .ok (.aload 4, 2) := by decide +kernel
theorem dX2_whyNotInspected_28 : decode cX2_whyNotInspected 28 = .ok (.invokevirtual 93, 3) := by decide +kernel
theorem dX2_whyNotInspected_31 : decode cX2_whyNotInspected 31 = .ok (.ireturn, 1) := by decide +kernel
theorem dX2_pressureOffered_0 : decode cX2_pressureOffered 0 = .ok (.aload_n 1, 1) := by decide +kernel
theorem dX2_pressureOffered_1 : decode cX2_pressureOffered 1 = .ok (.getfield 134, 3) := by decide +kernel
theorem dX2_pressureOffered_4 : decode cX2_pressureOffered 4 = .ok (.aload_n 0, 1) := by decide +kernel
theorem dX2_pressureOffered_5 : decode cX2_pressureOffered 5 = .ok (.iload_n 2, 1) := by decide +kernel
theorem dX2_pressureOffered_6 : decode cX2_pressureOffered 6 = .ok (.invokevirtual 118, 3) := by decide +kernel
theorem dX2_pressureOffered_9 : decode cX2_pressureOffered 9 = .ok (.if_icmp .le 5, 3) := by decide +kernel
theorem dX2_pressureOffered_12 : decode cX2_pressureOffered 12 = .ok (.iconst 0, 1) := by decide +kernel
theorem dX2_pressureOffered_13 : decode cX2_pressureOffered 13 = .ok (.ireturn, 1) := by decide +kernel
theorem dX2_pressureOffered_14 : decode cX2_pressureOffered 14 = .ok (.aload_n 1, 1) := by decide +kernel
theorem dX2_pressureOffered_15 : decode cX2_pressureOffered 15 = .ok (.invokevirtual 199, 3) := by decide +kernel
theorem dX2_pressureOffered_18 : decode cX2_pressureOffered 18 = .ok (.istore_n 3, 1) := by decide +kernel
theorem dX2_pressureOffered_19 : decode cX2_pressureOffered 19 = .ok (.iload_n 2, 1) := by decide +kernel
theorem dX2_pressureOffered_20 : decode cX2_pressureOffered 20 = .ok (.ifCond .ne 7, 3) := by decide +kernel
theorem dX2_pressureOffered_23 : decode cX2_pressureOffered 23 = .ok (.iload_n 3, 1) := by decide +kernel
theorem dX2_pressureOffered_24 : decode cX2_pressureOffered 24 = .ok (.goto 10, 3) := by decide +kernel
theorem dX2_pressureOffered_27 : decode cX2_pressureOffered 27 = .ok (.iload_n 3, 1) := by decide +kernel
theorem dX2_pressureOffered_28 : decode cX2_pressureOffered 28 = .ok (.bipush 9, 2) := by decide +kernel
theorem dX2_pressureOffered_30 : decode cX2_pressureOffered 30 = .ok (.imul, 1) := by decide +kernel
theorem dX2_pressureOffered_31 : decode cX2_pressureOffered 31 = .ok (.bipush 10, 2) := by decide +kernel
theorem dX2_pressureOffered_33 : decode cX2_pressureOffered 33 = .ok (.idiv, 1) := by decide +kernel
theorem dX2_pressureOffered_34 : decode cX2_pressureOffered 34 = .ok (.ireturn, 1) := by decide +kernel
theorem dX2_lastWeekOffered_0 : decode cX2_lastWeekOffered 0 = .ok (.aload_n 0, 1) := by decide +kernel
theorem dX2_lastWeekOffered_1 : decode cX2_lastWeekOffered 1 = .ok (.getfield 39, 3) := by decide +kernel
theorem dX2_lastWeekOffered_4 : decode cX2_lastWeekOffered 4 = .ok (.iload_n 2, 1) := by decide +kernel
theorem dX2_lastWeekOffered_5 : decode cX2_lastWeekOffered 5 = .ok (.ifCond .ne 15, 3) := by decide +kernel
theorem dX2_lastWeekOffered_8 : decode cX2_lastWeekOffered 8 = .ok (.bipush 52, 2) := by decide +kernel
theorem dX2_lastWeekOffered_10 : decode cX2_lastWeekOffered 10 = .ok (.aload_n 1, 1) := by decide +kernel
theorem dX2_lastWeekOffered_11 : decode cX2_lastWeekOffered 11 = .ok (.getfield 134, 3) := by decide +kernel
theorem dX2_lastWeekOffered_14 : decode cX2_lastWeekOffered 14 = .ok (.iconst 5, 1) := by decide +kernel
theorem dX2_lastWeekOffered_15 : decode cX2_lastWeekOffered 15 = .ok (.idiv, 1) := by decide +kernel
theorem dX2_lastWeekOffered_16 : decode cX2_lastWeekOffered 16 = .ok (.isub, 1) := by decide +kernel
theorem dX2_lastWeekOffered_17 : decode cX2_lastWeekOffered 17 = .ok (.goto 5, 3) := by decide +kernel
theorem dX2_lastWeekOffered_20 : decode cX2_lastWeekOffered 20 = .ok (.bipush 40, 2) := by decide +kernel
theorem dX2_lastWeekOffered_22 : decode cX2_lastWeekOffered 22 = .ok (.iadd, 1) := by decide +kernel
theorem dX2_lastWeekOffered_23 : decode cX2_lastWeekOffered 23 = .ok (.ireturn, 1) := by decide +kernel
theorem dX2_paperThatWouldBe_0 : decode cX2_paperThatWouldBe 0 = .ok (.aload_n 0, 1) := by decide +kernel
theorem dX2_paperThatWouldBe_1 : decode cX2_paperThatWouldBe 1 = .ok (.iload_n 1, 1) := by decide +kernel
theorem dX2_paperThatWouldBe_2 : decode cX2_paperThatWouldBe 2 = .ok (.invokevirtual 52, 3) := by decide +kernel
theorem dX2_paperThatWouldBe_5 : decode cX2_paperThatWouldBe 5 = .ok (.astore 4, 2) := by decide +kernel
theorem dX2_paperThatWouldBe_7 : decode cX2_paperThatWouldBe 7 = .ok (.aload 4, 2) := by decide +kernel
theorem dX2_paperThatWouldBe_9 : decode cX2_paperThatWouldBe 9 = .ok (.ifnull 19, 3) := by decide +kernel
theorem dX2_paperThatWouldBe_12 : decode cX2_paperThatWouldBe 12 = .ok (.iload_n 2, 1) := by decide +kernel
theorem dX2_paperThatWouldBe_13 : decode cX2_paperThatWouldBe 13 = .ok (.invokestatic 73, 3) := by decide +kernel
theorem dX2_paperThatWouldBe_16 : decode cX2_paperThatWouldBe 16 = .ok (.ifCond .eq 12, 3) := by decide +kernel
theorem dX2_paperThatWouldBe_19 : decode cX2_paperThatWouldBe 19 = .ok (.iload_n 3, 1) := by decide +kernel
theorem dX2_paperThatWouldBe_20 : decode cX2_paperThatWouldBe 20 = .ok (.ifCond .lt 8, 3) := by decide +kernel
theorem dX2_paperThatWouldBe_23 : decode cX2_paperThatWouldBe 23 = .ok (.iload_n 3, 1) := by decide +kernel
theorem dX2_paperThatWouldBe_24 : decode cX2_paperThatWouldBe 24 = .ok (.iconst 1, 1) := by decide +kernel
theorem dX2_paperThatWouldBe_25 : decode cX2_paperThatWouldBe 25 = .ok (.if_icmp .le 6, 3) := by decide +kernel
theorem dX2_paperThatWouldBe_28 : decode cX2_paperThatWouldBe 28 = .ok (.ldc 67, 2) := by decide +kernel
theorem dX2_paperThatWouldBe_30 : decode cX2_paperThatWouldBe 30 = .ok (.ireturn, 1) := by decide +kernel
theorem dX2_paperThatWouldBe_31 : decode cX2_paperThatWouldBe 31 = .ok (.aload_n 0, 1) := by decide +kernel
theorem dX2_paperThatWouldBe_32 : decode cX2_paperThatWouldBe 32 = .ok (.aload 4, 2) := by decide +kernel
theorem dX2_paperThatWouldBe_34 : decode cX2_paperThatWouldBe 34 = .ok (.iload_n 2, 1) := by decide +kernel
theorem dX2_paperThatWouldBe_35 : decode cX2_paperThatWouldBe 35 = .ok (.invokevirtual 100, 3) := by decide +kernel
theorem dX2_paperThatWouldBe_38 : decode cX2_paperThatWouldBe 38 = .ok (.istore 5, 2) := by decide +kernel
theorem dX2_paperThatWouldBe_40 : decode cX2_paperThatWouldBe 40 = .ok (.iload_n 3, 1) := by decide +kernel
theorem dX2_paperThatWouldBe_41 : decode cX2_paperThatWouldBe 41 = .ok (.ifCond .ne 6, 3) := by decide +kernel
theorem dX2_paperThatWouldBe_44 : decode cX2_paperThatWouldBe 44 = .ok (.iload 5, 2) := by decide +kernel
theorem dX2_paperThatWouldBe_46 : decode cX2_paperThatWouldBe 46 = .ok (.ireturn, 1) := by decide +kernel
theorem dX2_paperThatWouldBe_47 : decode cX2_paperThatWouldBe 47 = .ok (.iload 5, 2) := by decide +kernel
theorem dX2_paperThatWouldBe_49 : decode cX2_paperThatWouldBe 49 = .ok (.ifCond .le 13, 3) := by decide +kernel
theorem dX2_paperThatWouldBe_52 : decode cX2_paperThatWouldBe 52 = .ok (.aload_n 0, 1) := by decide +kernel
theorem dX2_paperThatWouldBe_53 : decode cX2_paperThatWouldBe 53 = .ok (.aload 4, 2) := by decide +kernel
theorem dX2_paperThatWouldBe_55 : decode cX2_paperThatWouldBe 55 = .ok (.iload_n 2, 1) := by decide +kernel
theorem dX2_paperThatWouldBe_56 : decode cX2_paperThatWouldBe 56 = .ok (.invokevirtual 104, 3) := by decide +kernel
theorem dX2_paperThatWouldBe_59 : decode cX2_paperThatWouldBe 59 = .ok (.goto 5, 3) := by decide +kernel
theorem dX2_paperThatWouldBe_62 : decode cX2_paperThatWouldBe 62 = .ok (.ldc 202, 2) := by decide +kernel
theorem dX2_paperThatWouldBe_64 : decode cX2_paperThatWouldBe 64 = .ok (.ireturn, 1) := by decide +kernel
theorem dX2_betterInsurer_0 : decode cX2_betterInsurer 0 = .ok (.aload_n 0, 1) := by decide +kernel
theorem dX2_betterInsurer_1 : decode cX2_betterInsurer 1 = .ok (.iload_n 1, 1) := by decide +kernel
theorem dX2_betterInsurer_2 : decode cX2_betterInsurer 2 = .ok (.invokevirtual 52, 3) := by decide +kernel
theorem dX2_betterInsurer_5 : decode cX2_betterInsurer 5 = .ok (.astore_n 2, 1) := by decide +kernel
theorem dX2_betterInsurer_6 : decode cX2_betterInsurer 6 = .ok (.aload_n 2, 1) := by decide +kernel
theorem dX2_betterInsurer_7 : decode cX2_betterInsurer 7 = .ok (.ifnonnull 6, 3) := by decide +kernel
theorem dX2_betterInsurer_10 : decode cX2_betterInsurer 10 = .ok (.ldc 67, 2) := by decide +kernel
theorem dX2_betterInsurer_12 : decode cX2_betterInsurer 12 = .ok (.ireturn, 1) := by decide +kernel
theorem dX2_betterInsurer_13 : decode cX2_betterInsurer 13 = .ok (.aload_n 0, 1) := by decide +kernel
theorem dX2_betterInsurer_14 : decode cX2_betterInsurer 14 = .ok (.aload_n 2, 1) := by decide +kernel
theorem dX2_betterInsurer_15 : decode cX2_betterInsurer 15 = .ok (.iconst 0, 1) := by decide +kernel
theorem dX2_betterInsurer_16 : decode cX2_betterInsurer 16 = .ok (.invokevirtual 100, 3) := by decide +kernel
theorem dX2_betterInsurer_19 : decode cX2_betterInsurer 19 = .ok (.aload_n 2, 1) := by decide +kernel
theorem dX2_betterInsurer_20 : decode cX2_betterInsurer 20 = .ok (.getfield 90, 3) := by decide +kernel
theorem dX2_betterInsurer_23 : decode cX2_betterInsurer 23 = .ok (.if_icmp .lt 7, 3) := by decide +kernel
theorem dX2_betterInsurer_26 : decode cX2_betterInsurer 26 = .ok (.iconst 1, 1) := by decide +kernel
theorem dX2_betterInsurer_27 : decode cX2_betterInsurer 27 = .ok (.goto 4, 3) := by decide +kernel
theorem dX2_betterInsurer_30 : decode cX2_betterInsurer 30 = .ok (.iconst 0, 1) := by decide +kernel
theorem dX2_betterInsurer_31 : decode cX2_betterInsurer 31 = .ok (.istore_n 3, 1) := by decide +kernel
theorem dX2_betterInsurer_32 : decode cX2_betterInsurer 32 = .ok (.aload_n 0, 1) := by decide +kernel
theorem dX2_betterInsurer_33 : decode cX2_betterInsurer 33 = .ok (.aload_n 2, 1) := by decide +kernel
theorem dX2_betterInsurer_34 : decode cX2_betterInsurer 34 = .ok (.iconst 1, 1) := by decide +kernel
theorem dX2_betterInsurer_35 : decode cX2_betterInsurer 35 = .ok (.invokevirtual 100, 3) := by decide +kernel
theorem dX2_betterInsurer_38 : decode cX2_betterInsurer 38 = .ok (.aload_n 2, 1) := by decide +kernel
theorem dX2_betterInsurer_39 : decode cX2_betterInsurer 39 = .ok (.getfield 90, 3) := by decide +kernel
theorem dX2_betterInsurer_42 : decode cX2_betterInsurer 42 = .ok (.if_icmp .lt 7, 3) := by decide +kernel
theorem dX2_betterInsurer_45 : decode cX2_betterInsurer 45 = .ok (.iconst 1, 1) := by decide +kernel
theorem dX2_betterInsurer_46 : decode cX2_betterInsurer 46 = .ok (.goto 4, 3) := by decide +kernel
theorem dX2_betterInsurer_49 : decode cX2_betterInsurer 49 = .ok (.iconst 0, 1) := by decide +kernel
theorem dX2_betterInsurer_50 : decode cX2_betterInsurer 50 = .ok (.istore 4, 2) := by decide +kernel
theorem dX2_betterInsurer_52 : decode cX2_betterInsurer 52 = .ok (.iload_n 3, 1) := by decide +kernel
theorem dX2_betterInsurer_53 : decode cX2_betterInsurer 53 = .ok (.ifCond .eq 22, 3) := by decide +kernel
theorem dX2_betterInsurer_56 : decode cX2_betterInsurer 56 = .ok (.iload 4, 2) := by decide +kernel
theorem dX2_betterInsurer_58 : decode cX2_betterInsurer 58 = .ok (.ifCond .eq 17, 3) := by decide +kernel
theorem dX2_betterInsurer_61 : decode cX2_betterInsurer 61 = .ok (.aload_n 0, 1) := by decide +kernel
theorem dX2_betterInsurer_62 : decode cX2_betterInsurer 62 = .ok (.aload_n 2, 1) := by decide +kernel
theorem dX2_betterInsurer_63 : decode cX2_betterInsurer 63 = .ok (.invokevirtual 203, 3) := by decide +kernel
theorem dX2_betterInsurer_66 : decode cX2_betterInsurer 66 = .ok (.ifCond .eq 7, 3) := by decide +kernel
theorem dX2_betterInsurer_69 : decode cX2_betterInsurer 69 = .ok (.iconst 1, 1) := by decide +kernel
theorem dX2_betterInsurer_70 : decode cX2_betterInsurer 70 = .ok (.goto 4, 3) := by decide +kernel
theorem dX2_betterInsurer_73 : decode cX2_betterInsurer 73 = .ok (.iconst 0, 1) := by decide +kernel
theorem dX2_betterInsurer_74 : decode cX2_betterInsurer 74 = .ok (.ireturn, 1) := by decide +kernel
theorem dX2_betterInsurer_75 : decode cX2_betterInsurer 75 = .ok (.iload_n 3, 1) := by decide +kernel
theorem dX2_betterInsurer_76 : decode cX2_betterInsurer 76 = .ok (.ifCond .eq 5, 3) := by decide +kernel
theorem dX2_betterInsurer_79 : decode cX2_betterInsurer 79 = .ok (.iconst 0, 1) := by decide +kernel
theorem dX2_betterInsurer_80 : decode cX2_betterInsurer 80 = .ok (.ireturn, 1) := by decide +kernel
theorem dX2_betterInsurer_81 : decode cX2_betterInsurer 81 = .ok (.iload 4, 2) := by decide +kernel
theorem dX2_betterInsurer_83 : decode cX2_betterInsurer 83 = .ok (.ifCond .eq 7, 3) := by decide +kernel
theorem dX2_betterInsurer_86 : decode cX2_betterInsurer 86 = .ok (.iconst 1, 1) := by decide +kernel
theorem dX2_betterInsurer_87 : decode cX2_betterInsurer 87 = .ok (.goto 5, 3) := by decide +kernel
theorem dX2_betterInsurer_90 : decode cX2_betterInsurer 90 = .ok (.ldc 202, 2) := by decide +kernel
theorem dX2_betterInsurer_92 : decode cX2_betterInsurer 92 = .ok (.ireturn, 1) := by decide +kernel
theorem dX2_isOneBetter_0 : decode cX2_isOneBetter 0 = .ok (.aload_n 0, 1) := by decide +kernel
theorem dX2_isOneBetter_1 : decode cX2_isOneBetter 1 = .ok (.aload_n 1, 1) := by decide +kernel
theorem dX2_isOneBetter_2 : decode cX2_isOneBetter 2 = .ok (.iconst 0, 1) := by decide +kernel
theorem dX2_isOneBetter_3 : decode cX2_isOneBetter 3 = .ok (.invokevirtual 104, 3) := by decide +kernel
theorem dX2_isOneBetter_6 : decode cX2_isOneBetter 6 = .ok (.istore_n 2, 1) := by decide +kernel
theorem dX2_isOneBetter_7 : decode cX2_isOneBetter 7 = .ok (.aload_n 0, 1) := by decide +kernel
theorem dX2_isOneBetter_8 : decode cX2_isOneBetter 8 = .ok (.aload_n 1, 1) := by decide +kernel
theorem dX2_isOneBetter_9 : decode cX2_isOneBetter 9 = .ok (.iconst 1, 1) := by decide +kernel
theorem dX2_isOneBetter_10 : decode cX2_isOneBetter 10 = .ok (.invokevirtual 104, 3) := by decide +kernel
theorem dX2_isOneBetter_13 : decode cX2_isOneBetter 13 = .ok (.istore_n 3, 1) := by decide +kernel
theorem dX2_isOneBetter_14 : decode cX2_isOneBetter 14 = .ok (.iload_n 2, 1) := by decide +kernel
theorem dX2_isOneBetter_15 : decode cX2_isOneBetter 15 = .ok (.iload_n 3, 1) := by decide +kernel
theorem dX2_isOneBetter_16 : decode cX2_isOneBetter 16 = .ok (.if_icmp .eq 14, 3) := by decide +kernel
theorem dX2_isOneBetter_19 : decode cX2_isOneBetter 19 = .ok (.iload_n 3, 1) := by decide +kernel
theorem dX2_isOneBetter_20 : decode cX2_isOneBetter 20 = .ok (.iload_n 2, 1) := by decide +kernel
theorem dX2_isOneBetter_21 : decode cX2_isOneBetter 21 = .ok (.if_icmp .le 7, 3) := by decide +kernel
theorem dX2_isOneBetter_24 : decode cX2_isOneBetter 24 = .ok (.iconst 1, 1) := by decide +kernel
theorem dX2_isOneBetter_25 : decode cX2_isOneBetter 25 = .ok (.goto 4, 3) := by decide +kernel
theorem dX2_isOneBetter_28 : decode cX2_isOneBetter 28 = .ok (.iconst 0, 1) := by decide +kernel
theorem dX2_isOneBetter_29 : decode cX2_isOneBetter 29 = .ok (.ireturn, 1) := by decide +kernel
theorem dX2_isOneBetter_30 : decode cX2_isOneBetter 30 = .ok (.aload_n 0, 1) := by decide +kernel
theorem dX2_isOneBetter_31 : decode cX2_isOneBetter 31 = .ok (.aload_n 1, 1) := by decide +kernel
theorem dX2_isOneBetter_32 : decode cX2_isOneBetter 32 = .ok (.iconst 1, 1) := by decide +kernel
theorem dX2_isOneBetter_33 : decode cX2_isOneBetter 33 = .ok (.invokevirtual 100, 3) := by decide +kernel
theorem dX2_isOneBetter_36 : decode cX2_isOneBetter 36 = .ok (.aload_n 0, 1) := by decide +kernel
theorem dX2_isOneBetter_37 : decode cX2_isOneBetter 37 = .ok (.aload_n 1, 1) := by decide +kernel
theorem dX2_isOneBetter_38 : decode cX2_isOneBetter 38 = .ok (.iconst 0, 1) := by decide +kernel
theorem dX2_isOneBetter_39 : decode cX2_isOneBetter 39 = .ok (.invokevirtual 100, 3) := by decide +kernel
theorem dX2_isOneBetter_42 : decode cX2_isOneBetter 42 = .ok (.if_icmp .le 7, 3) := by decide +kernel
theorem dX2_isOneBetter_45 : decode cX2_isOneBetter 45 = .ok (.iconst 1, 1) := by decide +kernel
theorem dX2_isOneBetter_46 : decode cX2_isOneBetter 46 = .ok (.goto 4, 3) := by decide +kernel
theorem dX2_isOneBetter_49 : decode cX2_isOneBetter 49 = .ok (.iconst 0, 1) := by decide +kernel
theorem dX2_isOneBetter_50 : decode cX2_isOneBetter 50 = .ok (.ireturn, 1) := by decide +kernel
theorem dX2_firstToRunOut_0 : decode cX2_firstToRunOut 0 = .ok (.iload_n 1, 1) := by decide +kernel
theorem dX2_firstToRunOut_1 : decode cX2_firstToRunOut 1 = .ok (.ifCond .lt 8, 3) := by decide +kernel
theorem dX2_firstToRunOut_4 : decode cX2_firstToRunOut 4 = .ok (.iload_n 1, 1) := by decide +kernel
theorem dX2_firstToRunOut_5 : decode cX2_firstToRunOut 5 = .ok (.iconst 1, 1) := by decide +kernel
theorem dX2_firstToRunOut_6 : decode cX2_firstToRunOut 6 = .ok (.if_icmp .le 6, 3) := by decide +kernel
theorem dX2_firstToRunOut_9 : decode cX2_firstToRunOut 9 = .ok (.ldc 67, 2) := by decide +kernel
theorem dX2_firstToRunOut_11 : decode cX2_firstToRunOut 11 = .ok (.ireturn, 1) := by decide +kernel
theorem dX2_firstToRunOut_12 : decode cX2_firstToRunOut 12 = .ok (.ldc 202, 2) := by decide +kernel
theorem dX2_firstToRunOut_14 : decode cX2_firstToRunOut 14 = .ok (.istore_n 2, 1) := by decide +kernel
theorem dX2_firstToRunOut_15 : decode cX2_firstToRunOut 15 = .ok (.ldc 202, 2) := by decide +kernel
theorem dX2_firstToRunOut_17 : decode cX2_firstToRunOut 17 = .ok (.istore_n 3, 1) := by decide +kernel
theorem dX2_firstToRunOut_18 : decode cX2_firstToRunOut 18 = .ok (.iconst 0, 1) := by decide +kernel
theorem dX2_firstToRunOut_19 : decode cX2_firstToRunOut 19 = .ok (.istore 4, 2) := by decide +kernel
theorem dX2_firstToRunOut_21 : decode cX2_firstToRunOut 21 = .ok (.iload 4, 2) := by decide +kernel
theorem dX2_firstToRunOut_23 : decode cX2_firstToRunOut 23 = .ok (.aload_n 0, 1) := by decide +kernel
theorem dX2_firstToRunOut_24 : decode cX2_firstToRunOut 24 = .ok (.getfield 32, 3) := by decide +kernel
theorem dX2_firstToRunOut_27 : decode cX2_firstToRunOut 27 = .ok (.if_icmp .ge 58, 3) := by decide +kernel
theorem dX2_firstToRunOut_30 : decode cX2_firstToRunOut 30 = .ok (.aload_n 0, 1) := by decide +kernel
theorem dX2_firstToRunOut_31 : decode cX2_firstToRunOut 31 = .ok (.iload 4, 2) := by decide +kernel
theorem dX2_firstToRunOut_33 : decode cX2_firstToRunOut 33 = .ok (.invokevirtual 52, 3) := by decide +kernel
theorem dX2_firstToRunOut_36 : decode cX2_firstToRunOut 36 = .ok (.astore 5, 2) := by decide +kernel
theorem dX2_firstToRunOut_38 : decode cX2_firstToRunOut 38 = .ok (.aload 5, 2) := by decide +kernel
theorem dX2_firstToRunOut_40 : decode cX2_firstToRunOut 40 = .ok (.ifnull 39, 3) := by decide +kernel
theorem dX2_firstToRunOut_43 : decode cX2_firstToRunOut 43 = .ok (.aload 5, 2) := by decide +kernel
theorem dX2_firstToRunOut_45 : decode cX2_firstToRunOut 45 = .ok (.getfield 83, 3) := by decide +kernel
theorem dX2_firstToRunOut_48 : decode cX2_firstToRunOut 48 = .ok (.iconst 1, 1) := by decide +kernel
theorem dX2_firstToRunOut_49 : decode cX2_firstToRunOut 49 = .ok (.if_icmp .eq 6, 3) := by decide +kernel
theorem dX2_firstToRunOut_52 : decode cX2_firstToRunOut 52 = .ok (.goto 27, 3) := by decide +kernel
theorem dX2_firstToRunOut_55 : decode cX2_firstToRunOut 55 = .ok (.iload_n 2, 1) := by decide +kernel
theorem dX2_firstToRunOut_56 : decode cX2_firstToRunOut 56 = .ok (.ldc 202, 2) := by decide +kernel
theorem dX2_firstToRunOut_58 : decode cX2_firstToRunOut 58 = .ok (.if_icmp .eq 12, 3) := by decide +kernel
theorem dX2_firstToRunOut_61 : decode cX2_firstToRunOut 61 = .ok (.aload 5, 2) := by decide +kernel
theorem dX2_firstToRunOut_63 : decode cX2_firstToRunOut 63 = .ok (.getfield 128, 3) := by decide +kernel
theorem dX2_firstToRunOut_66 : decode cX2_firstToRunOut 66 = .ok (.iload_n 3, 1) := by decide +kernel
theorem dX2_firstToRunOut_67 : decode cX2_firstToRunOut 67 = .ok (.if_icmp .ge 12, 3) := by decide +kernel
theorem dX2_firstToRunOut_70 : decode cX2_firstToRunOut 70 = .ok (.iload 4, 2) := by decide +kernel
theorem dX2_firstToRunOut_72 : decode cX2_firstToRunOut 72 = .ok (.istore_n 2, 1) := by decide +kernel
theorem dX2_firstToRunOut_73 : decode cX2_firstToRunOut 73 = .ok (.aload 5, 2) := by decide +kernel
theorem dX2_firstToRunOut_75 : decode cX2_firstToRunOut 75 = .ok (.getfield 128, 3) := by decide +kernel
theorem dX2_firstToRunOut_78 : decode cX2_firstToRunOut 78 = .ok (.istore_n 3, 1) := by decide +kernel
theorem dX2_firstToRunOut_79 : decode cX2_firstToRunOut 79 = .ok (.iinc 4 1, 3) := by decide +kernel
theorem dX2_firstToRunOut_82 : decode cX2_firstToRunOut 82 = .ok (.goto (-61), 3) := by decide +kernel
theorem dX2_firstToRunOut_85 : decode cX2_firstToRunOut 85 = .ok (.iload_n 1, 1) := by decide +kernel
theorem dX2_firstToRunOut_86 : decode cX2_firstToRunOut 86 = .ok (.ifCond .ne 7, 3) := by decide +kernel
theorem dX2_firstToRunOut_89 : decode cX2_firstToRunOut 89 = .ok (.iload_n 2, 1) := by decide +kernel
theorem dX2_firstToRunOut_90 : decode cX2_firstToRunOut 90 = .ok (.goto 4, 3) := by decide +kernel
theorem dX2_firstToRunOut_93 : decode cX2_firstToRunOut 93 = .ok (.iload_n 3, 1) := by decide +kernel
theorem dX2_firstToRunOut_94 : decode cX2_firstToRunOut 94 = .ok (.ireturn, 1) := by decide +kernel
theorem dX2_weeksUntilPutOut_0 : decode cX2_weeksUntilPutOut 0 = .ok (.aload_n 0, 1) := by decide +kernel
theorem dX2_weeksUntilPutOut_1 : decode cX2_weeksUntilPutOut 1 = .ok (.iload_n 1, 1) := by decide +kernel
theorem dX2_weeksUntilPutOut_2 : decode cX2_weeksUntilPutOut 2 = .ok (.invokevirtual 52, 3) := by decide +kernel
theorem dX2_weeksUntilPutOut_5 : decode cX2_weeksUntilPutOut 5 = .ok (.astore_n 2, 1) := by decide +kernel
theorem dX2_weeksUntilPutOut_6 : decode cX2_weeksUntilPutOut 6 = .ok (.aload_n 2, 1) := by decide +kernel
theorem dX2_weeksUntilPutOut_7 : decode cX2_weeksUntilPutOut 7 = .ok (.ifnonnull 8, 3) := by decide +kernel
theorem dX2_weeksUntilPutOut_10 : decode cX2_weeksUntilPutOut 10 = .ok (.ldc 67, 2) := by decide +kernel
theorem dX2_weeksUntilPutOut_12 : decode cX2_weeksUntilPutOut 12 = .ok (.goto 11, 3) := by decide +kernel
theorem dX2_weeksUntilPutOut_15 : decode cX2_weeksUntilPutOut 15 = .ok (.aload_n 2, 1) := by decide +kernel
theorem dX2_weeksUntilPutOut_16 : decode cX2_weeksUntilPutOut 16 = .ok (.aload_n 0, 1) := by decide +kernel
theorem dX2_weeksUntilPutOut_17 : decode cX2_weeksUntilPutOut 17 = .ok (.getfield 39, 3) := by decide +kernel
theorem dX2_weeksUntilPutOut_20 : decode cX2_weeksUntilPutOut 20 = .ok (.invokevirtual 207, 3) := by decide +kernel
theorem dX2_weeksUntilPutOut_23 : decode cX2_weeksUntilPutOut 23 = .ok (.ireturn, 1) := by decide +kernel
theorem dX2_shareOfStrength_0 : decode cX2_shareOfStrength 0 = .ok (.aload_n 0, 1) := by decide +kernel
theorem dX2_shareOfStrength_1 : decode cX2_shareOfStrength 1 = .ok (.iload_n 1, 1) := by decide +kernel
theorem dX2_shareOfStrength_2 : decode cX2_shareOfStrength 2 = .ok (.invokevirtual 52, 3) := by decide +kernel
theorem dX2_shareOfStrength_5 : decode cX2_shareOfStrength 5 = .ok (.astore_n 2, 1) := by decide +kernel
theorem dX2_shareOfStrength_6 : decode cX2_shareOfStrength 6 = .ok (.aload_n 2, 1) := by decide +kernel
theorem dX2_shareOfStrength_7 : decode cX2_shareOfStrength 7 = .ok (.ifnull 11, 3) := by decide +kernel
theorem dX2_shareOfStrength_10 : decode cX2_shareOfStrength 10 = .ok (.aload_n 2, 1) := by decide +kernel
theorem dX2_shareOfStrength_11 : decode cX2_shareOfStrength 11 = .ok (.getfield 80, 3) := by decide +kernel
theorem dX2_shareOfStrength_14 : decode cX2_shareOfStrength 14 = .ok (.iconst 1, 1) := by decide +kernel
theorem dX2_shareOfStrength_15 : decode cX2_shareOfStrength 15 = .ok (.if_icmp .ge 6, 3) := by decide +kernel
theorem dX2_shareOfStrength_18 : decode cX2_shareOfStrength 18 = .ok (.ldc 67, 2) := by decide +kernel
theorem dX2_shareOfStrength_20 : decode cX2_shareOfStrength 20 = .ok (.ireturn, 1) := by decide +kernel
theorem dX2_shareOfStrength_21 : decode cX2_shareOfStrength 21 = .ok (.aload_n 2, 1) := by decide +kernel
theorem dX2_shareOfStrength_22 : decode cX2_shareOfStrength 22 = .ok (.invokevirtual 199, 3) := by decide +kernel
theorem dX2_shareOfStrength_25 : decode cX2_shareOfStrength 25 = .ok (.i2f, 1) := by decide +kernel
theorem dX2_shareOfStrength_26 : decode cX2_shareOfStrength 26 = .ok (.aload_n 2, 1) := by decide +kernel
theorem dX2_shareOfStrength_27 : decode cX2_shareOfStrength 27 = .ok (.getfield 80, 3) := by decide +kernel
theorem dX2_shareOfStrength_30 : decode cX2_shareOfStrength 30 = .ok (.i2f, 1) := by decide +kernel
theorem dX2_shareOfStrength_31 : decode cX2_shareOfStrength 31 = .ok (.fdiv, 1) := by decide +kernel
theorem dX2_shareOfStrength_32 : decode cX2_shareOfStrength 32 = .ok (.invokestatic 210, 3) := by decide +kernel
theorem dX2_shareOfStrength_35 : decode cX2_shareOfStrength 35 = .ok (.ireturn, 1) := by decide +kernel
theorem dX2_bitsOfShare_0 : decode cX2_bitsOfShare 0 = .ok (.fload_n 0, 1) := by decide +kernel
theorem dX2_bitsOfShare_1 : decode cX2_bitsOfShare 1 = .ok (.fconst 0, 1) := by decide +kernel
theorem dX2_bitsOfShare_2 : decode cX2_bitsOfShare 2 = .ok (.fcmp .g, 1) := by decide +kernel
theorem dX2_bitsOfShare_3 : decode cX2_bitsOfShare 3 = .ok (.ifCond .gt 5, 3) := by decide +kernel
theorem dX2_bitsOfShare_6 : decode cX2_bitsOfShare 6 = .ok (.iconst 0, 1) := by decide +kernel
theorem dX2_bitsOfShare_7 : decode cX2_bitsOfShare 7 = .ok (.ireturn, 1) := by decide +kernel
theorem dX2_bitsOfShare_8 : decode cX2_bitsOfShare 8 = .ok (.fload_n 0, 1) := by decide +kernel
theorem dX2_bitsOfShare_9 : decode cX2_bitsOfShare 9 = .ok (.fstore_n 1, 1) := by decide +kernel
theorem dX2_bitsOfShare_10 : decode cX2_bitsOfShare 10 = .ok (.bipush 127, 2) := by decide +kernel
theorem dX2_bitsOfShare_12 : decode cX2_bitsOfShare 12 = .ok (.istore_n 2, 1) := by decide +kernel
theorem dX2_bitsOfShare_13 : decode cX2_bitsOfShare 13 = .ok (.iconst 0, 1) := by decide +kernel
theorem dX2_bitsOfShare_14 : decode cX2_bitsOfShare 14 = .ok (.istore_n 3, 1) := by decide +kernel
theorem dX2_bitsOfShare_15 : decode cX2_bitsOfShare 15 = .ok (.iload_n 3, 1) := by decide +kernel
theorem dX2_bitsOfShare_16 : decode cX2_bitsOfShare 16 = .ok (.bipush 126, 2) := by decide +kernel
theorem dX2_bitsOfShare_18 : decode cX2_bitsOfShare 18 = .ok (.if_icmp .ge 22, 3) := by decide +kernel
theorem dX2_bitsOfShare_21 : decode cX2_bitsOfShare 21 = .ok (.fload_n 1, 1) := by decide +kernel
theorem dX2_bitsOfShare_22 : decode cX2_bitsOfShare 22 = .ok (.fconst 1, 1) := by decide +kernel
theorem dX2_bitsOfShare_23 : decode cX2_bitsOfShare 23 = .ok (.fcmp .g, 1) := by decide +kernel
theorem dX2_bitsOfShare_24 : decode cX2_bitsOfShare 24 = .ok (.ifCond .ge 16, 3) := by decide +kernel
theorem dX2_bitsOfShare_27 : decode cX2_bitsOfShare 27 = .ok (.fload_n 1, 1) := by decide +kernel
theorem dX2_bitsOfShare_28 : decode cX2_bitsOfShare 28 = .ok (.fconst 2, 1) := by decide +kernel
theorem dX2_bitsOfShare_29 : decode cX2_bitsOfShare 29 = .ok (.fmul, 1) := by decide +kernel
theorem dX2_bitsOfShare_30 : decode cX2_bitsOfShare 30 = .ok (.fstore_n 1, 1) := by decide +kernel
theorem dX2_bitsOfShare_31 : decode cX2_bitsOfShare 31 = .ok (.iinc 2 (-1), 3) := by decide +kernel
theorem dX2_bitsOfShare_34 : decode cX2_bitsOfShare 34 = .ok (.iinc 3 1, 3) := by decide +kernel
theorem dX2_bitsOfShare_37 : decode cX2_bitsOfShare 37 = .ok (.goto (-22), 3) := by decide +kernel
theorem dX2_bitsOfShare_40 : decode cX2_bitsOfShare 40 = .ok (.iload_n 2, 1) := by decide +kernel
theorem dX2_bitsOfShare_41 : decode cX2_bitsOfShare 41 = .ok (.bipush 23, 2) := by decide +kernel
theorem dX2_bitsOfShare_43 : decode cX2_bitsOfShare 43 = .ok (.ishl, 1) := by decide +kernel
theorem dX2_bitsOfShare_44 : decode cX2_bitsOfShare 44 = .ok (.fload_n 1, 1) := by decide +kernel
theorem dX2_bitsOfShare_45 : decode cX2_bitsOfShare 45 = .ok (.fconst 1, 1) := by decide +kernel
theorem dX2_bitsOfShare_46 : decode cX2_bitsOfShare 46 = .ok (.fsub, 1) := by decide +kernel
theorem dX2_bitsOfShare_47 : decode cX2_bitsOfShare 47 = .ok (.ldc 214, 2) := by decide +kernel
theorem dX2_bitsOfShare_49 : decode cX2_bitsOfShare 49 = .ok (.fmul, 1) := by decide +kernel
theorem dX2_bitsOfShare_50 : decode cX2_bitsOfShare 50 = .ok (.f2i, 1) := by decide +kernel
theorem dX2_bitsOfShare_51 : decode cX2_bitsOfShare 51 = .ok (.iadd, 1) := by decide +kernel
theorem dX2_bitsOfShare_52 : decode cX2_bitsOfShare 52 = .ok (.ireturn, 1) := by decide +kernel
theorem dX2_numberOf_0 : decode cX2_numberOf 0 = .ok (.iload_n 1, 1) := by decide +kernel
theorem dX2_numberOf_1 : decode cX2_numberOf 1 = .ok (.bipush 20, 2) := by decide +kernel
theorem dX2_numberOf_3 : decode cX2_numberOf 3 = .ok (.if_icmp .lt 18, 3) := by decide +kernel
theorem dX2_numberOf_6 : decode cX2_numberOf 6 = .ok (.iload_n 1, 1) := by decide +kernel
theorem dX2_numberOf_7 : decode cX2_numberOf 7 = .ok (.bipush 23, 2) := by decide +kernel
theorem dX2_numberOf_9 : decode cX2_numberOf 9 = .ok (.if_icmp .gt 12, 3) := by decide +kernel
theorem dX2_numberOf_12 : decode cX2_numberOf 12 = .ok (.aload_n 0, 1) := by decide +kernel
theorem dX2_numberOf_13 : decode cX2_numberOf 13 = .ok (.iload_n 1, 1) := by decide +kernel
theorem dX2_numberOf_14 : decode cX2_numberOf 14 = .ok (.bipush 20, 2) := by decide +kernel
theorem dX2_numberOf_16 : decode cX2_numberOf 16 = .ok (.isub, 1) := by decide +kernel
theorem dX2_numberOf_17 : decode cX2_numberOf 17 = .ok (.invokevirtual 118, 3) := by decide +kernel
theorem dX2_numberOf_20 : decode cX2_numberOf 20 = .ok (.ireturn, 1) := by decide +kernel
theorem dX2_numberOf_21 : decode cX2_numberOf 21 = .ok (.iload_n 1, 1) := by decide +kernel
theorem dX2_numberOf_22 : decode cX2_numberOf 22 = .ok (.tableswitch 114 0 12 #[66, 71, 76, 81, 81, 81, 81, 87, 92, 98, 104, 109, 81], 66) := by decide +kernel
theorem dX2_numberOf_88 : decode cX2_numberOf 88 = .ok (.aload_n 0, 1) := by decide +kernel
theorem dX2_numberOf_89 : decode cX2_numberOf 89 = .ok (.getfield 32, 3) := by decide +kernel
theorem dX2_numberOf_92 : decode cX2_numberOf 92 = .ok (.ireturn, 1) := by decide +kernel
theorem dX2_numberOf_93 : decode cX2_numberOf 93 = .ok (.aload_n 0, 1) := by decide +kernel
theorem dX2_numberOf_94 : decode cX2_numberOf 94 = .ok (.getfield 36, 3) := by decide +kernel
theorem dX2_numberOf_97 : decode cX2_numberOf 97 = .ok (.ireturn, 1) := by decide +kernel
theorem dX2_numberOf_98 : decode cX2_numberOf 98 = .ok (.aload_n 0, 1) := by decide +kernel
theorem dX2_numberOf_99 : decode cX2_numberOf 99 = .ok (.getfield 39, 3) := by decide +kernel
theorem dX2_numberOf_102 : decode cX2_numberOf 102 = .ok (.ireturn, 1) := by decide +kernel
theorem dX2_numberOf_103 : decode cX2_numberOf 103 = .ok (.aload_n 0, 1) := by decide +kernel
theorem dX2_numberOf_104 : decode cX2_numberOf 104 = .ok (.iload_n 1, 1) := by decide +kernel
theorem dX2_numberOf_105 : decode cX2_numberOf 105 = .ok (.invokevirtual 215, 3) := by decide +kernel
theorem dX2_numberOf_108 : decode cX2_numberOf 108 = .ok (.ireturn, 1) := by decide +kernel
theorem dX2_numberOf_109 : decode cX2_numberOf 109 = .ok (.aload_n 0, 1) := by decide +kernel
theorem dX2_numberOf_110 : decode cX2_numberOf 110 = .ok (.invokevirtual 218, 3) := by decide +kernel
theorem dX2_numberOf_113 : decode cX2_numberOf 113 = .ok (.ireturn, 1) := by decide +kernel
theorem dX2_numberOf_114 : decode cX2_numberOf 114 = .ok (.aload_n 0, 1) := by decide +kernel
theorem dX2_numberOf_115 : decode cX2_numberOf 115 = .ok (.iconst 3, 1) := by decide +kernel
theorem dX2_numberOf_116 : decode cX2_numberOf 116 = .ok (.invokevirtual 221, 3) := by decide +kernel
theorem dX2_numberOf_119 : decode cX2_numberOf 119 = .ok (.ireturn, 1) := by decide +kernel
theorem dX2_numberOf_120 : decode cX2_numberOf 120 = .ok (.aload_n 0, 1) := by decide +kernel
theorem dX2_numberOf_121 : decode cX2_numberOf 121 = .ok (.iconst 4, 1) := by decide +kernel
theorem dX2_numberOf_122 : decode cX2_numberOf 122 = .ok (.invokevirtual 221, 3) := by decide +kernel
theorem dX2_numberOf_125 : decode cX2_numberOf 125 = .ok (.ireturn, 1) := by decide +kernel
theorem dX2_numberOf_126 : decode cX2_numberOf 126 = .ok (.aload_n 0, 1) := by decide +kernel
theorem dX2_numberOf_127 : decode cX2_numberOf 127 = .ok (.getfield 42, 3) := by decide +kernel
theorem dX2_numberOf_130 : decode cX2_numberOf 130 = .ok (.ireturn, 1) := by decide +kernel
theorem dX2_numberOf_131 : decode cX2_numberOf 131 = .ok (.aload_n 0, 1) := by decide +kernel
theorem dX2_numberOf_132 : decode cX2_numberOf 132 = .ok (.getfield 45, 3) := by decide +kernel
theorem dX2_numberOf_135 : decode cX2_numberOf 135 = .ok (.ireturn, 1) := by decide +kernel
theorem dX2_numberOf_136 : decode cX2_numberOf 136 = .ok (.ldc 67, 2) := by decide +kernel
theorem dX2_numberOf_138 : decode cX2_numberOf 138 = .ok (.ireturn, 1) := by decide +kernel
theorem dX2_setOfBoilers_0 : decode cX2_setOfBoilers 0 = .ok (.iconst 0, 1) := by decide +kernel
theorem dX2_setOfBoilers_1 : decode cX2_setOfBoilers 1 = .ok (.istore_n 2, 1) := by decide +kernel
theorem dX2_setOfBoilers_2 : decode cX2_setOfBoilers 2 = .ok (.iconst 0, 1) := by decide +kernel
theorem dX2_setOfBoilers_3 : decode cX2_setOfBoilers 3 = .ok (.istore_n 3, 1) := by decide +kernel
theorem dX2_setOfBoilers_4 : decode cX2_setOfBoilers 4 = .ok (.iload_n 3, 1) := by decide +kernel
theorem dX2_setOfBoilers_5 : decode cX2_setOfBoilers 5 = .ok (.aload_n 0, 1) := by decide +kernel
theorem dX2_setOfBoilers_6 : decode cX2_setOfBoilers 6 = .ok (.getfield 32, 3) := by decide +kernel
theorem dX2_setOfBoilers_9 : decode cX2_setOfBoilers 9 = .ok (.if_icmp .ge 37, 3) := by decide +kernel
theorem dX2_setOfBoilers_12 : decode cX2_setOfBoilers 12 = .ok (.aload_n 0, 1) := by decide +kernel
theorem dX2_setOfBoilers_13 : decode cX2_setOfBoilers 13 = .ok (.iload_n 3, 1) := by decide +kernel
theorem dX2_setOfBoilers_14 : decode cX2_setOfBoilers 14 = .ok (.invokevirtual 52, 3) := by decide +kernel
theorem dX2_setOfBoilers_17 : decode cX2_setOfBoilers 17 = .ok (.astore 4, 2) := by decide +kernel
theorem dX2_setOfBoilers_19 : decode cX2_setOfBoilers 19 = .ok (.aload 4, 2) := by decide +kernel
theorem dX2_setOfBoilers_21 : decode cX2_setOfBoilers 21 = .ok (.ifnull 19, 3) := by decide +kernel
theorem dX2_setOfBoilers_24 : decode cX2_setOfBoilers 24 = .ok (.aload_n 0, 1) := by decide +kernel
theorem dX2_setOfBoilers_25 : decode cX2_setOfBoilers 25 = .ok (.aload 4, 2) := by decide +kernel
theorem dX2_setOfBoilers_27 : decode cX2_setOfBoilers 27 = .ok (.iload_n 1, 1) := by decide +kernel
theorem dX2_setOfBoilers_28 : decode cX2_setOfBoilers 28 = .ok (.invokevirtual 224, 3) := by decide +kernel
theorem dX2_setOfBoilers_31 : decode cX2_setOfBoilers 31 = .ok (.ifCond .eq 9, 3) := by decide +kernel
theorem dX2_setOfBoilers_34 : decode cX2_setOfBoilers 34 = .ok (.iload_n 2, 1) := by decide +kernel
theorem dX2_setOfBoilers_35 : decode cX2_setOfBoilers 35 = .ok (.iconst 1, 1) := by decide +kernel
theorem dX2_setOfBoilers_36 : decode cX2_setOfBoilers 36 = .ok (.iload_n 3, 1) := by decide +kernel
theorem dX2_setOfBoilers_37 : decode cX2_setOfBoilers 37 = .ok (.ishl, 1) := by decide +kernel
theorem dX2_setOfBoilers_38 : decode cX2_setOfBoilers 38 = .ok (.ior, 1) := by decide +kernel
theorem dX2_setOfBoilers_39 : decode cX2_setOfBoilers 39 = .ok (.istore_n 2, 1) := by decide +kernel
theorem dX2_setOfBoilers_40 : decode cX2_setOfBoilers 40 = .ok (.iinc 3 1, 3) := by decide +kernel
theorem dX2_setOfBoilers_43 : decode cX2_setOfBoilers 43 = .ok (.goto (-39), 3) := by decide +kernel
theorem dX2_setOfBoilers_46 : decode cX2_setOfBoilers 46 = .ok (.iload_n 2, 1) := by decide +kernel
theorem dX2_setOfBoilers_47 : decode cX2_setOfBoilers 47 = .ok (.ireturn, 1) := by decide +kernel
theorem dX2_isInSet_0 : decode cX2_isInSet 0 = .ok (.iload_n 2, 1) := by decide +kernel
theorem dX2_isInSet_1 : decode cX2_isInSet 1 = .ok (.tableswitch 69 3 6 #[31, 45, 59, 64], 31) := by decide +kernel
theorem dX2_isInSet_32 : decode cX2_isInSet 32 = .ok (.aload_n 1, 1) := by decide +kernel
theorem dX2_isInSet_33 : decode cX2_isInSet 33 = .ok (.getfield 83, 3) := by decide +kernel
theorem dX2_isInSet_36 : decode cX2_isInSet 36 = .ok (.iconst 1, 1) := by decide +kernel
theorem dX2_isInSet_37 : decode cX2_isInSet 37 = .ok (.if_icmp .ne 7, 3) := by decide +kernel
theorem dX2_isInSet_40 : decode cX2_isInSet 40 = .ok (.iconst 1, 1) := by decide +kernel
theorem dX2_isInSet_41 : decode cX2_isInSet 41 = .ok (.goto 4, 3) := by decide +kernel
theorem dX2_isInSet_44 : decode cX2_isInSet 44 = .ok (.iconst 0, 1) := by decide +kernel
theorem dX2_isInSet_45 : decode cX2_isInSet 45 = .ok (.ireturn, 1) := by decide +kernel
theorem dX2_isInSet_46 : decode cX2_isInSet 46 = .ok (.aload_n 1, 1) := by decide +kernel
theorem dX2_isInSet_47 : decode cX2_isInSet 47 = .ok (.getfield 83, 3) := by decide +kernel
theorem dX2_isInSet_50 : decode cX2_isInSet 50 = .ok (.iconst 2, 1) := by decide +kernel
theorem dX2_isInSet_51 : decode cX2_isInSet 51 = .ok (.if_icmp .ne 7, 3) := by decide +kernel
theorem dX2_isInSet_54 : decode cX2_isInSet 54 = .ok (.iconst 1, 1) := by decide +kernel
theorem dX2_isInSet_55 : decode cX2_isInSet 55 = .ok (.goto 4, 3) := by decide +kernel
theorem dX2_isInSet_58 : decode cX2_isInSet 58 = .ok (.iconst 0, 1) := by decide +kernel
theorem dX2_isInSet_59 : decode cX2_isInSet 59 = .ok (.ireturn, 1) := by decide +kernel
theorem dX2_isInSet_60 : decode cX2_isInSet 60 = .ok (.aload_n 1, 1) := by decide +kernel
theorem dX2_isInSet_61 : decode cX2_isInSet 61 = .ok (.getfield 228, 3) := by decide +kernel
theorem dX2_isInSet_64 : decode cX2_isInSet 64 = .ok (.ireturn, 1) := by decide +kernel
theorem dX2_isInSet_65 : decode cX2_isInSet 65 = .ok (.aload_n 1, 1) := by decide +kernel
theorem dX2_isInSet_66 : decode cX2_isInSet 66 = .ok (.getfield 231, 3) := by decide +kernel
theorem dX2_isInSet_69 : decode cX2_isInSet 69 = .ok (.ireturn, 1) := by decide +kernel
theorem dX2_isInSet_70 : decode cX2_isInSet 70 = .ok (.aload_n 1, 1) := by decide +kernel
theorem dX2_isInSet_71 : decode cX2_isInSet 71 = .ok (.aload_n 0, 1) := by decide +kernel
theorem dX2_isInSet_72 : decode cX2_isInSet 72 = .ok (.getfield 39, 3) := by decide +kernel
theorem dX2_isInSet_75 : decode cX2_isInSet 75 = .ok (.invokevirtual 125, 3) := by decide +kernel
theorem dX2_isInSet_78 : decode cX2_isInSet 78 = .ok (.ifCond .ne 7, 3) := by decide +kernel
theorem dX2_isInSet_81 : decode cX2_isInSet 81 = .ok (.iconst 1, 1) := by decide +kernel
theorem dX2_isInSet_82 : decode cX2_isInSet 82 = .ok (.goto 4, 3) := by decide +kernel
theorem dX2_isInSet_85 : decode cX2_isInSet 85 = .ok (.iconst 0, 1) := by decide +kernel
theorem dX2_isInSet_86 : decode cX2_isInSet 86 = .ok (.ireturn, 1) := by decide +kernel
theorem dX2_allAccounts_0 : decode cX2_allAccounts 0 = .ok (.iconst 0, 1) := by decide +kernel
theorem dX2_allAccounts_1 : decode cX2_allAccounts 1 = .ok (.istore_n 1, 1) := by decide +kernel
theorem dX2_allAccounts_2 : decode cX2_allAccounts 2 = .ok (.aload_n 0, 1) := by decide +kernel
theorem dX2_allAccounts_3 : decode cX2_allAccounts 3 = .ok (.getfield 27, 3) := by decide +kernel
theorem dX2_allAccounts_6 : decode cX2_allAccounts 6 = .ok (.astore_n 2, 1) := by decide +kernel
theorem dX2_allAccounts_7 : decode cX2_allAccounts 7 = .ok (.aload_n 2, 1) := by decide +kernel
theorem dX2_allAccounts_8 : decode cX2_allAccounts 8 = .ok (.arraylength, 1) := by decide +kernel
theorem dX2_allAccounts_9 : decode cX2_allAccounts 9 = .ok (.istore_n 3, 1) := by decide +kernel
theorem dX2_allAccounts_10 : decode cX2_allAccounts 10 = .ok (.iconst 0, 1) := by decide +kernel
theorem dX2_allAccounts_11 : decode cX2_allAccounts 11 = .ok (.istore 4, 2) := by decide +kernel
theorem dX2_allAccounts_13 : decode cX2_allAccounts 13 = .ok (.iload 4, 2) := by decide +kernel
theorem dX2_allAccounts_15 : decode cX2_allAccounts 15 = .ok (.iload_n 3, 1) := by decide +kernel
theorem dX2_allAccounts_16 : decode cX2_allAccounts 16 = .ok (.if_icmp .ge 20, 3) := by decide +kernel
theorem dX2_allAccounts_19 : decode cX2_allAccounts 19 = .ok (.aload_n 2, 1) := by decide +kernel
theorem dX2_allAccounts_20 : decode cX2_allAccounts 20 = .ok (.iload 4, 2) := by decide +kernel
theorem dX2_allAccounts_22 : decode cX2_allAccounts 22 = .ok (.iaload, 1) := by decide +kernel
theorem dX2_allAccounts_23 : decode cX2_allAccounts 23 = .ok (.istore 5, 2) := by decide +kernel
theorem dX2_allAccounts_25 : decode cX2_allAccounts 25 = .ok (.iload_n 1, 1) := by decide +kernel
theorem dX2_allAccounts_26 : decode cX2_allAccounts 26 = .ok (.iload 5, 2) := by decide +kernel
theorem dX2_allAccounts_28 : decode cX2_allAccounts 28 = .ok (.iadd, 1) := by decide +kernel
theorem dX2_allAccounts_29 : decode cX2_allAccounts 29 = .ok (.istore_n 1, 1) := by decide +kernel
theorem dX2_allAccounts_30 : decode cX2_allAccounts 30 = .ok (.iinc 4 1, 3) := by decide +kernel
theorem dX2_allAccounts_33 : decode cX2_allAccounts 33 = .ok (.goto (-20), 3) := by decide +kernel
theorem dX2_allAccounts_36 : decode cX2_allAccounts 36 = .ok (.iload_n 1, 1) := by decide +kernel
theorem dX2_allAccounts_37 : decode cX2_allAccounts 37 = .ok (.ireturn, 1) := by decide +kernel
theorem dX2_allOfInspectors_0 : decode cX2_allOfInspectors 0 = .ok (.iconst 0, 1) := by decide +kernel
theorem dX2_allOfInspectors_1 : decode cX2_allOfInspectors 1 = .ok (.istore_n 2, 1) := by decide +kernel
theorem dX2_allOfInspectors_2 : decode cX2_allOfInspectors 2 = .ok (.iconst 0, 1) := by decide +kernel
theorem dX2_allOfInspectors_3 : decode cX2_allOfInspectors 3 = .ok (.istore_n 3, 1) := by decide +kernel
theorem dX2_allOfInspectors_4 : decode cX2_allOfInspectors 4 = .ok (.iload_n 3, 1) := by decide +kernel
theorem dX2_allOfInspectors_5 : decode cX2_allOfInspectors 5 = .ok (.aload_n 0, 1) := by decide +kernel
theorem dX2_allOfInspectors_6 : decode cX2_allOfInspectors 6 = .ok (.getfield 36, 3) := by decide +kernel
theorem dX2_allOfInspectors_9 : decode cX2_allOfInspectors 9 = .ok (.if_icmp .ge 30, 3) := by decide +kernel
theorem dX2_allOfInspectors_12 : decode cX2_allOfInspectors 12 = .ok (.aload_n 0, 1) := by decide +kernel
theorem dX2_allOfInspectors_13 : decode cX2_allOfInspectors 13 = .ok (.iload_n 3, 1) := by decide +kernel
theorem dX2_allOfInspectors_14 : decode cX2_allOfInspectors 14 = .ok (.invokevirtual 60, 3) := by decide +kernel
theorem dX2_allOfInspectors_17 : decode cX2_allOfInspectors 17 = .ok (.astore 4, 2) := by decide +kernel
theorem dX2_allOfInspectors_19 : decode cX2_allOfInspectors 19 = .ok (.aload 4, 2) := by decide +kernel
theorem dX2_allOfInspectors_21 : decode cX2_allOfInspectors 21 = .ok (.ifnull 12, 3) := by decide +kernel
theorem dX2_allOfInspectors_24 : decode cX2_allOfInspectors 24 = .ok (.iload_n 2, 1) := by decide +kernel
theorem dX2_allOfInspectors_25 : decode cX2_allOfInspectors 25 = .ok (.aload 4, 2) := by decide +kernel
theorem dX2_allOfInspectors_27 : decode cX2_allOfInspectors 27 = .ok (.iload_n 1, 1) := by decide +kernel
theorem dX2_allOfInspectors_28 : decode cX2_allOfInspectors 28 = .ok (.invokevirtual 197, 3) := by decide +kernel
theorem dX2_allOfInspectors_31 : decode cX2_allOfInspectors 31 = .ok (.iadd, 1) := by decide +kernel
theorem dX2_allOfInspectors_32 : decode cX2_allOfInspectors 32 = .ok (.istore_n 2, 1) := by decide +kernel
theorem dX2_allOfInspectors_33 : decode cX2_allOfInspectors 33 = .ok (.iinc 3 1, 3) := by decide +kernel
theorem dX2_allOfInspectors_36 : decode cX2_allOfInspectors 36 = .ok (.goto (-32), 3) := by decide +kernel
theorem dX2_allOfInspectors_39 : decode cX2_allOfInspectors 39 = .ok (.iload_n 2, 1) := by decide +kernel
theorem dX2_allOfInspectors_40 : decode cX2_allOfInspectors 40 = .ok (.ireturn, 1) := by decide +kernel
theorem dX3_init_0 : decode cX3_init 0 = .ok (.aload_n 0, 1) := by decide +kernel
theorem dX3_init_1 : decode cX3_init 1 = .ok (.invokespecial 3, 3) := by decide +kernel
theorem dX3_init_4 : decode cX3_init 4 = .ok (.return_, 1) := by decide +kernel
theorem dX3_begin_0 : decode cX3_begin 0 = .ok (.aload_n 0, 1) := by decide +kernel
theorem dX3_begin_1 : decode cX3_begin 1 = .ok (.iload_n 1, 1) := by decide +kernel
theorem dX3_begin_2 : decode cX3_begin 2 = .ok (.putfield 9, 3) := by decide +kernel
theorem dX3_begin_5 : decode cX3_begin 5 = .ok (.aload_n 0, 1) := by decide +kernel
theorem dX3_begin_6 : decode cX3_begin 6 = .ok (.iload_n 2, 1) := by decide +kernel
theorem dX3_begin_7 : decode cX3_begin 7 = .ok (.putfield 15, 3) := by decide +kernel
theorem dX3_begin_10 : decode cX3_begin 10 = .ok (.aload_n 0, 1) := by decide +kernel
theorem dX3_begin_11 : decode cX3_begin 11 = .ok (.iconst 0, 1) := by decide +kernel
theorem dX3_begin_12 : decode cX3_begin 12 = .ok (.putfield 18, 3) := by decide +kernel
theorem dX3_begin_15 : decode cX3_begin 15 = .ok (.aload_n 0, 1) := by decide +kernel
theorem dX3_begin_16 : decode cX3_begin 16 = .ok (.iconst 0, 1) := by decide +kernel
theorem dX3_begin_17 : decode cX3_begin 17 = .ok (.putfield 21, 3) := by decide +kernel
theorem dX3_begin_20 : decode cX3_begin 20 = .ok (.aload_n 0, 1) := by decide +kernel
theorem dX3_begin_21 : decode cX3_begin 21 = .ok (.iconst 0, 1) := by decide +kernel
theorem dX3_begin_22 : decode cX3_begin 22 = .ok (.putfield 24, 3) := by decide +kernel
theorem dX3_begin_25 : decode cX3_begin 25 = .ok (.return_, 1) := by decide +kernel
theorem dX3_copyFrom_0 : decode cX3_copyFrom 0 = .ok (.aload_n 0, 1) := by decide +kernel
theorem dX3_copyFrom_1 : decode cX3_copyFrom 1 = .ok (.aload_n 1, 1) := by decide +kernel
theorem dX3_copyFrom_2 : decode cX3_copyFrom 2 = .ok (.getfield 9, 3) := by decide +kernel
theorem dX3_copyFrom_5 : decode cX3_copyFrom 5 = .ok (.putfield 9, 3) := by decide +kernel
theorem dX3_copyFrom_8 : decode cX3_copyFrom 8 = .ok (.aload_n 0, 1) := by decide +kernel
theorem dX3_copyFrom_9 : decode cX3_copyFrom 9 = .ok (.aload_n 1, 1) := by decide +kernel
theorem dX3_copyFrom_10 : decode cX3_copyFrom 10 = .ok (.getfield 15, 3) := by decide +kernel
theorem dX3_copyFrom_13 : decode cX3_copyFrom 13 = .ok (.putfield 15, 3) := by decide +kernel
theorem dX3_copyFrom_16 : decode cX3_copyFrom 16 = .ok (.aload_n 0, 1) := by decide +kernel
theorem dX3_copyFrom_17 : decode cX3_copyFrom 17 = .ok (.aload_n 1, 1) := by decide +kernel
theorem dX3_copyFrom_18 : decode cX3_copyFrom 18 = .ok (.getfield 18, 3) := by decide +kernel
theorem dX3_copyFrom_21 : decode cX3_copyFrom 21 = .ok (.putfield 18, 3) := by decide +kernel
theorem dX3_copyFrom_24 : decode cX3_copyFrom 24 = .ok (.aload_n 0, 1) := by decide +kernel
theorem dX3_copyFrom_25 : decode cX3_copyFrom 25 = .ok (.aload_n 1, 1) := by decide +kernel
theorem dX3_copyFrom_26 : decode cX3_copyFrom 26 = .ok (.getfield 21, 3) := by decide +kernel
theorem dX3_copyFrom_29 : decode cX3_copyFrom 29 = .ok (.putfield 21, 3) := by decide +kernel
theorem dX3_copyFrom_32 : decode cX3_copyFrom 32 = .ok (.aload_n 0, 1) := by decide +kernel
theorem dX3_copyFrom_33 : decode cX3_copyFrom 33 = .ok (.aload_n 1, 1) := by decide +kernel
theorem dX3_copyFrom_34 : decode cX3_copyFrom 34 = .ok (.getfield 24, 3) := by decide +kernel
theorem dX3_copyFrom_37 : decode cX3_copyFrom 37 = .ok (.putfield 24, 3) := by decide +kernel
theorem dX3_copyFrom_40 : decode cX3_copyFrom 40 = .ok (.return_, 1) := by decide +kernel
theorem dX3_left_0 : decode cX3_left 0 = .ok (.aload_n 0, 1) := by decide +kernel
theorem dX3_left_1 : decode cX3_left 1 = .ok (.getfield 15, 3) := by decide +kernel
theorem dX3_left_4 : decode cX3_left 4 = .ok (.aload_n 0, 1) := by decide +kernel
theorem dX3_left_5 : decode cX3_left 5 = .ok (.getfield 18, 3) := by decide +kernel
theorem dX3_left_8 : decode cX3_left 8 = .ok (.isub, 1) := by decide +kernel
theorem dX3_left_9 : decode cX3_left 9 = .ok (.ireturn, 1) := by decide +kernel
theorem dX3_noteInspection_0 : decode cX3_noteInspection 0 = .ok (.aload_n 0, 1) := by decide +kernel
theorem dX3_noteInspection_1 : decode cX3_noteInspection 1 = .ok (.dup, 1) := by decide +kernel
theorem dX3_noteInspection_2 : decode cX3_noteInspection 2 = .ok (.getfield 18, 3) := by decide +kernel
theorem dX3_noteInspection_5 : decode cX3_noteInspection 5 = .ok (.iconst 1, 1) := by decide +kernel
theorem dX3_noteInspection_6 : decode cX3_noteInspection 6 = .ok (.iadd, 1) := by decide +kernel
theorem dX3_noteInspection_7 : decode cX3_noteInspection 7 = .ok (.putfield 18, 3) := by decide +kernel
theorem dX3_noteInspection_10 : decode cX3_noteInspection 10 = .ok (.aload_n 0, 1) := by decide +kernel
theorem dX3_noteInspection_11 : decode cX3_noteInspection 11 = .ok (.dup, 1) := by decide +kernel
theorem dX3_noteInspection_12 : decode cX3_noteInspection 12 = .ok (.getfield 21, 3) := by decide +kernel
theorem dX3_noteInspection_15 : decode cX3_noteInspection 15 = .ok (.iconst 1, 1) := by decide +kernel
theorem dX3_noteInspection_16 : decode cX3_noteInspection 16 = .ok (.iadd, 1) := by decide +kernel
theorem dX3_noteInspection_17 : decode cX3_noteInspection 17 = .ok (.putfield 21, 3) := by decide +kernel
theorem dX3_noteInspection_20 : decode cX3_noteInspection 20 = .ok (.iload_n 1, 1) := by decide +kernel
theorem dX3_noteInspection_21 : decode cX3_noteInspection 21 = .ok (.ifCond .eq 13, 3) := by decide +kernel
theorem dX3_noteInspection_24 : decode cX3_noteInspection 24 = .ok (.aload_n 0, 1) := by decide +kernel
theorem dX3_noteInspection_25 : decode cX3_noteInspection 25 = .ok (.dup, 1) := by decide +kernel
theorem dX3_noteInspection_26 : decode cX3_noteInspection 26 = .ok (.getfield 24, 3) := by decide +kernel
theorem dX3_noteInspection_29 : decode cX3_noteInspection 29 = .ok (.iconst 1, 1) := by decide +kernel
theorem dX3_noteInspection_30 : decode cX3_noteInspection 30 = .ok (.iadd, 1) := by decide +kernel
theorem dX3_noteInspection_31 : decode cX3_noteInspection 31 = .ok (.putfield 24, 3) := by decide +kernel
theorem dX3_noteInspection_34 : decode cX3_noteInspection 34 = .ok (.return_, 1) := by decide +kernel
theorem dX3_beginWeek_0 : decode cX3_beginWeek 0 = .ok (.aload_n 0, 1) := by decide +kernel
theorem dX3_beginWeek_1 : decode cX3_beginWeek 1 = .ok (.iconst 0, 1) := by decide +kernel
theorem dX3_beginWeek_2 : decode cX3_beginWeek 2 = .ok (.putfield 18, 3) := by decide +kernel
theorem dX3_beginWeek_5 : decode cX3_beginWeek 5 = .ok (.return_, 1) := by decide +kernel
theorem dX3_fact_0 : decode cX3_fact 0 = .ok (.iload_n 1, 1) := by decide +kernel
theorem dX3_fact_1 : decode cX3_fact 1 = .ok (.tableswitch 60 0 4 #[35, 40, 45, 50, 55], 35) := by decide +kernel
theorem dX3_fact_36 : decode cX3_fact 36 = .ok (.aload_n 0, 1) := by decide +kernel
theorem dX3_fact_37 : decode cX3_fact 37 = .ok (.getfield 9, 3) := by decide +kernel
theorem dX3_fact_40 : decode cX3_fact 40 = .ok (.ireturn, 1) := by decide +kernel
theorem dX3_fact_41 : decode cX3_fact 41 = .ok (.aload_n 0, 1) := by decide +kernel
theorem dX3_fact_42 : decode cX3_fact 42 = .ok (.getfield 15, 3) := by decide +kernel
theorem dX3_fact_45 : decode cX3_fact 45 = .ok (.ireturn, 1) := by decide +kernel
theorem dX3_fact_46 : decode cX3_fact 46 = .ok (.aload_n 0, 1) := by decide +kernel
theorem dX3_fact_47 : decode cX3_fact 47 = .ok (.invokevirtual 27, 3) := by decide +kernel
theorem dX3_fact_50 : decode cX3_fact 50 = .ok (.ireturn, 1) := by decide +kernel
theorem dX3_fact_51 : decode cX3_fact 51 = .ok (.aload_n 0, 1) := by decide +kernel
theorem dX3_fact_52 : decode cX3_fact 52 = .ok (.getfield 21, 3) := by decide +kernel
theorem dX3_fact_55 : decode cX3_fact 55 = .ok (.ireturn, 1) := by decide +kernel
theorem dX3_fact_56 : decode cX3_fact 56 = .ok (.aload_n 0, 1) := by decide +kernel
theorem dX3_fact_57 : decode cX3_fact 57 = .ok (.getfield 24, 3) := by decide +kernel
theorem dX3_fact_60 : decode cX3_fact 60 = .ok (.ireturn, 1) := by decide +kernel
theorem dX3_fact_61 : decode cX3_fact 61 = .ok (.ldc 31, 2) := by decide +kernel
theorem dX3_fact_63 : decode cX3_fact 63 = .ok (.ireturn, 1) := by decide +kernel
theorem dX4_init_0 : decode cX4_init 0 = .ok (.aload_n 0, 1) := by decide +kernel
theorem dX4_init_1 : decode cX4_init 1 = .ok (.invokespecial 3, 3) := by decide +kernel
theorem dX4_init_4 : decode cX4_init 4 = .ok (.aload_n 0, 1) := by decide +kernel
theorem dX4_init_5 : decode cX4_init 5 = .ok (.bipush 60, 2) := by decide +kernel
theorem dX4_init_7 : decode cX4_init 7 = .ok (.newarray .char, 2) := by decide +kernel
theorem dX4_init_9 : decode cX4_init 9 = .ok (.putfield 9, 3) := by decide +kernel
theorem dX4_init_12 : decode cX4_init 12 = .ok (.return_, 1) := by decide +kernel
theorem dX4_length_0 : decode cX4_length 0 = .ok (.aload_n 0, 1) := by decide +kernel
theorem dX4_length_1 : decode cX4_length 1 = .ok (.getfield 15, 3) := by decide +kernel
theorem dX4_length_4 : decode cX4_length 4 = .ok (.ireturn, 1) := by decide +kernel
theorem dX4_append_0 : decode cX4_append 0 = .ok (.iload_n 1, 1) := by decide +kernel
theorem dX4_append_1 : decode cX4_append 1 = .ok (.bipush 32, 2) := by decide +kernel
theorem dX4_append_3 : decode cX4_append 3 = .ok (.if_icmp .lt 9, 3) := by decide +kernel
theorem dX4_append_6 : decode cX4_append 6 = .ok (.iload_n 1, 1) := by decide +kernel
theorem dX4_append_7 : decode cX4_append 7 = .ok (.bipush 126, 2) := by decide +kernel
theorem dX4_append_9 : decode cX4_append 9 = .ok (.if_icmp .le 6, 3) := by decide +kernel
theorem dX4_append_12 : decode cX4_append 12 = .ok (.ldc 19, 2) := by decide +kernel
theorem dX4_append_14 : decode cX4_append 14 = .ok (.ireturn, 1) := by decide +kernel
theorem dX4_append_15 : decode cX4_append 15 = .ok (.aload_n 0, 1) := by decide +kernel
theorem dX4_append_16 : decode cX4_append 16 = .ok (.getfield 15, 3) := by decide +kernel
theorem dX4_append_19 : decode cX4_append 19 = .ok (.ifCond .lt 15, 3) := by decide +kernel
theorem dX4_append_22 : decode cX4_append 22 = .ok (.aload_n 0, 1) := by decide +kernel
theorem dX4_append_23 : decode cX4_append 23 = .ok (.getfield 15, 3) := by decide +kernel
theorem dX4_append_26 : decode cX4_append 26 = .ok (.aload_n 0, 1) := by decide +kernel
theorem dX4_append_27 : decode cX4_append 27 = .ok (.getfield 9, 3) := by decide +kernel
theorem dX4_append_30 : decode cX4_append 30 = .ok (.arraylength, 1) := by decide +kernel
theorem dX4_append_31 : decode cX4_append 31 = .ok (.if_icmp .lt 6, 3) := by decide +kernel
theorem dX4_append_34 : decode cX4_append 34 = .ok (.ldc 20, 2) := by decide +kernel
theorem dX4_append_36 : decode cX4_append 36 = .ok (.ireturn, 1) := by decide +kernel
theorem dX4_append_37 : decode cX4_append 37 = .ok (.aload_n 0, 1) := by decide +kernel
theorem dX4_append_38 : decode cX4_append 38 = .ok (.getfield 9, 3) := by decide +kernel
theorem dX4_append_41 : decode cX4_append 41 = .ok (.aload_n 0, 1) := by decide +kernel
theorem dX4_append_42 : decode cX4_append 42 = .ok (.getfield 15, 3) := by decide +kernel
theorem dX4_append_45 : decode cX4_append 45 = .ok (.iload_n 1, 1) := by decide +kernel
theorem dX4_append_46 : decode cX4_append 46 = .ok (.i2c, 1) := by decide +kernel
theorem dX4_append_47 : decode cX4_append 47 = .ok (.castore, 1) := by decide +kernel
theorem dX4_append_48 : decode cX4_append 48 = .ok (.aload_n 0, 1) := by decide +kernel
theorem dX4_append_49 : decode cX4_append 49 = .ok (.dup, 1) := by decide +kernel
theorem dX4_append_50 : decode cX4_append 50 = .ok (.getfield 15, 3) := by decide +kernel
theorem dX4_append_53 : decode cX4_append 53 = .ok (.iconst 1, 1) := by decide +kernel
theorem dX4_append_54 : decode cX4_append 54 = .ok (.iadd, 1) := by decide +kernel
theorem dX4_append_55 : decode cX4_append 55 = .ok (.putfield 15, 3) := by decide +kernel
theorem dX4_append_58 : decode cX4_append 58 = .ok (.aload_n 0, 1) := by decide +kernel
theorem dX4_append_59 : decode cX4_append 59 = .ok (.getfield 15, 3) := by decide +kernel
theorem dX4_append_62 : decode cX4_append 62 = .ok (.ireturn, 1) := by decide +kernel
theorem dX4_empty_0 : decode cX4_empty 0 = .ok (.aload_n 0, 1) := by decide +kernel
theorem dX4_empty_1 : decode cX4_empty 1 = .ok (.getfield 15, 3) := by decide +kernel
theorem dX4_empty_4 : decode cX4_empty 4 = .ok (.istore_n 1, 1) := by decide +kernel
theorem dX4_empty_5 : decode cX4_empty 5 = .ok (.aload_n 0, 1) := by decide +kernel
theorem dX4_empty_6 : decode cX4_empty 6 = .ok (.iconst 0, 1) := by decide +kernel
theorem dX4_empty_7 : decode cX4_empty 7 = .ok (.putfield 15, 3) := by decide +kernel
theorem dX4_empty_10 : decode cX4_empty 10 = .ok (.iload_n 1, 1) := by decide +kernel
theorem dX4_empty_11 : decode cX4_empty 11 = .ok (.ireturn, 1) := by decide +kernel
theorem dX4_goToStart_0 : decode cX4_goToStart 0 = .ok (.aload_n 0, 1) := by decide +kernel
theorem dX4_goToStart_1 : decode cX4_goToStart 1 = .ok (.iconst 0, 1) := by decide +kernel
theorem dX4_goToStart_2 : decode cX4_goToStart 2 = .ok (.putfield 21, 3) := by decide +kernel
theorem dX4_goToStart_5 : decode cX4_goToStart 5 = .ok (.return_, 1) := by decide +kernel
theorem dX4_hasMore_0 : decode cX4_hasMore 0 = .ok (.aload_n 0, 1) := by decide +kernel
theorem dX4_hasMore_1 : decode cX4_hasMore 1 = .ok (.getfield 21, 3) := by decide +kernel
theorem dX4_hasMore_4 : decode cX4_hasMore 4 = .ok (.aload_n 0, 1) := by decide +kernel
theorem dX4_hasMore_5 : decode cX4_hasMore 5 = .ok (.getfield 15, 3) := by decide +kernel
theorem dX4_hasMore_8 : decode cX4_hasMore 8 = .ok (.if_icmp .ge 7, 3) := by decide +kernel
theorem dX4_hasMore_11 : decode cX4_hasMore 11 = .ok (.iconst 1, 1) := by decide +kernel
theorem dX4_hasMore_12 : decode cX4_hasMore 12 = .ok (.goto 4, 3) := by decide +kernel
theorem dX4_hasMore_15 : decode cX4_hasMore 15 = .ok (.iconst 0, 1) := by decide +kernel
theorem dX4_hasMore_16 : decode cX4_hasMore 16 = .ok (.ireturn, 1) := by decide +kernel
theorem dX4_brokeOffAt_0 : decode cX4_brokeOffAt 0 = .ok (.aload_n 0, 1) := by decide +kernel
theorem dX4_brokeOffAt_1 : decode cX4_brokeOffAt 1 = .ok (.getfield 21, 3) := by decide +kernel
theorem dX4_brokeOffAt_4 : decode cX4_brokeOffAt 4 = .ok (.aload_n 0, 1) := by decide +kernel
theorem dX4_brokeOffAt_5 : decode cX4_brokeOffAt 5 = .ok (.getfield 24, 3) := by decide +kernel
theorem dX4_brokeOffAt_8 : decode cX4_brokeOffAt 8 = .ok (.isub, 1) := by decide +kernel
theorem dX4_brokeOffAt_9 : decode cX4_brokeOffAt 9 = .ok (.ireturn, 1) := by decide +kernel
theorem dX4_readOrder_0 : decode cX4_readOrder 0 = .ok (.aload_n 0, 1) := by decide +kernel
theorem dX4_readOrder_1 : decode cX4_readOrder 1 = .ok (.aload_n 0, 1) := by decide +kernel
theorem dX4_readOrder_2 : decode cX4_readOrder 2 = .ok (.getfield 21, 3) := by decide +kernel
theorem dX4_readOrder_5 : decode cX4_readOrder 5 = .ok (.putfield 24, 3) := by decide +kernel
theorem dX4_readOrder_8 : decode cX4_readOrder 8 = .ok (.aload_n 0, 1) := by decide +kernel
theorem dX4_readOrder_9 : decode cX4_readOrder 9 = .ok (.invokevirtual 27, 3) := by decide +kernel
theorem dX4_readOrder_12 : decode cX4_readOrder 12 = .ok (.ifCond .ne 5, 3) := by decide +kernel
theorem dX4_readOrder_15 : decode cX4_readOrder 15 = .ok (.iconst 0, 1) := by decide +kernel
theorem dX4_readOrder_16 : decode cX4_readOrder 16 = .ok (.ireturn, 1) := by decide +kernel
theorem dX4_readOrder_17 : decode cX4_readOrder 17 = .ok (.aload_n 0, 1) := by decide +kernel
theorem dX4_readOrder_18 : decode cX4_readOrder 18 = .ok (.aload_n 0, 1) := by decide +kernel
theorem dX4_readOrder_19 : decode cX4_readOrder 19 = .ok (.invokevirtual 31, 3) := by decide +kernel
theorem dX4_readOrder_22 : decode cX4_readOrder 22 = .ok (.putfield 35, 3) := by decide +kernel
theorem dX4_readOrder_25 : decode cX4_readOrder 25 = .ok (.aload_n 0, 1) := by decide +kernel
theorem dX4_readOrder_26 : decode cX4_readOrder 26 = .ok (.getfield 35, 3) := by decide +kernel
theorem dX4_readOrder_29 : decode cX4_readOrder 29 = .ok (.iconst (-1), 1) := by decide +kernel
theorem dX4_readOrder_30 : decode cX4_readOrder 30 = .ok (.if_icmp .ne 5, 3) := by decide +kernel
theorem dX4_readOrder_33 : decode cX4_readOrder 33 = .ok (.iconst 0, 1) := by decide +kernel
theorem dX4_readOrder_34 : decode cX4_readOrder 34 = .ok (.ireturn, 1) := by decide +kernel
theorem dX4_readOrder_35 : decode cX4_readOrder 35 = .ok (.aload_n 0, 1) := by decide +kernel
theorem dX4_readOrder_36 : decode cX4_readOrder 36 = .ok (.iconst 0, 1) := by decide +kernel
theorem dX4_readOrder_37 : decode cX4_readOrder 37 = .ok (.putfield 38, 3) := by decide +kernel
theorem dX4_readOrder_40 : decode cX4_readOrder 40 = .ok (.aload_n 0, 1) := by decide +kernel
theorem dX4_readOrder_41 : decode cX4_readOrder 41 = .ok (.getfield 41, 3) := by decide +kernel
theorem dX4_readOrder_44 : decode cX4_readOrder 44 = .ok (.bipush 105, 2) := by decide +kernel
theorem dX4_readOrder_46 : decode cX4_readOrder 46 = .ok (.if_icmp .ne 32, 3) := by decide +kernel
theorem dX4_readOrder_49 : decode cX4_readOrder 49 = .ok (.aload_n 0, 1) := by decide +kernel
theorem dX4_readOrder_50 : decode cX4_readOrder 50 = .ok (.bipush 44, 2) := by decide +kernel
theorem dX4_readOrder_52 : decode cX4_readOrder 52 = .ok (.invokevirtual 45, 3) := by decide +kernel
theorem dX4_readOrder_55 : decode cX4_readOrder 55 = .ok (.ifCond .ne 5, 3) := by decide +kernel
theorem dX4_readOrder_58 : decode cX4_readOrder 58 = .ok (.iconst 0, 1) := by decide +kernel
theorem dX4_readOrder_59 : decode cX4_readOrder 59 = .ok (.ireturn, 1) := by decide +kernel
theorem dX4_readOrder_60 : decode cX4_readOrder 60 = .ok (.aload_n 0, 1) := by decide +kernel
theorem dX4_readOrder_61 : decode cX4_readOrder 61 = .ok (.aload_n 0, 1) := by decide +kernel
theorem dX4_readOrder_62 : decode cX4_readOrder 62 = .ok (.invokevirtual 31, 3) := by decide +kernel
theorem dX4_readOrder_65 : decode cX4_readOrder 65 = .ok (.putfield 38, 3) := by decide +kernel
theorem dX4_readOrder_68 : decode cX4_readOrder 68 = .ok (.aload_n 0, 1) := by decide +kernel
theorem dX4_readOrder_69 : decode cX4_readOrder 69 = .ok (.getfield 38, 3) := by decide +kernel
theorem dX4_readOrder_72 : decode cX4_readOrder 72 = .ok (.iconst (-1), 1) := by decide +kernel
theorem dX4_readOrder_73 : decode cX4_readOrder 73 = .ok (.if_icmp .ne 5, 3) := by decide +kernel
theorem dX4_readOrder_76 : decode cX4_readOrder 76 = .ok (.iconst 0, 1) := by decide +kernel
theorem dX4_readOrder_77 : decode cX4_readOrder 77 = .ok (.ireturn, 1) := by decide +kernel
theorem dX4_readOrder_78 : decode cX4_readOrder 78 = .ok (.aload_n 0, 1) := by decide +kernel
theorem dX4_readOrder_79 : decode cX4_readOrder 79 = .ok (.bipush 59, 2) := by decide +kernel
theorem dX4_readOrder_81 : decode cX4_readOrder 81 = .ok (.invokevirtual 45, 3) := by decide +kernel
theorem dX4_readOrder_84 : decode cX4_readOrder 84 = .ok (.ireturn, 1) := by decide +kernel
theorem dX4_signHere_0 : decode cX4_signHere 0 = .ok (.aload_n 0, 1) := by decide +kernel
theorem dX4_signHere_1 : decode cX4_signHere 1 = .ok (.getfield 21, 3) := by decide +kernel
theorem dX4_signHere_4 : decode cX4_signHere 4 = .ok (.ifCond .lt 30, 3) := by decide +kernel
theorem dX4_signHere_7 : decode cX4_signHere 7 = .ok (.aload_n 0, 1) := by decide +kernel
theorem dX4_signHere_8 : decode cX4_signHere 8 = .ok (.getfield 21, 3) := by decide +kernel
theorem dX4_signHere_11 : decode cX4_signHere 11 = .ok (.aload_n 0, 1) := by decide +kernel
theorem dX4_signHere_12 : decode cX4_signHere 12 = .ok (.getfield 15, 3) := by decide +kernel
theorem dX4_signHere_15 : decode cX4_signHere 15 = .ok (.if_icmp .ge 19, 3) := by decide +kernel
theorem dX4_signHere_18 : decode cX4_signHere 18 = .ok (.aload_n 0, 1) := by decide +kernel
theorem dX4_signHere_19 : decode cX4_signHere 19 = .ok (.getfield 21, 3) := by decide +kernel
theorem dX4_signHere_22 : decode cX4_signHere 22 = .ok (.aload_n 0, 1) := by decide +kernel
theorem dX4_signHere_23 : decode cX4_signHere 23 = .ok (.getfield 9, 3) := by decide +kernel
theorem dX4_signHere_26 : decode cX4_signHere 26 = .ok (.arraylength, 1) := by decide +kernel
theorem dX4_signHere_27 : decode cX4_signHere 27 = .ok (.if_icmp .ge 7, 3) := by decide +kernel
theorem dX4_signHere_30 : decode cX4_signHere 30 = .ok (.iconst 1, 1) := by decide +kernel
theorem dX4_signHere_31 : decode cX4_signHere 31 = .ok (.goto 4, 3) := by decide +kernel
theorem dX4_signHere_34 : decode cX4_signHere 34 = .ok (.iconst 0, 1) := by decide +kernel
theorem dX4_signHere_35 : decode cX4_signHere 35 = .ok (.istore_n 1, 1) := by decide +kernel
theorem dX4_signHere_36 : decode cX4_signHere 36 = .ok (.iload_n 1, 1) := by decide +kernel
theorem dX4_signHere_37 : decode cX4_signHere 37 = .ok (.ifCond .eq 15, 3) := by decide +kernel
theorem dX4_signHere_40 : decode cX4_signHere 40 = .ok (.aload_n 0, 1) := by decide +kernel
theorem dX4_signHere_41 : decode cX4_signHere 41 = .ok (.getfield 9, 3) := by decide +kernel
theorem dX4_signHere_44 : decode cX4_signHere 44 = .ok (.aload_n 0, 1) := by decide +kernel
theorem dX4_signHere_45 : decode cX4_signHere 45 = .ok (.getfield 21, 3) := by decide +kernel
theorem dX4_signHere_48 : decode cX4_signHere 48 = .ok (.caload, 1) := by decide +kernel
theorem dX4_signHere_49 : decode cX4_signHere 49 = .ok (.goto 4, 3) := by decide +kernel
theorem dX4_signHere_52 : decode cX4_signHere 52 = .ok (.iconst (-1), 1) := by decide +kernel
theorem dX4_signHere_53 : decode cX4_signHere 53 = .ok (.ireturn, 1) := by decide +kernel
theorem dX4_readKind_0 : decode cX4_readKind 0 = .ok (.aload_n 0, 1) := by decide +kernel
theorem dX4_readKind_1 : decode cX4_readKind 1 = .ok (.invokevirtual 49, 3) := by decide +kernel
theorem dX4_readKind_4 : decode cX4_readKind 4 = .ok (.istore_n 1, 1) := by decide +kernel
theorem dX4_readKind_5 : decode cX4_readKind 5 = .ok (.iload_n 1, 1) := by decide +kernel
theorem dX4_readKind_6 : decode cX4_readKind 6 = .ok (.lookupswitch 76 #[(98, 58), (102, 58), (105, 58), (111, 58), (114, 58), (119, 58)], 58) := by decide +kernel
theorem dX4_readKind_64 : decode cX4_readKind 64 = .ok (.aload_n 0, 1) := by decide +kernel
theorem dX4_readKind_65 : decode cX4_readKind 65 = .ok (.iload_n 1, 1) := by decide +kernel
theorem dX4_readKind_66 : decode cX4_readKind 66 = .ok (.i2c, 1) := by decide +kernel
theorem dX4_readKind_67 : decode cX4_readKind 67 = .ok (.putfield 41, 3) := by decide +kernel
theorem dX4_readKind_70 : decode cX4_readKind 70 = .ok (.aload_n 0, 1) := by decide +kernel
theorem dX4_readKind_71 : decode cX4_readKind 71 = .ok (.dup, 1) := by decide +kernel
theorem dX4_readKind_72 : decode cX4_readKind 72 = .ok (.getfield 21, 3) := by decide +kernel
theorem dX4_readKind_75 : decode cX4_readKind 75 = .ok (.iconst 1, 1) := by decide +kernel
theorem dX4_readKind_76 : decode cX4_readKind 76 = .ok (.iadd, 1) := by decide +kernel
theorem dX4_readKind_77 : decode cX4_readKind 77 = .ok (.putfield 21, 3) := by decide +kernel
theorem dX4_readKind_80 : decode cX4_readKind 80 = .ok (.iconst 1, 1) := by decide +kernel
theorem dX4_readKind_81 : decode cX4_readKind 81 = .ok (.ireturn, 1) := by decide +kernel
theorem dX4_readKind_82 : decode cX4_readKind 82 = .ok (.iconst 0, 1) := by decide +kernel
theorem dX4_readKind_83 : decode cX4_readKind 83 = .ok (.ireturn, 1) := by decide +kernel
theorem dX4_readSign_0 : decode cX4_readSign 0 = .ok (.aload_n 0, 1) := by decide +kernel
theorem dX4_readSign_1 : decode cX4_readSign 1 = .ok (.invokevirtual 49, 3) := by decide +kernel
theorem dX4_readSign_4 : decode cX4_readSign 4 = .ok (.iload_n 1, 1) := by decide +kernel
theorem dX4_readSign_5 : decode cX4_readSign 5 = .ok (.if_icmp .eq 5, 3) := by decide +kernel
theorem dX4_readSign_8 : decode cX4_readSign 8 = .ok (.iconst 0, 1) := by decide +kernel
theorem dX4_readSign_9 : decode cX4_readSign 9 = .ok (.ireturn, 1) := by decide +kernel
theorem dX4_readSign_10 : decode cX4_readSign 10 = .ok (.aload_n 0, 1) := by decide +kernel
theorem dX4_readSign_11 : decode cX4_readSign 11 = .ok (.dup, 1) := by decide +kernel
theorem dX4_readSign_12 : decode cX4_readSign 12 = .ok (.getfield 21, 3) := by decide +kernel
theorem dX4_readSign_15 : decode cX4_readSign 15 = .ok (.iconst 1, 1) := by decide +kernel
theorem dX4_readSign_16 : decode cX4_readSign 16 = .ok (.iadd, 1) := by decide +kernel
theorem dX4_readSign_17 : decode cX4_readSign 17 = .ok (.putfield 21, 3) := by decide +kernel
theorem dX4_readSign_20 : decode cX4_readSign 20 = .ok (.iconst 1, 1) := by decide +kernel
theorem dX4_readSign_21 : decode cX4_readSign 21 = .ok (.ireturn, 1) := by decide +kernel
theorem dX4_readNumber_0 : decode cX4_readNumber 0 = .ok (.aload_n 0, 1) := by decide +kernel
theorem dX4_readNumber_1 : decode cX4_readNumber 1 = .ok (.invokevirtual 52, 3) := by decide +kernel
theorem dX4_readNumber_4 : decode cX4_readNumber 4 = .ok (.istore_n 1, 1) := by decide +kernel
theorem dX4_readNumber_5 : decode cX4_readNumber 5 = .ok (.iload_n 1, 1) := by decide +kernel
theorem dX4_readNumber_6 : decode cX4_readNumber 6 = .ok (.iconst (-1), 1) := by decide +kernel
theorem dX4_readNumber_7 : decode cX4_readNumber 7 = .ok (.if_icmp .ne 5, 3) := by decide +kernel
theorem dX4_readNumber_10 : decode cX4_readNumber 10 = .ok (.iconst (-1), 1) := by decide +kernel
theorem dX4_readNumber_11 : decode cX4_readNumber 11 = .ok (.ireturn, 1) := by decide +kernel
theorem dX4_readNumber_12 : decode cX4_readNumber 12 = .ok (.aload_n 0, 1) := by decide +kernel
theorem dX4_readNumber_13 : decode cX4_readNumber 13 = .ok (.invokevirtual 52, 3) := by decide +kernel
theorem dX4_readNumber_16 : decode cX4_readNumber 16 = .ok (.istore_n 2, 1) := by decide +kernel
theorem dX4_readNumber_17 : decode cX4_readNumber 17 = .ok (.iload_n 2, 1) := by decide +kernel
theorem dX4_readNumber_18 : decode cX4_readNumber 18 = .ok (.iconst (-1), 1) := by decide +kernel
theorem dX4_readNumber_19 : decode cX4_readNumber 19 = .ok (.if_icmp .ne 7, 3) := by decide +kernel
theorem dX4_readNumber_22 : decode cX4_readNumber 22 = .ok (.iload_n 1, 1) := by decide +kernel
theorem dX4_readNumber_23 : decode cX4_readNumber 23 = .ok (.goto 9, 3) := by decide +kernel
theorem dX4_readNumber_26 : decode cX4_readNumber 26 = .ok (.iload_n 1, 1) := by decide +kernel
theorem dX4_readNumber_27 : decode cX4_readNumber 27 = .ok (.bipush 10, 2) := by decide +kernel
theorem dX4_readNumber_29 : decode cX4_readNumber 29 = .ok (.imul, 1) := by decide +kernel
theorem dX4_readNumber_30 : decode cX4_readNumber 30 = .ok (.iload_n 2, 1) := by decide +kernel
theorem dX4_readNumber_31 : decode cX4_readNumber 31 = .ok (.iadd, 1) := by decide +kernel
theorem dX4_readNumber_32 : decode cX4_readNumber 32 = .ok (.ireturn, 1) := by decide +kernel
theorem dX4_readDigit_0 : decode cX4_readDigit 0 = .ok (.aload_n 0, 1) := by decide +kernel
theorem dX4_readDigit_1 : decode cX4_readDigit 1 = .ok (.invokevirtual 49, 3) := by decide +kernel
theorem dX4_readDigit_4 : decode cX4_readDigit 4 = .ok (.istore_n 1, 1) := by decide +kernel
theorem dX4_readDigit_5 : decode cX4_readDigit 5 = .ok (.iload_n 1, 1) := by decide +kernel
theorem dX4_readDigit_6 : decode cX4_readDigit 6 = .ok (.bipush 48, 2) := by decide +kernel
theorem dX4_readDigit_8 : decode cX4_readDigit 8 = .ok (.if_icmp .lt 9, 3) := by decide +kernel
theorem dX4_readDigit_11 : decode cX4_readDigit 11 = .ok (.iload_n 1, 1) := by decide +kernel
theorem dX4_readDigit_12 : decode cX4_readDigit 12 = .ok (.bipush 57, 2) := by decide +kernel
theorem dX4_readDigit_14 : decode cX4_readDigit 14 = .ok (.if_icmp .le 5, 3) := by decide +kernel
theorem dX4_readDigit_17 : decode cX4_readDigit 17 = .ok (.iconst (-1), 1) := by decide +kernel
theorem dX4_readDigit_18 : decode cX4_readDigit 18 = .ok (.ireturn, 1) := by decide +kernel
theorem dX4_readDigit_19 : decode cX4_readDigit 19 = .ok (.aload_n 0, 1) := by decide +kernel
theorem dX4_readDigit_20 : decode cX4_readDigit 20 = .ok (.dup, 1) := by decide +kernel
theorem dX4_readDigit_21 : decode cX4_readDigit 21 = .ok (.getfield 21, 3) := by decide +kernel
theorem dX4_readDigit_24 : decode cX4_readDigit 24 = .ok (.iconst 1, 1) := by decide +kernel
theorem dX4_readDigit_25 : decode cX4_readDigit 25 = .ok (.iadd, 1) := by decide +kernel
theorem dX4_readDigit_26 : decode cX4_readDigit 26 = .ok (.putfield 21, 3) := by decide +kernel
theorem dX4_readDigit_29 : decode cX4_readDigit 29 = .ok (.iload_n 1, 1) := by decide +kernel
theorem dX4_readDigit_30 : decode cX4_readDigit 30 = .ok (.bipush 48, 2) := by decide +kernel
theorem dX4_readDigit_32 : decode cX4_readDigit 32 = .ok (.isub, 1) := by decide +kernel
theorem dX4_readDigit_33 : decode cX4_readDigit 33 = .ok (.ireturn, 1) := by decide +kernel
theorem dX5_init_0 : decode cX5_init 0 = .ok (.aload_n 0, 1) := by decide +kernel
theorem dX5_init_1 : decode cX5_init 1 = .ok (.invokespecial 3, 3) := by decide +kernel
theorem dX5_init_4 : decode cX5_init 4 = .ok (.return_, 1) := by decide +kernel
theorem dX5_run_0 : decode cX5_run 0 = .ok (.aload_n 0, 1) := by decide +kernel
theorem dX5_run_1 : decode cX5_run 1 = .ok (.iconst 0, 1) := by decide +kernel
theorem dX5_run_2 : decode cX5_run 2 = .ok (.putfield 9, 3) := by decide +kernel
theorem dX5_run_5 : decode cX5_run 5 = .ok (.aload_n 0, 1) := by decide +kernel
theorem dX5_run_6 : decode cX5_run 6 = .ok (.iconst 0, 1) := by decide +kernel
theorem dX5_run_7 : decode cX5_run 7 = .ok (.putfield 15, 3) := by decide +kernel
theorem dX5_run_10 : decode cX5_run 10 = .ok (.aload_n 1, 1) := by decide +kernel
theorem dX5_run_11 : decode cX5_run 11 = .ok (.invokevirtual 18, 3) := by decide +kernel
theorem dX5_run_14 : decode cX5_run 14 = .ok (.iconst 0, 1) := by decide +kernel
theorem dX5_run_15 : decode cX5_run 15 = .ok (.istore_n 3, 1) := by decide +kernel
theorem dX5_run_16 : decode cX5_run 16 = .ok (.iload_n 3, 1) := by decide +kernel
theorem dX5_run_17 : decode cX5_run 17 = .ok (.bipush 60, 2) := by decide +kernel
theorem dX5_run_19 : decode cX5_run 19 = .ok (.if_icmp .ge 70, 3) := by decide +kernel
theorem dX5_run_22 : decode cX5_run 22 = .ok (.aload_n 0, 1) := by decide +kernel
theorem dX5_run_23 : decode cX5_run 23 = .ok (.getfield 15, 3) := by decide +kernel
theorem dX5_run_26 : decode cX5_run 26 = .ok (.ifCond .ne 63, 3) := by decide +kernel
theorem dX5_run_29 : decode cX5_run 29 = .ok (.aload_n 1, 1) := by decide +kernel
theorem dX5_run_30 : decode cX5_run 30 = .ok (.invokevirtual 23, 3) := by decide +kernel
theorem dX5_run_33 : decode cX5_run 33 = .ok (.ifCond .eq 56, 3) := by decide +kernel
theorem dX5_run_36 : decode cX5_run 36 = .ok (.aload_n 1, 1) := by decide +kernel
theorem dX5_run_37 : decode cX5_run 37 = .ok (.invokevirtual 27, 3) := by decide +kernel
theorem dX5_run_40 : decode cX5_run 40 = .ok (.ifCond .eq 30, 3) := by decide +kernel
theorem dX5_run_43 : decode cX5_run 43 = .ok (.aload_n 0, 1) := by decide +kernel
theorem dX5_run_44 : decode cX5_run 44 = .ok (.aload_n 1, 1) := by decide +kernel
theorem dX5_run_45 : decode cX5_run 45 = .ok (.getfield 30, 3) := by decide +kernel
theorem dX5_run_48 : decode cX5_run 48 = .ok (.aload_n 2, 1) := by decide +kernel
theorem dX5_run_49 : decode cX5_run 49 = .ok (.aload_n 1, 1) := by decide +kernel
theorem dX5_run_50 : decode cX5_run 50 = .ok (.getfield 33, 3) := by decide +kernel
theorem dX5_run_53 : decode cX5_run 53 = .ok (.aload_n 1, 1) := by decide +kernel
theorem dX5_run_54 : decode cX5_run 54 = .ok (.getfield 37, 3) := by decide +kernel
theorem dX5_run_57 : decode cX5_run 57 = .ok (.aload_n 1, 1) := by decide +kernel
theorem dX5_run_58 : decode cX5_run 58 = .ok (.getfield 40, 3) := by decide +kernel
theorem dX5_run_61 : decode cX5_run 61 = .ok (.invokevirtual 43, 3) := by decide +kernel
theorem dX5_run_64 : decode cX5_run 64 = .ok (.invokevirtual 49, 3) := by decide +kernel
theorem dX5_run_67 : decode cX5_run 67 = .ok (.goto 16, 3) := by decide +kernel
theorem dX5_run_70 : decode cX5_run 70 = .ok (.aload_n 0, 1) := by decide +kernel
theorem dX5_run_71 : decode cX5_run 71 = .ok (.aload_n 1, 1) := by decide +kernel
theorem dX5_run_72 : decode cX5_run 72 = .ok (.getfield 30, 3) := by decide +kernel
theorem dX5_run_75 : decode cX5_run 75 = .ok (.iconst 1, 1) := by decide +kernel
theorem dX5_run_76 : decode cX5_run 76 = .ok (.aload_n 1, 1) := by decide +kernel
theorem dX5_run_77 : decode cX5_run 77 = .ok (.invokevirtual 53, 3) := by decide +kernel
theorem dX5_run_80 : decode cX5_run 80 = .ok (.invokevirtual 57, 3) := by decide +kernel
theorem dX5_run_83 : decode cX5_run 83 = .ok (.iinc 3 1, 3) := by decide +kernel
theorem dX5_run_86 : decode cX5_run 86 = .ok (.goto (-70), 3) := by decide +kernel
theorem dX5_run_89 : decode cX5_run 89 = .ok (.return_, 1) := by decide +kernel
theorem dX5_takeAnswer_0 : decode cX5_takeAnswer 0 = .ok (.iload_n 2, 1) := by decide +kernel
theorem dX5_takeAnswer_1 : decode cX5_takeAnswer 1 = .ok (.invokestatic 61, 3) := by decide +kernel
theorem dX5_takeAnswer_4 : decode cX5_takeAnswer 4 = .ok (.ifCond .eq 13, 3) := by decide +kernel
theorem dX5_takeAnswer_7 : decode cX5_takeAnswer 7 = .ok (.aload_n 0, 1) := by decide +kernel
theorem dX5_takeAnswer_8 : decode cX5_takeAnswer 8 = .ok (.iload_n 1, 1) := by decide +kernel
theorem dX5_takeAnswer_9 : decode cX5_takeAnswer 9 = .ok (.iconst 2, 1) := by decide +kernel
theorem dX5_takeAnswer_10 : decode cX5_takeAnswer 10 = .ok (.iload_n 2, 1) := by decide +kernel
theorem dX5_takeAnswer_11 : decode cX5_takeAnswer 11 = .ok (.invokevirtual 57, 3) := by decide +kernel
theorem dX5_takeAnswer_14 : decode cX5_takeAnswer 14 = .ok (.goto 13, 3) := by decide +kernel
theorem dX5_takeAnswer_17 : decode cX5_takeAnswer 17 = .ok (.aload_n 0, 1) := by decide +kernel
theorem dX5_takeAnswer_18 : decode cX5_takeAnswer 18 = .ok (.dup, 1) := by decide +kernel
theorem dX5_takeAnswer_19 : decode cX5_takeAnswer 19 = .ok (.getfield 9, 3) := by decide +kernel
theorem dX5_takeAnswer_22 : decode cX5_takeAnswer 22 = .ok (.iconst 1, 1) := by decide +kernel
theorem dX5_takeAnswer_23 : decode cX5_takeAnswer 23 = .ok (.iadd, 1) := by decide +kernel
theorem dX5_takeAnswer_24 : decode cX5_takeAnswer 24 = .ok (.putfield 9, 3) := by decide +kernel
theorem dX5_takeAnswer_27 : decode cX5_takeAnswer 27 = .ok (.return_, 1) := by decide +kernel
theorem dX5_stopAt_0 : decode cX5_stopAt 0 = .ok (.aload_n 0, 1) := by decide +kernel
theorem dX5_stopAt_1 : decode cX5_stopAt 1 = .ok (.iload_n 1, 1) := by decide +kernel
theorem dX5_stopAt_2 : decode cX5_stopAt 2 = .ok (.putfield 65, 3) := by decide +kernel
theorem dX5_stopAt_5 : decode cX5_stopAt 5 = .ok (.aload_n 0, 1) := by decide +kernel
theorem dX5_stopAt_6 : decode cX5_stopAt 6 = .ok (.iload_n 2, 1) := by decide +kernel
theorem dX5_stopAt_7 : decode cX5_stopAt 7 = .ok (.putfield 15, 3) := by decide +kernel
theorem dX5_stopAt_10 : decode cX5_stopAt 10 = .ok (.aload_n 0, 1) := by decide +kernel
theorem dX5_stopAt_11 : decode cX5_stopAt 11 = .ok (.iload_n 3, 1) := by decide +kernel
theorem dX5_stopAt_12 : decode cX5_stopAt 12 = .ok (.putfield 68, 3) := by decide +kernel
theorem dX5_stopAt_15 : decode cX5_stopAt 15 = .ok (.return_, 1) := by decide +kernel
theorem dX5_ordersDone_0 : decode cX5_ordersDone 0 = .ok (.aload_n 0, 1) := by decide +kernel
theorem dX5_ordersDone_1 : decode cX5_ordersDone 1 = .ok (.getfield 15, 3) := by decide +kernel
theorem dX5_ordersDone_4 : decode cX5_ordersDone 4 = .ok (.ifCond .ne 10, 3) := by decide +kernel
theorem dX5_ordersDone_7 : decode cX5_ordersDone 7 = .ok (.aload_n 0, 1) := by decide +kernel
theorem dX5_ordersDone_8 : decode cX5_ordersDone 8 = .ok (.getfield 9, 3) := by decide +kernel
theorem dX5_ordersDone_11 : decode cX5_ordersDone 11 = .ok (.goto 5, 3) := by decide +kernel
theorem dX5_ordersDone_14 : decode cX5_ordersDone 14 = .ok (.ldc 71, 2) := by decide +kernel
theorem dX5_ordersDone_16 : decode cX5_ordersDone 16 = .ok (.ireturn, 1) := by decide +kernel
theorem dX5_factOfFault_0 : decode cX5_factOfFault 0 = .ok (.aload_n 0, 1) := by decide +kernel
theorem dX5_factOfFault_1 : decode cX5_factOfFault 1 = .ok (.getfield 15, 3) := by decide +kernel
theorem dX5_factOfFault_4 : decode cX5_factOfFault 4 = .ok (.ifCond .ne 6, 3) := by decide +kernel
theorem dX5_factOfFault_7 : decode cX5_factOfFault 7 = .ok (.ldc 72, 2) := by decide +kernel
theorem dX5_factOfFault_9 : decode cX5_factOfFault 9 = .ok (.ireturn, 1) := by decide +kernel
theorem dX5_factOfFault_10 : decode cX5_factOfFault 10 = .ok (.iload_n 1, 1) := by decide +kernel
theorem dX5_factOfFault_11 : decode cX5_factOfFault 11 = .ok (.ifCond .ne 8, 3) := by decide +kernel
theorem dX5_factOfFault_14 : decode cX5_factOfFault 14 = .ok (.aload_n 0, 1) := by decide +kernel
theorem dX5_factOfFault_15 : decode cX5_factOfFault 15 = .ok (.getfield 65, 3) := by decide +kernel
theorem dX5_factOfFault_18 : decode cX5_factOfFault 18 = .ok (.ireturn, 1) := by decide +kernel
theorem dX5_factOfFault_19 : decode cX5_factOfFault 19 = .ok (.iload_n 1, 1) := by decide +kernel
theorem dX5_factOfFault_20 : decode cX5_factOfFault 20 = .ok (.iconst 1, 1) := by decide +kernel
theorem dX5_factOfFault_21 : decode cX5_factOfFault 21 = .ok (.if_icmp .ne 10, 3) := by decide +kernel
theorem dX5_factOfFault_24 : decode cX5_factOfFault 24 = .ok (.aload_n 0, 1) := by decide +kernel
theorem dX5_factOfFault_25 : decode cX5_factOfFault 25 = .ok (.getfield 15, 3) := by decide +kernel
theorem dX5_factOfFault_28 : decode cX5_factOfFault 28 = .ok (.goto 7, 3) := by decide +kernel
theorem dX5_factOfFault_31 : decode cX5_factOfFault 31 = .ok (.aload_n 0, 1) := by decide +kernel
theorem dX5_factOfFault_32 : decode cX5_factOfFault 32 = .ok (.getfield 68, 3) := by decide +kernel
theorem dX5_factOfFault_35 : decode cX5_factOfFault 35 = .ok (.ireturn, 1) := by decide +kernel
theorem dX6_init_0 : decode cX6_init 0 = .ok (.aload_n 0, 1) := by decide +kernel
theorem dX6_init_1 : decode cX6_init 1 = .ok (.invokespecial 1, 3) := by decide +kernel
theorem dX6_init_4 : decode cX6_init 4 = .ok (.aload_n 0, 1) := by decide +kernel
theorem dX6_init_5 : decode cX6_init 5 = .ok (.new 7, 3) := by decide +kernel
theorem dX6_init_8 : decode cX6_init 8 = .ok (.dup, 1) := by decide +kernel
theorem dX6_init_9 : decode cX6_init 9 = .ok (.invokespecial 9, 3) := by decide +kernel
theorem dX6_init_12 : decode cX6_init 12 = .ok (.putfield 10, 3) := by decide +kernel
theorem dX6_init_15 : decode cX6_init 15 = .ok (.aload_n 0, 1) := by decide +kernel
theorem dX6_init_16 : decode cX6_init 16 = .ok (.new 7, 3) := by decide +kernel
theorem dX6_init_19 : decode cX6_init 19 = .ok (.dup, 1) := by decide +kernel
theorem dX6_init_20 : decode cX6_init 20 = .ok (.invokespecial 9, 3) := by decide +kernel
theorem dX6_init_23 : decode cX6_init 23 = .ok (.putfield 16, 3) := by decide +kernel
theorem dX6_init_26 : decode cX6_init 26 = .ok (.aload_n 0, 1) := by decide +kernel
theorem dX6_init_27 : decode cX6_init 27 = .ok (.new 19, 3) := by decide +kernel
theorem dX6_init_30 : decode cX6_init 30 = .ok (.dup, 1) := by decide +kernel
theorem dX6_init_31 : decode cX6_init 31 = .ok (.invokespecial 21, 3) := by decide +kernel
theorem dX6_init_34 : decode cX6_init 34 = .ok (.putfield 22, 3) := by decide +kernel
theorem dX6_init_37 : decode cX6_init 37 = .ok (.aload_n 0, 1) := by decide +kernel
theorem dX6_init_38 : decode cX6_init 38 = .ok (.new 26, 3) := by decide +kernel
theorem dX6_init_41 : decode cX6_init 41 = .ok (.dup, 1) := by decide +kernel
theorem dX6_init_42 : decode cX6_init 42 = .ok (.invokespecial 28, 3) := by decide +kernel
theorem dX6_init_45 : decode cX6_init 45 = .ok (.putfield 29, 3) := by decide +kernel
theorem dX6_init_48 : decode cX6_init 48 = .ok (.aload_n 0, 1) := by decide +kernel
theorem dX6_init_49 : decode cX6_init 49 = .ok (.new 33, 3) := by decide +kernel
theorem dX6_init_52 : decode cX6_init 52 = .ok (.dup, 1) := by decide +kernel
theorem dX6_init_53 : decode cX6_init 53 = .ok (.invokespecial 35, 3) := by decide +kernel
theorem dX6_init_56 : decode cX6_init 56 = .ok (.putfield 36, 3) := by decide +kernel
theorem dX6_init_59 : decode cX6_init 59 = .ok (.return_, 1) := by decide +kernel
theorem dX6_boiler_0 : decode cX6_boiler 0 = .ok (.aload_n 0, 1) := by decide +kernel
theorem dX6_boiler_1 : decode cX6_boiler 1 = .ok (.aload_n 0, 1) := by decide +kernel
theorem dX6_boiler_2 : decode cX6_boiler 2 = .ok (.invokevirtual 40, 3) := by decide +kernel
theorem dX6_boiler_5 : decode cX6_boiler 5 = .ok (.iload_n 1, 1) := by decide +kernel
theorem dX6_boiler_6 : decode cX6_boiler 6 = .ok (.invokevirtual 44, 3) := by decide +kernel
theorem dX6_boiler_9 : decode cX6_boiler 9 = .ok (.invokevirtual 48, 3) := by decide +kernel
theorem dX6_boiler_12 : decode cX6_boiler 12 = .ok (.ireturn, 1) := by decide +kernel
theorem dX6_inspector_0 : decode cX6_inspector 0 = .ok (.aload_n 0, 1) := by decide +kernel
theorem dX6_inspector_1 : decode cX6_inspector 1 = .ok (.aload_n 0, 1) := by decide +kernel
theorem dX6_inspector_2 : decode cX6_inspector 2 = .ok (.invokevirtual 40, 3) := by decide +kernel
theorem dX6_inspector_5 : decode cX6_inspector 5 = .ok (.iload_n 1, 1) := by decide +kernel
theorem dX6_inspector_6 : decode cX6_inspector 6 = .ok (.iload_n 2, 1) := by decide +kernel
theorem dX6_inspector_7 : decode cX6_inspector 7 = .ok (.invokevirtual 51, 3) := by decide +kernel
theorem dX6_inspector_10 : decode cX6_inspector 10 = .ok (.invokevirtual 48, 3) := by decide +kernel
theorem dX6_inspector_13 : decode cX6_inspector 13 = .ok (.ireturn, 1) := by decide +kernel
theorem dX6_press_0 : decode cX6_press 0 = .ok (.aload_n 0, 1) := by decide +kernel
theorem dX6_press_1 : decode cX6_press 1 = .ok (.aload_n 0, 1) := by decide +kernel
theorem dX6_press_2 : decode cX6_press 2 = .ok (.invokevirtual 40, 3) := by decide +kernel
theorem dX6_press_5 : decode cX6_press 5 = .ok (.iload_n 1, 1) := by decide +kernel
theorem dX6_press_6 : decode cX6_press 6 = .ok (.iload_n 2, 1) := by decide +kernel
theorem dX6_press_7 : decode cX6_press 7 = .ok (.invokevirtual 55, 3) := by decide +kernel
theorem dX6_press_10 : decode cX6_press 10 = .ok (.invokevirtual 48, 3) := by decide +kernel
theorem dX6_press_13 : decode cX6_press 13 = .ok (.ireturn, 1) := by decide +kernel
theorem dX6_inspect_0 : decode cX6_inspect 0 = .ok (.aload_n 0, 1) := by decide +kernel
theorem dX6_inspect_1 : decode cX6_inspect 1 = .ok (.aload_n 0, 1) := by decide +kernel
theorem dX6_inspect_2 : decode cX6_inspect 2 = .ok (.invokevirtual 40, 3) := by decide +kernel
theorem dX6_inspect_5 : decode cX6_inspect 5 = .ok (.iload_n 1, 1) := by decide +kernel
theorem dX6_inspect_6 : decode cX6_inspect 6 = .ok (.iload_n 2, 1) := by decide +kernel
theorem dX6_inspect_7 : decode cX6_inspect 7 = .ok (.invokevirtual 58, 3) := by decide +kernel
theorem dX6_inspect_10 : decode cX6_inspect 10 = .ok (.invokevirtual 48, 3) := by decide +kernel
theorem dX6_inspect_13 : decode cX6_inspect 13 = .ok (.ireturn, 1) := by decide +kernel
theorem dX6_fire_0 : decode cX6_fire 0 = .ok (.aload_n 0, 1) := by decide +kernel
theorem dX6_fire_1 : decode cX6_fire 1 = .ok (.aload_n 0, 1) := by decide +kernel
theorem dX6_fire_2 : decode cX6_fire 2 = .ok (.invokevirtual 40, 3) := by decide +kernel
theorem dX6_fire_5 : decode cX6_fire 5 = .ok (.iload_n 1, 1) := by decide +kernel
theorem dX6_fire_6 : decode cX6_fire 6 = .ok (.invokevirtual 61, 3) := by decide +kernel
theorem dX6_fire_9 : decode cX6_fire 9 = .ok (.invokevirtual 48, 3) := by decide +kernel
theorem dX6_fire_12 : decode cX6_fire 12 = .ok (.ireturn, 1) := by decide +kernel
theorem dX6_out_0 : decode cX6_out 0 = .ok (.aload_n 0, 1) := by decide +kernel
theorem dX6_out_1 : decode cX6_out 1 = .ok (.aload_n 0, 1) := by decide +kernel
theorem dX6_out_2 : decode cX6_out 2 = .ok (.invokevirtual 40, 3) := by decide +kernel
theorem dX6_out_5 : decode cX6_out 5 = .ok (.iload_n 1, 1) := by decide +kernel
theorem dX6_out_6 : decode cX6_out 6 = .ok (.invokevirtual 64, 3) := by decide +kernel
theorem dX6_out_9 : decode cX6_out 9 = .ok (.invokevirtual 48, 3) := by decide +kernel
theorem dX6_out_12 : decode cX6_out 12 = .ok (.ireturn, 1) := by decide +kernel
theorem dX6_plan_0 : decode cX6_plan 0 = .ok (.aload_n 0, 1) := by decide +kernel
theorem dX6_plan_1 : decode cX6_plan 1 = .ok (.aload_n 0, 1) := by decide +kernel
theorem dX6_plan_2 : decode cX6_plan 2 = .ok (.invokevirtual 40, 3) := by decide +kernel
theorem dX6_plan_5 : decode cX6_plan 5 = .ok (.iload_n 1, 1) := by decide +kernel
theorem dX6_plan_6 : decode cX6_plan 6 = .ok (.iload_n 2, 1) := by decide +kernel
theorem dX6_plan_7 : decode cX6_plan 7 = .ok (.iload_n 3, 1) := by decide +kernel
theorem dX6_plan_8 : decode cX6_plan 8 = .ok (.invokevirtual 67, 3) := by decide +kernel
theorem dX6_plan_11 : decode cX6_plan 11 = .ok (.invokevirtual 48, 3) := by decide +kernel
theorem dX6_plan_14 : decode cX6_plan 14 = .ok (.ireturn, 1) := by decide +kernel
theorem dX6_repair_0 : decode cX6_repair 0 = .ok (.aload_n 0, 1) := by decide +kernel
theorem dX6_repair_1 : decode cX6_repair 1 = .ok (.aload_n 0, 1) := by decide +kernel
theorem dX6_repair_2 : decode cX6_repair 2 = .ok (.invokevirtual 40, 3) := by decide +kernel
theorem dX6_repair_5 : decode cX6_repair 5 = .ok (.iload_n 1, 1) := by decide +kernel
theorem dX6_repair_6 : decode cX6_repair 6 = .ok (.invokevirtual 71, 3) := by decide +kernel
theorem dX6_repair_9 : decode cX6_repair 9 = .ok (.invokevirtual 48, 3) := by decide +kernel
theorem dX6_repair_12 : decode cX6_repair 12 = .ok (.ireturn, 1) := by decide +kernel
theorem dX6_pass_0 : decode cX6_pass 0 = .ok (.aload_n 0, 1) := by decide +kernel
theorem dX6_pass_1 : decode cX6_pass 1 = .ok (.aload_n 0, 1) := by decide +kernel
theorem dX6_pass_2 : decode cX6_pass 2 = .ok (.invokevirtual 40, 3) := by decide +kernel
theorem dX6_pass_5 : decode cX6_pass 5 = .ok (.iload_n 1, 1) := by decide +kernel
theorem dX6_pass_6 : decode cX6_pass 6 = .ok (.invokevirtual 74, 3) := by decide +kernel
theorem dX6_pass_9 : decode cX6_pass 9 = .ok (.invokevirtual 48, 3) := by decide +kernel
theorem dX6_pass_12 : decode cX6_pass 12 = .ok (.ireturn, 1) := by decide +kernel
theorem dX6_set_0 : decode cX6_set 0 = .ok (.aload_n 0, 1) := by decide +kernel
theorem dX6_set_1 : decode cX6_set 1 = .ok (.aload_n 0, 1) := by decide +kernel
theorem dX6_set_2 : decode cX6_set 2 = .ok (.invokevirtual 40, 3) := by decide +kernel
theorem dX6_set_5 : decode cX6_set 5 = .ok (.iload_n 1, 1) := by decide +kernel
theorem dX6_set_6 : decode cX6_set 6 = .ok (.iload_n 2, 1) := by decide +kernel
theorem dX6_set_7 : decode cX6_set 7 = .ok (.invokevirtual 77, 3) := by decide +kernel
theorem dX6_set_10 : decode cX6_set 10 = .ok (.invokevirtual 48, 3) := by decide +kernel
theorem dX6_set_13 : decode cX6_set 13 = .ok (.ireturn, 1) := by decide +kernel
theorem dX6_boilerOf_0 : decode cX6_boilerOf 0 = .ok (.aload_n 0, 1) := by decide +kernel
theorem dX6_boilerOf_1 : decode cX6_boilerOf 1 = .ok (.getfield 10, 3) := by decide +kernel
theorem dX6_boilerOf_4 : decode cX6_boilerOf 4 = .ok (.iload_n 1, 1) := by decide +kernel
theorem dX6_boilerOf_5 : decode cX6_boilerOf 5 = .ok (.iload_n 2, 1) := by decide +kernel
theorem dX6_boilerOf_6 : decode cX6_boilerOf 6 = .ok (.invokevirtual 80, 3) := by decide +kernel
theorem dX6_boilerOf_9 : decode cX6_boilerOf 9 = .ok (.ireturn, 1) := by decide +kernel
theorem dX6_paperOf_0 : decode cX6_paperOf 0 = .ok (.aload_n 0, 1) := by decide +kernel
theorem dX6_paperOf_1 : decode cX6_paperOf 1 = .ok (.getfield 10, 3) := by decide +kernel
theorem dX6_paperOf_4 : decode cX6_paperOf 4 = .ok (.iload_n 1, 1) := by decide +kernel
theorem dX6_paperOf_5 : decode cX6_paperOf 5 = .ok (.iload_n 2, 1) := by decide +kernel
theorem dX6_paperOf_6 : decode cX6_paperOf 6 = .ok (.invokevirtual 83, 3) := by decide +kernel
theorem dX6_paperOf_9 : decode cX6_paperOf 9 = .ok (.ireturn, 1) := by decide +kernel
theorem dX6_inspectorOf_0 : decode cX6_inspectorOf 0 = .ok (.aload_n 0, 1) := by decide +kernel
theorem dX6_inspectorOf_1 : decode cX6_inspectorOf 1 = .ok (.getfield 10, 3) := by decide +kernel
theorem dX6_inspectorOf_4 : decode cX6_inspectorOf 4 = .ok (.iload_n 1, 1) := by decide +kernel
theorem dX6_inspectorOf_5 : decode cX6_inspectorOf 5 = .ok (.iload_n 2, 1) := by decide +kernel
theorem dX6_inspectorOf_6 : decode cX6_inspectorOf 6 = .ok (.invokevirtual 86, 3) := by decide +kernel
theorem dX6_inspectorOf_9 : decode cX6_inspectorOf 9 = .ok (.ireturn, 1) := by decide +kernel
theorem dX6_why_0 : decode cX6_why 0 = .ok (.iload_n 2, 1) := by decide +kernel
theorem dX6_why_1 : decode cX6_why 1 = .ok (.iconst (-1), 1) := by decide +kernel
theorem dX6_why_2 : decode cX6_why 2 = .ok (.if_icmp .ne 12, 3) := by decide +kernel
theorem dX6_why_5 : decode cX6_why 5 = .ok (.aload_n 0, 1) := by decide +kernel
theorem dX6_why_6 : decode cX6_why 6 = .ok (.getfield 10, 3) := by decide +kernel
theorem dX6_why_9 : decode cX6_why 9 = .ok (.iload_n 1, 1) := by decide +kernel
theorem dX6_why_10 : decode cX6_why 10 = .ok (.invokevirtual 89, 3) := by decide +kernel
theorem dX6_why_13 : decode cX6_why 13 = .ok (.ireturn, 1) := by decide +kernel
theorem dX6_why_14 : decode cX6_why 14 = .ok (.aload_n 0, 1) := by decide +kernel
theorem dX6_why_15 : decode cX6_why 15 = .ok (.getfield 10, 3) := by decide +kernel
theorem dX6_why_18 : decode cX6_why 18 = .ok (.iload_n 1, 1) := by decide +kernel
theorem dX6_why_19 : decode cX6_why 19 = .ok (.iload_n 2, 1) := by decide +kernel
theorem dX6_why_20 : decode cX6_why 20 = .ok (.invokevirtual 92, 3) := by decide +kernel
theorem dX6_why_23 : decode cX6_why 23 = .ok (.ireturn, 1) := by decide +kernel
theorem dX6_account_0 : decode cX6_account 0 = .ok (.aload_n 0, 1) := by decide +kernel
theorem dX6_account_1 : decode cX6_account 1 = .ok (.getfield 10, 3) := by decide +kernel
theorem dX6_account_4 : decode cX6_account 4 = .ok (.iload_n 1, 1) := by decide +kernel
theorem dX6_account_5 : decode cX6_account 5 = .ok (.invokevirtual 95, 3) := by decide +kernel
theorem dX6_account_8 : decode cX6_account 8 = .ok (.ireturn, 1) := by decide +kernel
theorem dX6_would_0 : decode cX6_would 0 = .ok (.aload_n 0, 1) := by decide +kernel
theorem dX6_would_1 : decode cX6_would 1 = .ok (.getfield 10, 3) := by decide +kernel
theorem dX6_would_4 : decode cX6_would 4 = .ok (.iload_n 1, 1) := by decide +kernel
theorem dX6_would_5 : decode cX6_would 5 = .ok (.iload_n 2, 1) := by decide +kernel
theorem dX6_would_6 : decode cX6_would 6 = .ok (.iload_n 3, 1) := by decide +kernel
theorem dX6_would_7 : decode cX6_would 7 = .ok (.invokevirtual 98, 3) := by decide +kernel
theorem dX6_would_10 : decode cX6_would 10 = .ok (.ireturn, 1) := by decide +kernel
theorem dX6_better_0 : decode cX6_better 0 = .ok (.aload_n 0, 1) := by decide +kernel
theorem dX6_better_1 : decode cX6_better 1 = .ok (.getfield 10, 3) := by decide +kernel
theorem dX6_better_4 : decode cX6_better 4 = .ok (.iload_n 1, 1) := by decide +kernel
theorem dX6_better_5 : decode cX6_better 5 = .ok (.invokevirtual 101, 3) := by decide +kernel
theorem dX6_better_8 : decode cX6_better 8 = .ok (.ireturn, 1) := by decide +kernel
theorem dX6_first_0 : decode cX6_first 0 = .ok (.aload_n 0, 1) := by decide +kernel
theorem dX6_first_1 : decode cX6_first 1 = .ok (.getfield 10, 3) := by decide +kernel
theorem dX6_first_4 : decode cX6_first 4 = .ok (.iload_n 1, 1) := by decide +kernel
theorem dX6_first_5 : decode cX6_first 5 = .ok (.invokevirtual 104, 3) := by decide +kernel
theorem dX6_first_8 : decode cX6_first 8 = .ok (.ireturn, 1) := by decide +kernel
theorem dX6_goesOn_0 : decode cX6_goesOn 0 = .ok (.aload_n 0, 1) := by decide +kernel
theorem dX6_goesOn_1 : decode cX6_goesOn 1 = .ok (.getfield 10, 3) := by decide +kernel
theorem dX6_goesOn_4 : decode cX6_goesOn 4 = .ok (.iload_n 1, 1) := by decide +kernel
theorem dX6_goesOn_5 : decode cX6_goesOn 5 = .ok (.invokevirtual 107, 3) := by decide +kernel
theorem dX6_goesOn_8 : decode cX6_goesOn 8 = .ok (.ireturn, 1) := by decide +kernel
theorem dX6_share_0 : decode cX6_share 0 = .ok (.aload_n 0, 1) := by decide +kernel
theorem dX6_share_1 : decode cX6_share 1 = .ok (.getfield 10, 3) := by decide +kernel
theorem dX6_share_4 : decode cX6_share 4 = .ok (.iload_n 1, 1) := by decide +kernel
theorem dX6_share_5 : decode cX6_share 5 = .ok (.invokevirtual 110, 3) := by decide +kernel
theorem dX6_share_8 : decode cX6_share 8 = .ok (.ireturn, 1) := by decide +kernel
theorem dX6_count_0 : decode cX6_count 0 = .ok (.iload_n 1, 1) := by decide +kernel
theorem dX6_count_1 : decode cX6_count 1 = .ok (.lookupswitch 43 #[(13, 27), (14, 35)], 27) := by decide +kernel
theorem dX6_count_28 : decode cX6_count 28 = .ok (.aload_n 0, 1) := by decide +kernel
theorem dX6_count_29 : decode cX6_count 29 = .ok (.getfield 22, 3) := by decide +kernel
theorem dX6_count_32 : decode cX6_count 32 = .ok (.invokevirtual 113, 3) := by decide +kernel
theorem dX6_count_35 : decode cX6_count 35 = .ok (.ireturn, 1) := by decide +kernel
theorem dX6_count_36 : decode cX6_count 36 = .ok (.aload_n 0, 1) := by decide +kernel
theorem dX6_count_37 : decode cX6_count 37 = .ok (.getfield 29, 3) := by decide +kernel
theorem dX6_count_40 : decode cX6_count 40 = .ok (.invokevirtual 117, 3) := by decide +kernel
theorem dX6_count_43 : decode cX6_count 43 = .ok (.ireturn, 1) := by decide +kernel
theorem dX6_count_44 : decode cX6_count 44 = .ok (.aload_n 0, 1) := by decide +kernel
theorem dX6_count_45 : decode cX6_count 45 = .ok (.getfield 10, 3) := by decide +kernel
theorem dX6_count_48 : decode cX6_count 48 = .ok (.iload_n 1, 1) := by decide +kernel
theorem dX6_count_49 : decode cX6_count 49 = .ok (.invokevirtual 120, 3) := by decide +kernel
theorem dX6_count_52 : decode cX6_count 52 = .ok (.ireturn, 1) := by decide +kernel
theorem dX6_undo_0 : decode cX6_undo 0 = .ok (.aload_n 0, 1) := by decide +kernel
theorem dX6_undo_1 : decode cX6_undo 1 = .ok (.getfield 22, 3) := by decide +kernel
theorem dX6_undo_4 : decode cX6_undo 4 = .ok (.aload_n 0, 1) := by decide +kernel
theorem dX6_undo_5 : decode cX6_undo 5 = .ok (.getfield 10, 3) := by decide +kernel
theorem dX6_undo_8 : decode cX6_undo 8 = .ok (.invokevirtual 123, 3) := by decide +kernel
theorem dX6_undo_11 : decode cX6_undo 11 = .ok (.ireturn, 1) := by decide +kernel
theorem dX6_type_0 : decode cX6_type 0 = .ok (.aload_n 0, 1) := by decide +kernel
theorem dX6_type_1 : decode cX6_type 1 = .ok (.getfield 29, 3) := by decide +kernel
theorem dX6_type_4 : decode cX6_type 4 = .ok (.iload_n 1, 1) := by decide +kernel
theorem dX6_type_5 : decode cX6_type 5 = .ok (.invokevirtual 127, 3) := by decide +kernel
theorem dX6_type_8 : decode cX6_type 8 = .ok (.ireturn, 1) := by decide +kernel
theorem dX6_clearText_0 : decode cX6_clearText 0 = .ok (.aload_n 0, 1) := by decide +kernel
theorem dX6_clearText_1 : decode cX6_clearText 1 = .ok (.getfield 29, 3) := by decide +kernel
theorem dX6_clearText_4 : decode cX6_clearText 4 = .ok (.invokevirtual 130, 3) := by decide +kernel
theorem dX6_clearText_7 : decode cX6_clearText 7 = .ok (.ireturn, 1) := by decide +kernel
theorem dX6_fault_0 : decode cX6_fault 0 = .ok (.iload_n 1, 1) := by decide +kernel
theorem dX6_fault_1 : decode cX6_fault 1 = .ok (.ifCond .lt 8, 3) := by decide +kernel
theorem dX6_fault_4 : decode cX6_fault 4 = .ok (.iload_n 1, 1) := by decide +kernel
theorem dX6_fault_5 : decode cX6_fault 5 = .ok (.iconst 2, 1) := by decide +kernel
theorem dX6_fault_6 : decode cX6_fault 6 = .ok (.if_icmp .le 6, 3) := by decide +kernel
theorem dX6_fault_9 : decode cX6_fault 9 = .ok (.ldc 133, 2) := by decide +kernel
theorem dX6_fault_11 : decode cX6_fault 11 = .ok (.ireturn, 1) := by decide +kernel
theorem dX6_fault_12 : decode cX6_fault 12 = .ok (.aload_n 0, 1) := by decide +kernel
theorem dX6_fault_13 : decode cX6_fault 13 = .ok (.getfield 36, 3) := by decide +kernel
theorem dX6_fault_16 : decode cX6_fault 16 = .ok (.aload_n 0, 1) := by decide +kernel
theorem dX6_fault_17 : decode cX6_fault 17 = .ok (.getfield 29, 3) := by decide +kernel
theorem dX6_fault_20 : decode cX6_fault 20 = .ok (.aload_n 0, 1) := by decide +kernel
theorem dX6_fault_21 : decode cX6_fault 21 = .ok (.invokevirtual 40, 3) := by decide +kernel
theorem dX6_fault_24 : decode cX6_fault 24 = .ok (.invokevirtual 134, 3) := by decide +kernel
theorem dX6_fault_27 : decode cX6_fault 27 = .ok (.aload_n 0, 1) := by decide +kernel
theorem dX6_fault_28 : decode cX6_fault 28 = .ok (.getfield 36, 3) := by decide +kernel
theorem dX6_fault_31 : decode cX6_fault 31 = .ok (.iload_n 1, 1) := by decide +kernel
theorem dX6_fault_32 : decode cX6_fault 32 = .ok (.invokevirtual 138, 3) := by decide +kernel
theorem dX6_fault_35 : decode cX6_fault 35 = .ok (.ireturn, 1) := by decide +kernel
theorem dX6_play_0 : decode cX6_play 0 = .ok (.aload_n 0, 1) := by decide +kernel
theorem dX6_play_1 : decode cX6_play 1 = .ok (.getfield 36, 3) := by decide +kernel
theorem dX6_play_4 : decode cX6_play 4 = .ok (.aload_n 0, 1) := by decide +kernel
theorem dX6_play_5 : decode cX6_play 5 = .ok (.getfield 29, 3) := by decide +kernel
theorem dX6_play_8 : decode cX6_play 8 = .ok (.aload_n 0, 1) := by decide +kernel
theorem dX6_play_9 : decode cX6_play 9 = .ok (.invokevirtual 40, 3) := by decide +kernel
theorem dX6_play_12 : decode cX6_play 12 = .ok (.invokevirtual 134, 3) := by decide +kernel
theorem dX6_play_15 : decode cX6_play 15 = .ok (.aload_n 0, 1) := by decide +kernel
theorem dX6_play_16 : decode cX6_play 16 = .ok (.aload_n 0, 1) := by decide +kernel
theorem dX6_play_17 : decode cX6_play 17 = .ok (.getfield 36, 3) := by decide +kernel
theorem dX6_play_20 : decode cX6_play 20 = .ok (.invokevirtual 141, 3) := by decide +kernel
theorem dX6_play_23 : decode cX6_play 23 = .ok (.invokevirtual 48, 3) := by decide +kernel
theorem dX6_play_26 : decode cX6_play 26 = .ok (.ireturn, 1) := by decide +kernel
theorem dX6_trialOfNow_0 : decode cX6_trialOfNow 0 = .ok (.aload_n 0, 1) := by decide +kernel
theorem dX6_trialOfNow_1 : decode cX6_trialOfNow 1 = .ok (.getfield 16, 3) := by decide +kernel
theorem dX6_trialOfNow_4 : decode cX6_trialOfNow 4 = .ok (.aload_n 0, 1) := by decide +kernel
theorem dX6_trialOfNow_5 : decode cX6_trialOfNow 5 = .ok (.getfield 10, 3) := by decide +kernel
theorem dX6_trialOfNow_8 : decode cX6_trialOfNow 8 = .ok (.invokevirtual 144, 3) := by decide +kernel
theorem dX6_trialOfNow_11 : decode cX6_trialOfNow 11 = .ok (.aload_n 0, 1) := by decide +kernel
theorem dX6_trialOfNow_12 : decode cX6_trialOfNow 12 = .ok (.getfield 16, 3) := by decide +kernel
theorem dX6_trialOfNow_15 : decode cX6_trialOfNow 15 = .ok (.areturn, 1) := by decide +kernel
theorem dX6_settle_0 : decode cX6_settle 0 = .ok (.iload_n 1, 1) := by decide +kernel
theorem dX6_settle_1 : decode cX6_settle 1 = .ok (.invokestatic 148, 3) := by decide +kernel
theorem dX6_settle_4 : decode cX6_settle 4 = .ok (.ifCond .ne 25, 3) := by decide +kernel
theorem dX6_settle_7 : decode cX6_settle 7 = .ok (.aload_n 0, 1) := by decide +kernel
theorem dX6_settle_8 : decode cX6_settle 8 = .ok (.getfield 22, 3) := by decide +kernel
theorem dX6_settle_11 : decode cX6_settle 11 = .ok (.aload_n 0, 1) := by decide +kernel
theorem dX6_settle_12 : decode cX6_settle 12 = .ok (.getfield 10, 3) := by decide +kernel
theorem dX6_settle_15 : decode cX6_settle 15 = .ok (.invokevirtual 152, 3) := by decide +kernel
theorem dX6_settle_18 : decode cX6_settle 18 = .ok (.aload_n 0, 1) := by decide +kernel
theorem dX6_settle_19 : decode cX6_settle 19 = .ok (.getfield 10, 3) := by decide +kernel
theorem dX6_settle_22 : decode cX6_settle 22 = .ok (.aload_n 0, 1) := by decide +kernel
theorem dX6_settle_23 : decode cX6_settle 23 = .ok (.getfield 16, 3) := by decide +kernel
theorem dX6_settle_26 : decode cX6_settle 26 = .ok (.invokevirtual 144, 3) := by decide +kernel
theorem dX6_settle_29 : decode cX6_settle 29 = .ok (.iload_n 1, 1) := by decide +kernel
theorem dX6_settle_30 : decode cX6_settle 30 = .ok (.ireturn, 1) := by decide +kernel
theorem dX6_isError_0 : decode cX6_isError 0 = .ok (.iload_n 0, 1) := by decide +kernel
theorem dX6_isError_1 : decode cX6_isError 1 = .ok (.ldc 133, 2) := by decide +kernel
theorem dX6_isError_3 : decode cX6_isError 3 = .ok (.if_icmp .gt 7, 3) := by decide +kernel
theorem dX6_isError_6 : decode cX6_isError 6 = .ok (.iconst 1, 1) := by decide +kernel
theorem dX6_isError_7 : decode cX6_isError 7 = .ok (.goto 4, 3) := by decide +kernel
theorem dX6_isError_10 : decode cX6_isError 10 = .ok (.iconst 0, 1) := by decide +kernel
theorem dX6_isError_11 : decode cX6_isError 11 = .ok (.ireturn, 1) := by decide +kernel
theorem dX6_isInsurer_0 : decode cX6_isInsurer 0 = .ok (.iload_n 0, 1) := by decide +kernel
theorem dX6_isInsurer_1 : decode cX6_isInsurer 1 = .ok (.ifCond .eq 8, 3) := by decide +kernel
theorem dX6_isInsurer_4 : decode cX6_isInsurer 4 = .ok (.iload_n 0, 1) := by decide +kernel
theorem dX6_isInsurer_5 : decode cX6_isInsurer 5 = .ok (.iconst 1, 1) := by decide +kernel
theorem dX6_isInsurer_6 : decode cX6_isInsurer 6 = .ok (.if_icmp .ne 7, 3) := by decide +kernel
theorem dX6_isInsurer_9 : decode cX6_isInsurer 9 = .ok (.iconst 1, 1) := by decide +kernel
theorem dX6_isInsurer_10 : decode cX6_isInsurer 10 = .ok (.goto 4, 3) := by decide +kernel
theorem dX6_isInsurer_13 : decode cX6_isInsurer 13 = .ok (.iconst 0, 1) := by decide +kernel
theorem dX6_isInsurer_14 : decode cX6_isInsurer 14 = .ok (.ireturn, 1) := by decide +kernel
theorem dX7_init_0 : decode cX7_init 0 = .ok (.aload_n 0, 1) := by decide +kernel
theorem dX7_init_1 : decode cX7_init 1 = .ok (.invokespecial 1, 3) := by decide +kernel
theorem dX7_init_4 : decode cX7_init 4 = .ok (.aload_n 0, 1) := by decide +kernel
theorem dX7_init_5 : decode cX7_init 5 = .ok (.sipush 141, 3) := by decide +kernel
theorem dX7_init_8 : decode cX7_init 8 = .ok (.newarray .int, 2) := by decide +kernel
theorem dX7_init_10 : decode cX7_init 10 = .ok (.putfield 7, 3) := by decide +kernel
theorem dX7_init_13 : decode cX7_init 13 = .ok (.aload_n 0, 1) := by decide +kernel
theorem dX7_init_14 : decode cX7_init 14 = .ok (.sipush 141, 3) := by decide +kernel
theorem dX7_init_17 : decode cX7_init 17 = .ok (.newarray .int, 2) := by decide +kernel
theorem dX7_init_19 : decode cX7_init 19 = .ok (.putfield 13, 3) := by decide +kernel
theorem dX7_init_22 : decode cX7_init 22 = .ok (.aload_n 0, 1) := by decide +kernel
theorem dX7_init_23 : decode cX7_init 23 = .ok (.sipush 564, 3) := by decide +kernel
theorem dX7_init_26 : decode cX7_init 26 = .ok (.newarray .int, 2) := by decide +kernel
theorem dX7_init_28 : decode cX7_init 28 = .ok (.putfield 16, 3) := by decide +kernel
theorem dX7_init_31 : decode cX7_init 31 = .ok (.aload_n 0, 1) := by decide +kernel
theorem dX7_init_32 : decode cX7_init 32 = .ok (.bipush 60, 2) := by decide +kernel
theorem dX7_init_34 : decode cX7_init 34 = .ok (.newarray .int, 2) := by decide +kernel
theorem dX7_init_36 : decode cX7_init 36 = .ok (.putfield 19, 3) := by decide +kernel
theorem dX7_init_39 : decode cX7_init 39 = .ok (.aload_n 0, 1) := by decide +kernel
theorem dX7_init_40 : decode cX7_init 40 = .ok (.getfield 7, 3) := by decide +kernel
theorem dX7_init_43 : decode cX7_init 43 = .ok (.bipush 7, 2) := by decide +kernel
theorem dX7_init_45 : decode cX7_init 45 = .ok (.bipush 120, 2) := by decide +kernel
theorem dX7_init_47 : decode cX7_init 47 = .ok (.iastore, 1) := by decide +kernel
theorem dX7_init_48 : decode cX7_init 48 = .ok (.aload_n 0, 1) := by decide +kernel
theorem dX7_init_49 : decode cX7_init 49 = .ok (.getfield 7, 3) := by decide +kernel
theorem dX7_init_52 : decode cX7_init 52 = .ok (.bipush 8, 2) := by decide +kernel
theorem dX7_init_54 : decode cX7_init 54 = .ok (.bipush 90, 2) := by decide +kernel
theorem dX7_init_56 : decode cX7_init 56 = .ok (.iastore, 1) := by decide +kernel
theorem dX7_init_57 : decode cX7_init 57 = .ok (.aload_n 0, 1) := by decide +kernel
theorem dX7_init_58 : decode cX7_init 58 = .ok (.getfield 7, 3) := by decide +kernel
theorem dX7_init_61 : decode cX7_init 61 = .ok (.bipush 9, 2) := by decide +kernel
theorem dX7_init_63 : decode cX7_init 63 = .ok (.bipush 8, 2) := by decide +kernel
theorem dX7_init_65 : decode cX7_init 65 = .ok (.iastore, 1) := by decide +kernel
theorem dX7_init_66 : decode cX7_init 66 = .ok (.aload_n 0, 1) := by decide +kernel
theorem dX7_init_67 : decode cX7_init 67 = .ok (.getfield 7, 3) := by decide +kernel
theorem dX7_init_70 : decode cX7_init 70 = .ok (.bipush 10, 2) := by decide +kernel
theorem dX7_init_72 : decode cX7_init 72 = .ok (.bipush 15, 2) := by decide +kernel
theorem dX7_init_74 : decode cX7_init 74 = .ok (.iastore, 1) := by decide +kernel
theorem dX7_init_75 : decode cX7_init 75 = .ok (.return_, 1) := by decide +kernel
theorem dX7_in_0 : decode cX7_in 0 = .ok (.iload_n 0, 1) := by decide +kernel
theorem dX7_in_1 : decode cX7_in 1 = .ok (.iload_n 1, 1) := by decide +kernel
theorem dX7_in_2 : decode cX7_in 2 = .ok (.if_icmp .lt 12, 3) := by decide +kernel
theorem dX7_in_5 : decode cX7_in 5 = .ok (.iload_n 0, 1) := by decide +kernel
theorem dX7_in_6 : decode cX7_in 6 = .ok (.iload_n 2, 1) := by decide +kernel
theorem dX7_in_7 : decode cX7_in 7 = .ok (.if_icmp .gt 7, 3) := by decide +kernel
theorem dX7_in_10 : decode cX7_in 10 = .ok (.iconst 1, 1) := by decide +kernel
theorem dX7_in_11 : decode cX7_in 11 = .ok (.goto 4, 3) := by decide +kernel
theorem dX7_in_14 : decode cX7_in 14 = .ok (.iconst 0, 1) := by decide +kernel
theorem dX7_in_15 : decode cX7_in 15 = .ok (.ireturn, 1) := by decide +kernel
theorem dX7_begins_0 : decode cX7_begins 0 = .ok (.iconst 0, 1) := by decide +kernel
theorem dX7_begins_1 : decode cX7_begins 1 = .ok (.istore_n 1, 1) := by decide +kernel
theorem dX7_begins_2 : decode cX7_begins 2 = .ok (.iload_n 1, 1) := by decide +kernel
theorem dX7_begins_3 : decode cX7_begins 3 = .ok (.sipush 141, 3) := by decide +kernel
theorem dX7_begins_6 : decode cX7_begins 6 = .ok (.if_icmp .ge 21, 3) := by decide +kernel
theorem dX7_begins_9 : decode cX7_begins 9 = .ok (.aload_n 0, 1) := by decide +kernel
theorem dX7_begins_10 : decode cX7_begins 10 = .ok (.getfield 13, 3) := by decide +kernel
theorem dX7_begins_13 : decode cX7_begins 13 = .ok (.iload_n 1, 1) := by decide +kernel
theorem dX7_begins_14 : decode cX7_begins 14 = .ok (.aload_n 0, 1) := by decide +kernel
theorem dX7_begins_15 : decode cX7_begins 15 = .ok (.getfield 7, 3) := by decide +kernel
theorem dX7_begins_18 : decode cX7_begins 18 = .ok (.iload_n 1, 1) := by decide +kernel
theorem dX7_begins_19 : decode cX7_begins 19 = .ok (.iaload, 1) := by decide +kernel
theorem dX7_begins_20 : decode cX7_begins 20 = .ok (.iastore, 1) := by decide +kernel
theorem dX7_begins_21 : decode cX7_begins 21 = .ok (.iinc 1 1, 3) := by decide +kernel
theorem dX7_begins_24 : decode cX7_begins 24 = .ok (.goto (-22), 3) := by decide +kernel
theorem dX7_begins_27 : decode cX7_begins 27 = .ok (.return_, 1) := by decide +kernel
theorem dX7_returns_0 : decode cX7_returns 0 = .ok (.iconst 0, 1) := by decide +kernel
theorem dX7_returns_1 : decode cX7_returns 1 = .ok (.istore_n 1, 1) := by decide +kernel
theorem dX7_returns_2 : decode cX7_returns 2 = .ok (.iload_n 1, 1) := by decide +kernel
theorem dX7_returns_3 : decode cX7_returns 3 = .ok (.sipush 141, 3) := by decide +kernel
theorem dX7_returns_6 : decode cX7_returns 6 = .ok (.if_icmp .ge 21, 3) := by decide +kernel
theorem dX7_returns_9 : decode cX7_returns 9 = .ok (.aload_n 0, 1) := by decide +kernel
theorem dX7_returns_10 : decode cX7_returns 10 = .ok (.getfield 7, 3) := by decide +kernel
theorem dX7_returns_13 : decode cX7_returns 13 = .ok (.iload_n 1, 1) := by decide +kernel
theorem dX7_returns_14 : decode cX7_returns 14 = .ok (.aload_n 0, 1) := by decide +kernel
theorem dX7_returns_15 : decode cX7_returns 15 = .ok (.getfield 13, 3) := by decide +kernel
theorem dX7_returns_18 : decode cX7_returns 18 = .ok (.iload_n 1, 1) := by decide +kernel
theorem dX7_returns_19 : decode cX7_returns 19 = .ok (.iaload, 1) := by decide +kernel
theorem dX7_returns_20 : decode cX7_returns 20 = .ok (.iastore, 1) := by decide +kernel
theorem dX7_returns_21 : decode cX7_returns 21 = .ok (.iinc 1 1, 3) := by decide +kernel
theorem dX7_returns_24 : decode cX7_returns 24 = .ok (.goto (-22), 3) := by decide +kernel
theorem dX7_returns_27 : decode cX7_returns 27 = .ok (.return_, 1) := by decide +kernel
theorem dX7_acted_0 : decode cX7_acted 0 = .ok (.iload_n 1, 1) := by decide +kernel
theorem dX7_acted_1 : decode cX7_acted 1 = .ok (.ldc 22, 2) := by decide +kernel
theorem dX7_acted_3 : decode cX7_acted 3 = .ok (.if_icmp .gt 9, 3) := by decide +kernel
theorem dX7_acted_6 : decode cX7_acted 6 = .ok (.aload_n 0, 1) := by decide +kernel
theorem dX7_acted_7 : decode cX7_acted 7 = .ok (.invokevirtual 23, 3) := by decide +kernel
theorem dX7_acted_10 : decode cX7_acted 10 = .ok (.iload_n 1, 1) := by decide +kernel
theorem dX7_acted_11 : decode cX7_acted 11 = .ok (.ireturn, 1) := by decide +kernel
theorem dX7_acted_12 : decode cX7_acted 12 = .ok (.aload_n 0, 1) := by decide +kernel
theorem dX7_acted_13 : decode cX7_acted 13 = .ok (.getfield 26, 3) := by decide +kernel
theorem dX7_acted_16 : decode cX7_acted 16 = .ok (.iconst 4, 1) := by decide +kernel
theorem dX7_acted_17 : decode cX7_acted 17 = .ok (.if_icmp .ne 44, 3) := by decide +kernel
theorem dX7_acted_20 : decode cX7_acted 20 = .ok (.iconst 0, 1) := by decide +kernel
theorem dX7_acted_21 : decode cX7_acted 21 = .ok (.istore_n 2, 1) := by decide +kernel
theorem dX7_acted_22 : decode cX7_acted 22 = .ok (.iload_n 2, 1) := by decide +kernel
theorem dX7_acted_23 : decode cX7_acted 23 = .ok (.sipush 423, 3) := by decide +kernel
theorem dX7_acted_26 : decode cX7_acted 26 = .ok (.if_icmp .ge 25, 3) := by decide +kernel
theorem dX7_acted_29 : decode cX7_acted 29 = .ok (.aload_n 0, 1) := by decide +kernel
theorem dX7_acted_30 : decode cX7_acted 30 = .ok (.getfield 16, 3) := by decide +kernel
theorem dX7_acted_33 : decode cX7_acted 33 = .ok (.iload_n 2, 1) := by decide +kernel
theorem dX7_acted_34 : decode cX7_acted 34 = .ok (.aload_n 0, 1) := by decide +kernel
theorem dX7_acted_35 : decode cX7_acted 35 = .ok (.getfield 16, 3) := by decide +kernel
