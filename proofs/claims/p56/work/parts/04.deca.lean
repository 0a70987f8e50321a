theorem dX0_init_0 : decode cX0_init 0 = .ok (.aload_n 0, 1) := by decide +kernel
theorem dX0_init_1 : decode cX0_init 1 = .ok (.invokespecial 3, 3) := by decide +kernel
theorem dX0_init_4 : decode cX0_init 4 = .ok (.aload_n 0, 1) := by decide +kernel
theorem dX0_init_5 : decode cX0_init 5 = .ok (.new 9, 3) := by decide +kernel
theorem dX0_init_8 : decode cX0_init 8 = .ok (.dup, 1) := by decide +kernel
theorem dX0_init_9 : decode cX0_init 9 = .ok (.invokespecial 11, 3) := by decide +kernel
theorem dX0_init_12 : decode cX0_init 12 = .ok (.putfield 12, 3) := by decide +kernel
theorem dX0_init_15 : decode cX0_init 15 = .ok (.aload_n 0, 1) := by decide +kernel
theorem dX0_init_16 : decode cX0_init 16 = .ok (.new 18, 3) := by decide +kernel
theorem dX0_init_19 : decode cX0_init 19 = .ok (.dup, 1) := by decide +kernel
theorem dX0_init_20 : decode cX0_init 20 = .ok (.invokespecial 20, 3) := by decide +kernel
theorem dX0_init_23 : decode cX0_init 23 = .ok (.putfield 21, 3) := by decide +kernel
theorem dX0_init_26 : decode cX0_init 26 = .ok (.aload_n 0, 1) := by decide +kernel
theorem dX0_init_27 : decode cX0_init 27 = .ok (.new 25, 3) := by decide +kernel
theorem dX0_init_30 : decode cX0_init 30 = .ok (.dup, 1) := by decide +kernel
theorem dX0_init_31 : decode cX0_init 31 = .ok (.invokespecial 27, 3) := by decide +kernel
theorem dX0_init_34 : decode cX0_init 34 = .ok (.putfield 28, 3) := by decide +kernel
theorem dX0_init_37 : decode cX0_init 37 = .ok (.aload_n 0, 1) := by decide +kernel
theorem dX0_init_38 : decode cX0_init 38 = .ok (.new 32, 3) := by decide +kernel
theorem dX0_init_41 : decode cX0_init 41 = .ok (.dup, 1) := by decide +kernel
theorem dX0_init_42 : decode cX0_init 42 = .ok (.invokespecial 34, 3) := by decide +kernel
theorem dX0_init_45 : decode cX0_init 45 = .ok (.putfield 35, 3) := by decide +kernel
theorem dX0_init_48 : decode cX0_init 48 = .ok (.return_, 1) := by decide +kernel
theorem dX0_copyFrom_0 : decode cX0_copyFrom 0 = .ok (.aload_n 0, 1) := by decide +kernel
theorem dX0_copyFrom_1 : decode cX0_copyFrom 1 = .ok (.getfield 12, 3) := by decide +kernel
theorem dX0_copyFrom_4 : decode cX0_copyFrom 4 = .ok (.aload_n 1, 1) := by decide +kernel
theorem dX0_copyFrom_5 : decode cX0_copyFrom 5 = .ok (.getfield 12, 3) := by decide +kernel
theorem dX0_copyFrom_8 : decode cX0_copyFrom 8 = .ok (.invokevirtual 39, 3) := by decide +kernel
theorem dX0_copyFrom_11 : decode cX0_copyFrom 11 = .ok (.aload_n 0, 1) := by decide +kernel
theorem dX0_copyFrom_12 : decode cX0_copyFrom 12 = .ok (.getfield 21, 3) := by decide +kernel
theorem dX0_copyFrom_15 : decode cX0_copyFrom 15 = .ok (.aload_n 1, 1) := by decide +kernel
theorem dX0_copyFrom_16 : decode cX0_copyFrom 16 = .ok (.getfield 21, 3) := by decide +kernel
theorem dX0_copyFrom_19 : decode cX0_copyFrom 19 = .ok (.invokevirtual 43, 3) := by decide +kernel
theorem dX0_copyFrom_22 : decode cX0_copyFrom 22 = .ok (.aload_n 0, 1) := by decide +kernel
theorem dX0_copyFrom_23 : decode cX0_copyFrom 23 = .ok (.getfield 28, 3) := by decide +kernel
theorem dX0_copyFrom_26 : decode cX0_copyFrom 26 = .ok (.aload_n 1, 1) := by decide +kernel
theorem dX0_copyFrom_27 : decode cX0_copyFrom 27 = .ok (.getfield 28, 3) := by decide +kernel
theorem dX0_copyFrom_30 : decode cX0_copyFrom 30 = .ok (.invokevirtual 46, 3) := by decide +kernel
theorem dX0_copyFrom_33 : decode cX0_copyFrom 33 = .ok (.aload_n 0, 1) := by decide +kernel
theorem dX0_copyFrom_34 : decode cX0_copyFrom 34 = .ok (.getfield 35, 3) := by decide +kernel
theorem dX0_copyFrom_37 : decode cX0_copyFrom 37 = .ok (.aload_n 1, 1) := by decide +kernel
theorem dX0_copyFrom_38 : decode cX0_copyFrom 38 = .ok (.getfield 35, 3) := by decide +kernel
theorem dX0_copyFrom_41 : decode cX0_copyFrom 41 = .ok (.invokevirtual 49, 3) := by decide +kernel
theorem dX0_copyFrom_44 : decode cX0_copyFrom 44 = .ok (.return_, 1) := by decide +kernel
theorem dX0_detailOf_0 : decode cX0_detailOf 0 = .ok (.iload_n 1, 1) := by decide +kernel
theorem dX0_detailOf_1 : decode cX0_detailOf 1 = .ok (.tableswitch 55 2 5 #[31, 39, 39, 47], 31) := by decide +kernel
theorem dX0_detailOf_32 : decode cX0_detailOf 32 = .ok (.aload_n 0, 1) := by decide +kernel
theorem dX0_detailOf_33 : decode cX0_detailOf 33 = .ok (.getfield 12, 3) := by decide +kernel
theorem dX0_detailOf_36 : decode cX0_detailOf 36 = .ok (.getfield 52, 3) := by decide +kernel
theorem dX0_detailOf_39 : decode cX0_detailOf 39 = .ok (.ireturn, 1) := by decide +kernel
theorem dX0_detailOf_40 : decode cX0_detailOf 40 = .ok (.aload_n 0, 1) := by decide +kernel
theorem dX0_detailOf_41 : decode cX0_detailOf 41 = .ok (.getfield 12, 3) := by decide +kernel
theorem dX0_detailOf_44 : decode cX0_detailOf 44 = .ok (.getfield 56, 3) := by decide +kernel
theorem dX0_detailOf_47 : decode cX0_detailOf 47 = .ok (.ireturn, 1) := by decide +kernel
theorem dX0_detailOf_48 : decode cX0_detailOf 48 = .ok (.aload_n 0, 1) := by decide +kernel
theorem dX0_detailOf_49 : decode cX0_detailOf 49 = .ok (.getfield 21, 3) := by decide +kernel
theorem dX0_detailOf_52 : decode cX0_detailOf 52 = .ok (.getfield 59, 3) := by decide +kernel
theorem dX0_detailOf_55 : decode cX0_detailOf 55 = .ok (.ireturn, 1) := by decide +kernel
theorem dX0_detailOf_56 : decode cX0_detailOf 56 = .ok (.iload_n 2, 1) := by decide +kernel
theorem dX0_detailOf_57 : decode cX0_detailOf 57 = .ok (.ireturn, 1) := by decide +kernel
theorem dX0_judgePhase_0 : decode cX0_judgePhase 0 = .ok (.iload_n 1, 1) := by decide +kernel
theorem dX0_judgePhase_1 : decode cX0_judgePhase 1 = .ok (.invokestatic 62, 3) := by decide +kernel
theorem dX0_judgePhase_4 : decode cX0_judgePhase 4 = .ok (.ifCond .eq 22, 3) := by decide +kernel
theorem dX0_judgePhase_7 : decode cX0_judgePhase 7 = .ok (.iload_n 2, 1) := by decide +kernel
theorem dX0_judgePhase_8 : decode cX0_judgePhase 8 = .ok (.iconst 1, 1) := by decide +kernel
theorem dX0_judgePhase_9 : decode cX0_judgePhase 9 = .ok (.bipush 30, 2) := by decide +kernel
theorem dX0_judgePhase_11 : decode cX0_judgePhase 11 = .ok (.invokestatic 66, 3) := by decide +kernel
theorem dX0_judgePhase_14 : decode cX0_judgePhase 14 = .ok (.ifCond .eq 12, 3) := by decide +kernel
theorem dX0_judgePhase_17 : decode cX0_judgePhase 17 = .ok (.iload_n 3, 1) := by decide +kernel
theorem dX0_judgePhase_18 : decode cX0_judgePhase 18 = .ok (.iconst 1, 1) := by decide +kernel
theorem dX0_judgePhase_19 : decode cX0_judgePhase 19 = .ok (.iconst 5, 1) := by decide +kernel
theorem dX0_judgePhase_20 : decode cX0_judgePhase 20 = .ok (.invokestatic 66, 3) := by decide +kernel
theorem dX0_judgePhase_23 : decode cX0_judgePhase 23 = .ok (.ifCond .ne 6, 3) := by decide +kernel
theorem dX0_judgePhase_26 : decode cX0_judgePhase 26 = .ok (.bipush 8, 2) := by decide +kernel
theorem dX0_judgePhase_28 : decode cX0_judgePhase 28 = .ok (.ireturn, 1) := by decide +kernel
theorem dX0_judgePhase_29 : decode cX0_judgePhase 29 = .ok (.aload_n 0, 1) := by decide +kernel
theorem dX0_judgePhase_30 : decode cX0_judgePhase 30 = .ok (.getfield 12, 3) := by decide +kernel
theorem dX0_judgePhase_33 : decode cX0_judgePhase 33 = .ok (.invokevirtual 70, 3) := by decide +kernel
theorem dX0_judgePhase_36 : decode cX0_judgePhase 36 = .ok (.ifCond .eq 5, 3) := by decide +kernel
theorem dX0_judgePhase_39 : decode cX0_judgePhase 39 = .ok (.iconst 2, 1) := by decide +kernel
theorem dX0_judgePhase_40 : decode cX0_judgePhase 40 = .ok (.ireturn, 1) := by decide +kernel
theorem dX0_judgePhase_41 : decode cX0_judgePhase 41 = .ok (.aload_n 0, 1) := by decide +kernel
theorem dX0_judgePhase_42 : decode cX0_judgePhase 42 = .ok (.getfield 12, 3) := by decide +kernel
theorem dX0_judgePhase_45 : decode cX0_judgePhase 45 = .ok (.getfield 74, 3) := by decide +kernel
theorem dX0_judgePhase_48 : decode cX0_judgePhase 48 = .ok (.bipush 8, 2) := by decide +kernel
theorem dX0_judgePhase_50 : decode cX0_judgePhase 50 = .ok (.if_icmp .ge 7, 3) := by decide +kernel
theorem dX0_judgePhase_53 : decode cX0_judgePhase 53 = .ok (.iconst 0, 1) := by decide +kernel
theorem dX0_judgePhase_54 : decode cX0_judgePhase 54 = .ok (.goto 4, 3) := by decide +kernel
theorem dX0_judgePhase_57 : decode cX0_judgePhase 57 = .ok (.iconst 1, 1) := by decide +kernel
theorem dX0_judgePhase_58 : decode cX0_judgePhase 58 = .ok (.ireturn, 1) := by decide +kernel
theorem dX0_appendPhase_0 : decode cX0_appendPhase 0 = .ok (.aload_n 0, 1) := by decide +kernel
theorem dX0_appendPhase_1 : decode cX0_appendPhase 1 = .ok (.getfield 12, 3) := by decide +kernel
theorem dX0_appendPhase_4 : decode cX0_appendPhase 4 = .ok (.iload_n 1, 1) := by decide +kernel
theorem dX0_appendPhase_5 : decode cX0_appendPhase 5 = .ok (.iload_n 2, 1) := by decide +kernel
theorem dX0_appendPhase_6 : decode cX0_appendPhase 6 = .ok (.iload_n 3, 1) := by decide +kernel
theorem dX0_appendPhase_7 : decode cX0_appendPhase 7 = .ok (.invokevirtual 77, 3) := by decide +kernel
theorem dX0_appendPhase_10 : decode cX0_appendPhase 10 = .ok (.aload_n 0, 1) := by decide +kernel
theorem dX0_appendPhase_11 : decode cX0_appendPhase 11 = .ok (.getfield 12, 3) := by decide +kernel
theorem dX0_appendPhase_14 : decode cX0_appendPhase 14 = .ok (.getfield 74, 3) := by decide +kernel
theorem dX0_appendPhase_17 : decode cX0_appendPhase 17 = .ok (.iconst 1, 1) := by decide +kernel
theorem dX0_appendPhase_18 : decode cX0_appendPhase 18 = .ok (.isub, 1) := by decide +kernel
theorem dX0_appendPhase_19 : decode cX0_appendPhase 19 = .ok (.ireturn, 1) := by decide +kernel
theorem dX0_judgeCut_0 : decode cX0_judgeCut 0 = .ok (.aload_n 0, 1) := by decide +kernel
theorem dX0_judgeCut_1 : decode cX0_judgeCut 1 = .ok (.getfield 12, 3) := by decide +kernel
theorem dX0_judgeCut_4 : decode cX0_judgeCut 4 = .ok (.iload_n 1, 1) := by decide +kernel
theorem dX0_judgeCut_5 : decode cX0_judgeCut 5 = .ok (.invokevirtual 81, 3) := by decide +kernel
theorem dX0_judgeCut_8 : decode cX0_judgeCut 8 = .ok (.ifCond .ne 6, 3) := by decide +kernel
theorem dX0_judgeCut_11 : decode cX0_judgeCut 11 = .ok (.bipush 8, 2) := by decide +kernel
theorem dX0_judgeCut_13 : decode cX0_judgeCut 13 = .ok (.ireturn, 1) := by decide +kernel
theorem dX0_judgeCut_14 : decode cX0_judgeCut 14 = .ok (.aload_n 0, 1) := by decide +kernel
theorem dX0_judgeCut_15 : decode cX0_judgeCut 15 = .ok (.getfield 12, 3) := by decide +kernel
theorem dX0_judgeCut_18 : decode cX0_judgeCut 18 = .ok (.invokevirtual 70, 3) := by decide +kernel
theorem dX0_judgeCut_21 : decode cX0_judgeCut 21 = .ok (.ifCond .eq 7, 3) := by decide +kernel
theorem dX0_judgeCut_24 : decode cX0_judgeCut 24 = .ok (.iconst 2, 1) := by decide +kernel
theorem dX0_judgeCut_25 : decode cX0_judgeCut 25 = .ok (.goto 4, 3) := by decide +kernel
theorem dX0_judgeCut_28 : decode cX0_judgeCut 28 = .ok (.iconst 0, 1) := by decide +kernel
theorem dX0_judgeCut_29 : decode cX0_judgeCut 29 = .ok (.ireturn, 1) := by decide +kernel
theorem dX0_cutPhase_0 : decode cX0_cutPhase 0 = .ok (.aload_n 0, 1) := by decide +kernel
theorem dX0_cutPhase_1 : decode cX0_cutPhase 1 = .ok (.getfield 12, 3) := by decide +kernel
theorem dX0_cutPhase_4 : decode cX0_cutPhase 4 = .ok (.iload_n 1, 1) := by decide +kernel
theorem dX0_cutPhase_5 : decode cX0_cutPhase 5 = .ok (.invokevirtual 85, 3) := by decide +kernel
theorem dX0_cutPhase_8 : decode cX0_cutPhase 8 = .ok (.aload_n 0, 1) := by decide +kernel
theorem dX0_cutPhase_9 : decode cX0_cutPhase 9 = .ok (.getfield 12, 3) := by decide +kernel
theorem dX0_cutPhase_12 : decode cX0_cutPhase 12 = .ok (.getfield 74, 3) := by decide +kernel
theorem dX0_cutPhase_15 : decode cX0_cutPhase 15 = .ok (.ireturn, 1) := by decide +kernel
theorem dX0_judgeStart_0 : decode cX0_judgeStart 0 = .ok (.aload_n 0, 1) := by decide +kernel
theorem dX0_judgeStart_1 : decode cX0_judgeStart 1 = .ok (.getfield 12, 3) := by decide +kernel
theorem dX0_judgeStart_4 : decode cX0_judgeStart 4 = .ok (.invokevirtual 70, 3) := by decide +kernel
theorem dX0_judgeStart_7 : decode cX0_judgeStart 7 = .ok (.ifCond .eq 5, 3) := by decide +kernel
theorem dX0_judgeStart_10 : decode cX0_judgeStart 10 = .ok (.iconst 2, 1) := by decide +kernel
theorem dX0_judgeStart_11 : decode cX0_judgeStart 11 = .ok (.ireturn, 1) := by decide +kernel
theorem dX0_judgeStart_12 : decode cX0_judgeStart 12 = .ok (.aload_n 0, 1) := by decide +kernel
theorem dX0_judgeStart_13 : decode cX0_judgeStart 13 = .ok (.getfield 12, 3) := by decide +kernel
theorem dX0_judgeStart_16 : decode cX0_judgeStart 16 = .ok (.getfield 74, 3) := by decide +kernel
theorem dX0_judgeStart_19 : decode cX0_judgeStart 19 = .ok (.ifCond .ne 7, 3) := by decide +kernel
theorem dX0_judgeStart_22 : decode cX0_judgeStart 22 = .ok (.iconst 4, 1) := by decide +kernel
theorem dX0_judgeStart_23 : decode cX0_judgeStart 23 = .ok (.goto 4, 3) := by decide +kernel
theorem dX0_judgeStart_26 : decode cX0_judgeStart 26 = .ok (.iconst 0, 1) := by decide +kernel
theorem dX0_judgeStart_27 : decode cX0_judgeStart 27 = .ok (.ireturn, 1) := by decide +kernel
theorem dX0_startCycle_0 : decode cX0_startCycle 0 = .ok (.aload_n 0, 1) := by decide +kernel
theorem dX0_startCycle_1 : decode cX0_startCycle 1 = .ok (.getfield 12, 3) := by decide +kernel
theorem dX0_startCycle_4 : decode cX0_startCycle 4 = .ok (.invokevirtual 89, 3) := by decide +kernel
theorem dX0_startCycle_7 : decode cX0_startCycle 7 = .ok (.aload_n 0, 1) := by decide +kernel
theorem dX0_startCycle_8 : decode cX0_startCycle 8 = .ok (.getfield 12, 3) := by decide +kernel
theorem dX0_startCycle_11 : decode cX0_startCycle 11 = .ok (.invokevirtual 92, 3) := by decide +kernel
theorem dX0_startCycle_14 : decode cX0_startCycle 14 = .ok (.ireturn, 1) := by decide +kernel
theorem dX0_judgeStop_0 : decode cX0_judgeStop 0 = .ok (.aload_n 0, 1) := by decide +kernel
theorem dX0_judgeStop_1 : decode cX0_judgeStop 1 = .ok (.getfield 12, 3) := by decide +kernel
theorem dX0_judgeStop_4 : decode cX0_judgeStop 4 = .ok (.invokevirtual 70, 3) := by decide +kernel
theorem dX0_judgeStop_7 : decode cX0_judgeStop 7 = .ok (.ifCond .eq 7, 3) := by decide +kernel
theorem dX0_judgeStop_10 : decode cX0_judgeStop 10 = .ok (.iconst 0, 1) := by decide +kernel
theorem dX0_judgeStop_11 : decode cX0_judgeStop 11 = .ok (.goto 4, 3) := by decide +kernel
theorem dX0_judgeStop_14 : decode cX0_judgeStop 14 = .ok (.iconst 3, 1) := by decide +kernel
theorem dX0_judgeStop_15 : decode cX0_judgeStop 15 = .ok (.ireturn, 1) := by decide +kernel
theorem dX0_stopCycle_0 : decode cX0_stopCycle 0 = .ok (.aload_n 0, 1) := by decide +kernel
theorem dX0_stopCycle_1 : decode cX0_stopCycle 1 = .ok (.getfield 12, 3) := by decide +kernel
theorem dX0_stopCycle_4 : decode cX0_stopCycle 4 = .ok (.invokevirtual 92, 3) := by decide +kernel
theorem dX0_stopCycle_7 : decode cX0_stopCycle 7 = .ok (.istore_n 1, 1) := by decide +kernel
theorem dX0_stopCycle_8 : decode cX0_stopCycle 8 = .ok (.aload_n 0, 1) := by decide +kernel
theorem dX0_stopCycle_9 : decode cX0_stopCycle 9 = .ok (.getfield 12, 3) := by decide +kernel
theorem dX0_stopCycle_12 : decode cX0_stopCycle 12 = .ok (.invokevirtual 96, 3) := by decide +kernel
theorem dX0_stopCycle_15 : decode cX0_stopCycle 15 = .ok (.iload_n 1, 1) := by decide +kernel
theorem dX0_stopCycle_16 : decode cX0_stopCycle 16 = .ok (.ireturn, 1) := by decide +kernel
theorem dX0_judgeRun_0 : decode cX0_judgeRun 0 = .ok (.iload_n 1, 1) := by decide +kernel
theorem dX0_judgeRun_1 : decode cX0_judgeRun 1 = .ok (.iconst 1, 1) := by decide +kernel
theorem dX0_judgeRun_2 : decode cX0_judgeRun 2 = .ok (.sipush 240, 3) := by decide +kernel
theorem dX0_judgeRun_5 : decode cX0_judgeRun 5 = .ok (.invokestatic 66, 3) := by decide +kernel
theorem dX0_judgeRun_8 : decode cX0_judgeRun 8 = .ok (.ifCond .eq 7, 3) := by decide +kernel
theorem dX0_judgeRun_11 : decode cX0_judgeRun 11 = .ok (.iconst 0, 1) := by decide +kernel
theorem dX0_judgeRun_12 : decode cX0_judgeRun 12 = .ok (.goto 5, 3) := by decide +kernel
theorem dX0_judgeRun_15 : decode cX0_judgeRun 15 = .ok (.bipush 8, 2) := by decide +kernel
theorem dX0_judgeRun_17 : decode cX0_judgeRun 17 = .ok (.ireturn, 1) := by decide +kernel
theorem dX0_passMinutes_0 : decode cX0_passMinutes 0 = .ok (.iconst 0, 1) := by decide +kernel
theorem dX0_passMinutes_1 : decode cX0_passMinutes 1 = .ok (.istore_n 2, 1) := by decide +kernel
theorem dX0_passMinutes_2 : decode cX0_passMinutes 2 = .ok (.iconst 0, 1) := by decide +kernel
theorem dX0_passMinutes_3 : decode cX0_passMinutes 3 = .ok (.istore_n 3, 1) := by decide +kernel
theorem dX0_passMinutes_4 : decode cX0_passMinutes 4 = .ok (.iload_n 3, 1) := by decide +kernel
theorem dX0_passMinutes_5 : decode cX0_passMinutes 5 = .ok (.iload_n 1, 1) := by decide +kernel
theorem dX0_passMinutes_6 : decode cX0_passMinutes 6 = .ok (.if_icmp .ge 26, 3) := by decide +kernel
theorem dX0_passMinutes_9 : decode cX0_passMinutes 9 = .ok (.aload_n 0, 1) := by decide +kernel
theorem dX0_passMinutes_10 : decode cX0_passMinutes 10 = .ok (.getfield 12, 3) := by decide +kernel
theorem dX0_passMinutes_13 : decode cX0_passMinutes 13 = .ok (.invokevirtual 70, 3) := by decide +kernel
theorem dX0_passMinutes_16 : decode cX0_passMinutes 16 = .ok (.ifCond .eq 6, 3) := by decide +kernel
theorem dX0_passMinutes_19 : decode cX0_passMinutes 19 = .ok (.iinc 2 1, 3) := by decide +kernel
theorem dX0_passMinutes_22 : decode cX0_passMinutes 22 = .ok (.aload_n 0, 1) := by decide +kernel
theorem dX0_passMinutes_23 : decode cX0_passMinutes 23 = .ok (.invokevirtual 99, 3) := by decide +kernel
theorem dX0_passMinutes_26 : decode cX0_passMinutes 26 = .ok (.iinc 3 1, 3) := by decide +kernel
theorem dX0_passMinutes_29 : decode cX0_passMinutes 29 = .ok (.goto (-25), 3) := by decide +kernel
theorem dX0_passMinutes_32 : decode cX0_passMinutes 32 = .ok (.iload_n 2, 1) := by decide +kernel
theorem dX0_passMinutes_33 : decode cX0_passMinutes 33 = .ok (.ireturn, 1) := by decide +kernel
theorem dX0_passMinute_0 : decode cX0_passMinute 0 = .ok (.aload_n 0, 1) := by decide +kernel
theorem dX0_passMinute_1 : decode cX0_passMinute 1 = .ok (.getfield 12, 3) := by decide +kernel
theorem dX0_passMinute_4 : decode cX0_passMinute 4 = .ok (.invokevirtual 70, 3) := by decide +kernel
theorem dX0_passMinute_7 : decode cX0_passMinute 7 = .ok (.ifCond .eq 43, 3) := by decide +kernel
theorem dX0_passMinute_10 : decode cX0_passMinute 10 = .ok (.aload_n 0, 1) := by decide +kernel
theorem dX0_passMinute_11 : decode cX0_passMinute 11 = .ok (.getfield 12, 3) := by decide +kernel
theorem dX0_passMinute_14 : decode cX0_passMinute 14 = .ok (.getfield 52, 3) := by decide +kernel
theorem dX0_passMinute_17 : decode cX0_passMinute 17 = .ok (.istore_n 1, 1) := by decide +kernel
theorem dX0_passMinute_18 : decode cX0_passMinute 18 = .ok (.aload_n 0, 1) := by decide +kernel
theorem dX0_passMinute_19 : decode cX0_passMinute 19 = .ok (.getfield 21, 3) := by decide +kernel
theorem dX0_passMinute_22 : decode cX0_passMinute 22 = .ok (.aload_n 0, 1) := by decide +kernel
theorem dX0_passMinute_23 : decode cX0_passMinute 23 = .ok (.getfield 12, 3) := by decide +kernel
theorem dX0_passMinute_26 : decode cX0_passMinute 26 = .ok (.getfield 102, 3) := by decide +kernel
theorem dX0_passMinute_29 : decode cX0_passMinute 29 = .ok (.iload_n 1, 1) := by decide +kernel
theorem dX0_passMinute_30 : decode cX0_passMinute 30 = .ok (.caload, 1) := by decide +kernel
theorem dX0_passMinute_31 : decode cX0_passMinute 31 = .ok (.aload_n 0, 1) := by decide +kernel
theorem dX0_passMinute_32 : decode cX0_passMinute 32 = .ok (.getfield 12, 3) := by decide +kernel
theorem dX0_passMinute_35 : decode cX0_passMinute 35 = .ok (.getfield 106, 3) := by decide +kernel
theorem dX0_passMinute_38 : decode cX0_passMinute 38 = .ok (.iload_n 1, 1) := by decide +kernel
theorem dX0_passMinute_39 : decode cX0_passMinute 39 = .ok (.iaload, 1) := by decide +kernel
theorem dX0_passMinute_40 : decode cX0_passMinute 40 = .ok (.invokevirtual 110, 3) := by decide +kernel
theorem dX0_passMinute_43 : decode cX0_passMinute 43 = .ok (.aload_n 0, 1) := by decide +kernel
theorem dX0_passMinute_44 : decode cX0_passMinute 44 = .ok (.getfield 12, 3) := by decide +kernel
theorem dX0_passMinute_47 : decode cX0_passMinute 47 = .ok (.invokevirtual 114, 3) := by decide +kernel
theorem dX0_passMinute_50 : decode cX0_passMinute 50 = .ok (.aload_n 0, 1) := by decide +kernel
theorem dX0_passMinute_51 : decode cX0_passMinute 51 = .ok (.getfield 28, 3) := by decide +kernel
theorem dX0_passMinute_54 : decode cX0_passMinute 54 = .ok (.invokevirtual 117, 3) := by decide +kernel
theorem dX0_passMinute_57 : decode cX0_passMinute 57 = .ok (.aload_n 0, 1) := by decide +kernel
theorem dX0_passMinute_58 : decode cX0_passMinute 58 = .ok (.getfield 35, 3) := by decide +kernel
theorem dX0_passMinute_61 : decode cX0_passMinute 61 = .ok (.dup, 1) := by decide +kernel
theorem dX0_passMinute_62 : decode cX0_passMinute 62 = .ok (.getfield 120, 3) := by decide +kernel
theorem dX0_passMinute_65 : decode cX0_passMinute 65 = .ok (.iconst 1, 1) := by decide +kernel
theorem dX0_passMinute_66 : decode cX0_passMinute 66 = .ok (.iadd, 1) := by decide +kernel
theorem dX0_passMinute_67 : decode cX0_passMinute 67 = .ok (.putfield 120, 3) := by decide +kernel
theorem dX0_passMinute_70 : decode cX0_passMinute 70 = .ok (.return_, 1) := by decide +kernel
theorem dX0_judgeLoad_0 : decode cX0_judgeLoad 0 = .ok (.iload_n 1, 1) := by decide +kernel
theorem dX0_judgeLoad_1 : decode cX0_judgeLoad 1 = .ok (.iconst 1, 1) := by decide +kernel
theorem dX0_judgeLoad_2 : decode cX0_judgeLoad 2 = .ok (.bipush 100, 2) := by decide +kernel
theorem dX0_judgeLoad_4 : decode cX0_judgeLoad 4 = .ok (.invokestatic 66, 3) := by decide +kernel
theorem dX0_judgeLoad_7 : decode cX0_judgeLoad 7 = .ok (.ifCond .ne 6, 3) := by decide +kernel
theorem dX0_judgeLoad_10 : decode cX0_judgeLoad 10 = .ok (.bipush 8, 2) := by decide +kernel
theorem dX0_judgeLoad_12 : decode cX0_judgeLoad 12 = .ok (.ireturn, 1) := by decide +kernel
theorem dX0_judgeLoad_13 : decode cX0_judgeLoad 13 = .ok (.aload_n 0, 1) := by decide +kernel
theorem dX0_judgeLoad_14 : decode cX0_judgeLoad 14 = .ok (.getfield 21, 3) := by decide +kernel
theorem dX0_judgeLoad_17 : decode cX0_judgeLoad 17 = .ok (.getfield 59, 3) := by decide +kernel
theorem dX0_judgeLoad_20 : decode cX0_judgeLoad 20 = .ok (.iload_n 1, 1) := by decide +kernel
theorem dX0_judgeLoad_21 : decode cX0_judgeLoad 21 = .ok (.iadd, 1) := by decide +kernel
theorem dX0_judgeLoad_22 : decode cX0_judgeLoad 22 = .ok (.bipush 100, 2) := by decide +kernel
theorem dX0_judgeLoad_24 : decode cX0_judgeLoad 24 = .ok (.if_icmp .le 7, 3) := by decide +kernel
theorem dX0_judgeLoad_27 : decode cX0_judgeLoad 27 = .ok (.iconst 1, 1) := by decide +kernel
theorem dX0_judgeLoad_28 : decode cX0_judgeLoad 28 = .ok (.goto 4, 3) := by decide +kernel
theorem dX0_judgeLoad_31 : decode cX0_judgeLoad 31 = .ok (.iconst 0, 1) := by decide +kernel
theorem dX0_judgeLoad_32 : decode cX0_judgeLoad 32 = .ok (.ireturn, 1) := by decide +kernel
theorem dX0_loadRock_0 : decode cX0_loadRock 0 = .ok (.aload_n 0, 1) := by decide +kernel
theorem dX0_loadRock_1 : decode cX0_loadRock 1 = .ok (.getfield 21, 3) := by decide +kernel
theorem dX0_loadRock_4 : decode cX0_loadRock 4 = .ok (.iload_n 1, 1) := by decide +kernel
theorem dX0_loadRock_5 : decode cX0_loadRock 5 = .ok (.invokevirtual 123, 3) := by decide +kernel
theorem dX0_loadRock_8 : decode cX0_loadRock 8 = .ok (.aload_n 0, 1) := by decide +kernel
theorem dX0_loadRock_9 : decode cX0_loadRock 9 = .ok (.getfield 35, 3) := by decide +kernel
theorem dX0_loadRock_12 : decode cX0_loadRock 12 = .ok (.dup, 1) := by decide +kernel
theorem dX0_loadRock_13 : decode cX0_loadRock 13 = .ok (.getfield 126, 3) := by decide +kernel
theorem dX0_loadRock_16 : decode cX0_loadRock 16 = .ok (.iload_n 1, 1) := by decide +kernel
theorem dX0_loadRock_17 : decode cX0_loadRock 17 = .ok (.iadd, 1) := by decide +kernel
theorem dX0_loadRock_18 : decode cX0_loadRock 18 = .ok (.putfield 126, 3) := by decide +kernel
theorem dX0_loadRock_21 : decode cX0_loadRock 21 = .ok (.aload_n 0, 1) := by decide +kernel
theorem dX0_loadRock_22 : decode cX0_loadRock 22 = .ok (.getfield 21, 3) := by decide +kernel
theorem dX0_loadRock_25 : decode cX0_loadRock 25 = .ok (.getfield 129, 3) := by decide +kernel
theorem dX0_loadRock_28 : decode cX0_loadRock 28 = .ok (.ireturn, 1) := by decide +kernel
theorem dX0_judgePress_0 : decode cX0_judgePress 0 = .ok (.iload_n 1, 1) := by decide +kernel
theorem dX0_judgePress_1 : decode cX0_judgePress 1 = .ok (.iconst 1, 1) := by decide +kernel
theorem dX0_judgePress_2 : decode cX0_judgePress 2 = .ok (.bipush 20, 2) := by decide +kernel
theorem dX0_judgePress_4 : decode cX0_judgePress 4 = .ok (.invokestatic 66, 3) := by decide +kernel
theorem dX0_judgePress_7 : decode cX0_judgePress 7 = .ok (.ifCond .ne 6, 3) := by decide +kernel
theorem dX0_judgePress_10 : decode cX0_judgePress 10 = .ok (.bipush 8, 2) := by decide +kernel
theorem dX0_judgePress_12 : decode cX0_judgePress 12 = .ok (.ireturn, 1) := by decide +kernel
theorem dX0_judgePress_13 : decode cX0_judgePress 13 = .ok (.aload_n 0, 1) := by decide +kernel
theorem dX0_judgePress_14 : decode cX0_judgePress 14 = .ok (.getfield 21, 3) := by decide +kernel
theorem dX0_judgePress_17 : decode cX0_judgePress 17 = .ok (.getfield 59, 3) := by decide +kernel
theorem dX0_judgePress_20 : decode cX0_judgePress 20 = .ok (.iload_n 1, 1) := by decide +kernel
theorem dX0_judgePress_21 : decode cX0_judgePress 21 = .ok (.if_icmp .ge 5, 3) := by decide +kernel
theorem dX0_judgePress_24 : decode cX0_judgePress 24 = .ok (.iconst 5, 1) := by decide +kernel
theorem dX0_judgePress_25 : decode cX0_judgePress 25 = .ok (.ireturn, 1) := by decide +kernel
theorem dX0_judgePress_26 : decode cX0_judgePress 26 = .ok (.aload_n 0, 1) := by decide +kernel
theorem dX0_judgePress_27 : decode cX0_judgePress 27 = .ok (.getfield 28, 3) := by decide +kernel
theorem dX0_judgePress_30 : decode cX0_judgePress 30 = .ok (.getfield 132, 3) := by decide +kernel
theorem dX0_judgePress_33 : decode cX0_judgePress 33 = .ok (.bipush 12, 2) := by decide +kernel
theorem dX0_judgePress_35 : decode cX0_judgePress 35 = .ok (.if_icmp .ge 7, 3) := by decide +kernel
theorem dX0_judgePress_38 : decode cX0_judgePress 38 = .ok (.iconst 0, 1) := by decide +kernel
theorem dX0_judgePress_39 : decode cX0_judgePress 39 = .ok (.goto 4, 3) := by decide +kernel
theorem dX0_judgePress_42 : decode cX0_judgePress 42 = .ok (.iconst 1, 1) := by decide +kernel
theorem dX0_judgePress_43 : decode cX0_judgePress 43 = .ok (.ireturn, 1) := by decide +kernel
theorem dX0_pressPat_0 : decode cX0_pressPat 0 = .ok (.aload_n 0, 1) := by decide +kernel
theorem dX0_pressPat_1 : decode cX0_pressPat 1 = .ok (.getfield 28, 3) := by decide +kernel
theorem dX0_pressPat_4 : decode cX0_pressPat 4 = .ok (.iload_n 1, 1) := by decide +kernel
theorem dX0_pressPat_5 : decode cX0_pressPat 5 = .ok (.aload_n 0, 1) := by decide +kernel
theorem dX0_pressPat_6 : decode cX0_pressPat 6 = .ok (.getfield 21, 3) := by decide +kernel
theorem dX0_pressPat_9 : decode cX0_pressPat 9 = .ok (.getfield 129, 3) := by decide +kernel
theorem dX0_pressPat_12 : decode cX0_pressPat 12 = .ok (.aload_n 0, 1) := by decide +kernel
theorem dX0_pressPat_13 : decode cX0_pressPat 13 = .ok (.getfield 21, 3) := by decide +kernel
theorem dX0_pressPat_16 : decode cX0_pressPat 16 = .ok (.getfield 133, 3) := by decide +kernel
theorem dX0_pressPat_19 : decode cX0_pressPat 19 = .ok (.aload_n 0, 1) := by decide +kernel
theorem dX0_pressPat_20 : decode cX0_pressPat 20 = .ok (.getfield 21, 3) := by decide +kernel
theorem dX0_pressPat_23 : decode cX0_pressPat 23 = .ok (.invokevirtual 136, 3) := by decide +kernel
theorem dX0_pressPat_26 : decode cX0_pressPat 26 = .ok (.invokevirtual 139, 3) := by decide +kernel
theorem dX0_pressPat_29 : decode cX0_pressPat 29 = .ok (.aload_n 0, 1) := by decide +kernel
theorem dX0_pressPat_30 : decode cX0_pressPat 30 = .ok (.getfield 21, 3) := by decide +kernel
theorem dX0_pressPat_33 : decode cX0_pressPat 33 = .ok (.dup, 1) := by decide +kernel
theorem dX0_pressPat_34 : decode cX0_pressPat 34 = .ok (.getfield 59, 3) := by decide +kernel
theorem dX0_pressPat_37 : decode cX0_pressPat 37 = .ok (.iload_n 1, 1) := by decide +kernel
theorem dX0_pressPat_38 : decode cX0_pressPat 38 = .ok (.isub, 1) := by decide +kernel
theorem dX0_pressPat_39 : decode cX0_pressPat 39 = .ok (.putfield 59, 3) := by decide +kernel
theorem dX0_pressPat_42 : decode cX0_pressPat 42 = .ok (.aload_n 0, 1) := by decide +kernel
theorem dX0_pressPat_43 : decode cX0_pressPat 43 = .ok (.getfield 28, 3) := by decide +kernel
theorem dX0_pressPat_46 : decode cX0_pressPat 46 = .ok (.getfield 132, 3) := by decide +kernel
theorem dX0_pressPat_49 : decode cX0_pressPat 49 = .ok (.iconst 1, 1) := by decide +kernel
theorem dX0_pressPat_50 : decode cX0_pressPat 50 = .ok (.isub, 1) := by decide +kernel
theorem dX0_pressPat_51 : decode cX0_pressPat 51 = .ok (.ireturn, 1) := by decide +kernel
theorem dX0_judgeGrading_0 : decode cX0_judgeGrading 0 = .ok (.aload_n 0, 1) := by decide +kernel
theorem dX0_judgeGrading_1 : decode cX0_judgeGrading 1 = .ok (.getfield 28, 3) := by decide +kernel
theorem dX0_judgeGrading_4 : decode cX0_judgeGrading 4 = .ok (.iload_n 1, 1) := by decide +kernel
theorem dX0_judgeGrading_5 : decode cX0_judgeGrading 5 = .ok (.invokevirtual 142, 3) := by decide +kernel
theorem dX0_judgeGrading_8 : decode cX0_judgeGrading 8 = .ok (.ifCond .ne 6, 3) := by decide +kernel
theorem dX0_judgeGrading_11 : decode cX0_judgeGrading 11 = .ok (.bipush 8, 2) := by decide +kernel
theorem dX0_judgeGrading_13 : decode cX0_judgeGrading 13 = .ok (.ireturn, 1) := by decide +kernel
theorem dX0_judgeGrading_14 : decode cX0_judgeGrading 14 = .ok (.aload_n 0, 1) := by decide +kernel
theorem dX0_judgeGrading_15 : decode cX0_judgeGrading 15 = .ok (.getfield 28, 3) := by decide +kernel
theorem dX0_judgeGrading_18 : decode cX0_judgeGrading 18 = .ok (.iload_n 1, 1) := by decide +kernel
theorem dX0_judgeGrading_19 : decode cX0_judgeGrading 19 = .ok (.invokevirtual 143, 3) := by decide +kernel
theorem dX0_judgeGrading_22 : decode cX0_judgeGrading 22 = .ok (.ifCond .eq 7, 3) := by decide +kernel
theorem dX0_judgeGrading_25 : decode cX0_judgeGrading 25 = .ok (.iconst 0, 1) := by decide +kernel
theorem dX0_judgeGrading_26 : decode cX0_judgeGrading 26 = .ok (.goto 5, 3) := by decide +kernel
theorem dX0_judgeGrading_29 : decode cX0_judgeGrading 29 = .ok (.bipush 6, 2) := by decide +kernel
theorem dX0_judgeGrading_31 : decode cX0_judgeGrading 31 = .ok (.ireturn, 1) := by decide +kernel
theorem dX0_takeGrade_0 : decode cX0_takeGrade 0 = .ok (.aload_n 0, 1) := by decide +kernel
theorem dX0_takeGrade_1 : decode cX0_takeGrade 1 = .ok (.getfield 28, 3) := by decide +kernel
theorem dX0_takeGrade_4 : decode cX0_takeGrade 4 = .ok (.iload_n 1, 1) := by decide +kernel
theorem dX0_takeGrade_5 : decode cX0_takeGrade 5 = .ok (.invokevirtual 146, 3) := by decide +kernel
theorem dX0_takeGrade_8 : decode cX0_takeGrade 8 = .ok (.istore_n 2, 1) := by decide +kernel
theorem dX0_takeGrade_9 : decode cX0_takeGrade 9 = .ok (.aload_n 0, 1) := by decide +kernel
theorem dX0_takeGrade_10 : decode cX0_takeGrade 10 = .ok (.getfield 35, 3) := by decide +kernel
theorem dX0_takeGrade_13 : decode cX0_takeGrade 13 = .ok (.iload_n 2, 1) := by decide +kernel
theorem dX0_takeGrade_14 : decode cX0_takeGrade 14 = .ok (.aload_n 0, 1) := by decide +kernel
theorem dX0_takeGrade_15 : decode cX0_takeGrade 15 = .ok (.getfield 28, 3) := by decide +kernel
theorem dX0_takeGrade_18 : decode cX0_takeGrade 18 = .ok (.iload_n 1, 1) := by decide +kernel
theorem dX0_takeGrade_19 : decode cX0_takeGrade 19 = .ok (.invokevirtual 150, 3) := by decide +kernel
theorem dX0_takeGrade_22 : decode cX0_takeGrade 22 = .ok (.invokevirtual 153, 3) := by decide +kernel
theorem dX0_takeGrade_25 : decode cX0_takeGrade 25 = .ok (.aload_n 0, 1) := by decide +kernel
theorem dX0_takeGrade_26 : decode cX0_takeGrade 26 = .ok (.getfield 28, 3) := by decide +kernel
theorem dX0_takeGrade_29 : decode cX0_takeGrade 29 = .ok (.iload_n 1, 1) := by decide +kernel
theorem dX0_takeGrade_30 : decode cX0_takeGrade 30 = .ok (.invokevirtual 156, 3) := by decide +kernel
theorem dX0_takeGrade_33 : decode cX0_takeGrade 33 = .ok (.bipush 97, 2) := by decide +kernel
theorem dX0_takeGrade_35 : decode cX0_takeGrade 35 = .ok (.iload_n 2, 1) := by decide +kernel
theorem dX0_takeGrade_36 : decode cX0_takeGrade 36 = .ok (.iadd, 1) := by decide +kernel
theorem dX0_takeGrade_37 : decode cX0_takeGrade 37 = .ok (.i2c, 1) := by decide +kernel
theorem dX0_takeGrade_38 : decode cX0_takeGrade 38 = .ok (.ireturn, 1) := by decide +kernel
theorem dX0_judgeCrush_0 : decode cX0_judgeCrush 0 = .ok (.aload_n 0, 1) := by decide +kernel
theorem dX0_judgeCrush_1 : decode cX0_judgeCrush 1 = .ok (.getfield 28, 3) := by decide +kernel
theorem dX0_judgeCrush_4 : decode cX0_judgeCrush 4 = .ok (.iload_n 1, 1) := by decide +kernel
theorem dX0_judgeCrush_5 : decode cX0_judgeCrush 5 = .ok (.invokevirtual 142, 3) := by decide +kernel
theorem dX0_judgeCrush_8 : decode cX0_judgeCrush 8 = .ok (.ifCond .ne 6, 3) := by decide +kernel
theorem dX0_judgeCrush_11 : decode cX0_judgeCrush 11 = .ok (.bipush 8, 2) := by decide +kernel
theorem dX0_judgeCrush_13 : decode cX0_judgeCrush 13 = .ok (.ireturn, 1) := by decide +kernel
theorem dX0_judgeCrush_14 : decode cX0_judgeCrush 14 = .ok (.aload_n 0, 1) := by decide +kernel
theorem dX0_judgeCrush_15 : decode cX0_judgeCrush 15 = .ok (.getfield 21, 3) := by decide +kernel
theorem dX0_judgeCrush_18 : decode cX0_judgeCrush 18 = .ok (.getfield 59, 3) := by decide +kernel
theorem dX0_judgeCrush_21 : decode cX0_judgeCrush 21 = .ok (.aload_n 0, 1) := by decide +kernel
theorem dX0_judgeCrush_22 : decode cX0_judgeCrush 22 = .ok (.getfield 28, 3) := by decide +kernel
theorem dX0_judgeCrush_25 : decode cX0_judgeCrush 25 = .ok (.iload_n 1, 1) := by decide +kernel
theorem dX0_judgeCrush_26 : decode cX0_judgeCrush 26 = .ok (.invokevirtual 150, 3) := by decide +kernel
theorem dX0_judgeCrush_29 : decode cX0_judgeCrush 29 = .ok (.iadd, 1) := by decide +kernel
theorem dX0_judgeCrush_30 : decode cX0_judgeCrush 30 = .ok (.bipush 100, 2) := by decide +kernel
theorem dX0_judgeCrush_32 : decode cX0_judgeCrush 32 = .ok (.if_icmp .le 7, 3) := by decide +kernel
theorem dX0_judgeCrush_35 : decode cX0_judgeCrush 35 = .ok (.iconst 1, 1) := by decide +kernel
theorem dX0_judgeCrush_36 : decode cX0_judgeCrush 36 = .ok (.goto 4, 3) := by decide +kernel
theorem dX0_judgeCrush_39 : decode cX0_judgeCrush 39 = .ok (.iconst 0, 1) := by decide +kernel
theorem dX0_judgeCrush_40 : decode cX0_judgeCrush 40 = .ok (.ireturn, 1) := by decide +kernel
theorem dX0_crushPat_0 : decode cX0_crushPat 0 = .ok (.aload_n 0, 1) := by decide +kernel
theorem dX0_crushPat_1 : decode cX0_crushPat 1 = .ok (.getfield 21, 3) := by decide +kernel
theorem dX0_crushPat_4 : decode cX0_crushPat 4 = .ok (.aload_n 0, 1) := by decide +kernel
theorem dX0_crushPat_5 : decode cX0_crushPat 5 = .ok (.getfield 28, 3) := by decide +kernel
theorem dX0_crushPat_8 : decode cX0_crushPat 8 = .ok (.iload_n 1, 1) := by decide +kernel
theorem dX0_crushPat_9 : decode cX0_crushPat 9 = .ok (.invokevirtual 150, 3) := by decide +kernel
theorem dX0_crushPat_12 : decode cX0_crushPat 12 = .ok (.invokevirtual 123, 3) := by decide +kernel
theorem dX0_crushPat_15 : decode cX0_crushPat 15 = .ok (.aload_n 0, 1) := by decide +kernel
theorem dX0_crushPat_16 : decode cX0_crushPat 16 = .ok (.getfield 28, 3) := by decide +kernel
theorem dX0_crushPat_19 : decode cX0_crushPat 19 = .ok (.iload_n 1, 1) := by decide +kernel
theorem dX0_crushPat_20 : decode cX0_crushPat 20 = .ok (.invokevirtual 156, 3) := by decide +kernel
theorem dX0_crushPat_23 : decode cX0_crushPat 23 = .ok (.aload_n 0, 1) := by decide +kernel
theorem dX0_crushPat_24 : decode cX0_crushPat 24 = .ok (.getfield 21, 3) := by decide +kernel
theorem dX0_crushPat_27 : decode cX0_crushPat 27 = .ok (.getfield 59, 3) := by decide +kernel
theorem dX0_crushPat_30 : decode cX0_crushPat 30 = .ok (.ireturn, 1) := by decide +kernel
theorem dX1_init_0 : decode cX1_init 0 = .ok (.aload_n 0, 1) := by decide +kernel
theorem dX1_init_1 : decode cX1_init 1 = .ok (.invokespecial 3, 3) := by decide +kernel
theorem dX1_init_4 : decode cX1_init 4 = .ok (.aload_n 0, 1) := by decide +kernel
theorem dX1_init_5 : decode cX1_init 5 = .ok (.bipush 20, 2) := by decide +kernel
theorem dX1_init_7 : decode cX1_init 7 = .ok (.putfield 9, 3) := by decide +kernel
theorem dX1_init_10 : decode cX1_init 10 = .ok (.return_, 1) := by decide +kernel
theorem dX1_copyFrom_0 : decode cX1_copyFrom 0 = .ok (.aload_n 0, 1) := by decide +kernel
theorem dX1_copyFrom_1 : decode cX1_copyFrom 1 = .ok (.aload_n 1, 1) := by decide +kernel
theorem dX1_copyFrom_2 : decode cX1_copyFrom 2 = .ok (.getfield 15, 3) := by decide +kernel
theorem dX1_copyFrom_5 : decode cX1_copyFrom 5 = .ok (.putfield 15, 3) := by decide +kernel
theorem dX1_copyFrom_8 : decode cX1_copyFrom 8 = .ok (.aload_n 0, 1) := by decide +kernel
theorem dX1_copyFrom_9 : decode cX1_copyFrom 9 = .ok (.aload_n 1, 1) := by decide +kernel
theorem dX1_copyFrom_10 : decode cX1_copyFrom 10 = .ok (.getfield 9, 3) := by decide +kernel
theorem dX1_copyFrom_13 : decode cX1_copyFrom 13 = .ok (.putfield 9, 3) := by decide +kernel
theorem dX1_copyFrom_16 : decode cX1_copyFrom 16 = .ok (.aload_n 0, 1) := by decide +kernel
theorem dX1_copyFrom_17 : decode cX1_copyFrom 17 = .ok (.aload_n 1, 1) := by decide +kernel
theorem dX1_copyFrom_18 : decode cX1_copyFrom 18 = .ok (.getfield 18, 3) := by decide +kernel
theorem dX1_copyFrom_21 : decode cX1_copyFrom 21 = .ok (.putfield 18, 3) := by decide +kernel
theorem dX1_copyFrom_24 : decode cX1_copyFrom 24 = .ok (.aload_n 0, 1) := by decide +kernel
theorem dX1_copyFrom_25 : decode cX1_copyFrom 25 = .ok (.aload_n 1, 1) := by decide +kernel
theorem dX1_copyFrom_26 : decode cX1_copyFrom 26 = .ok (.getfield 21, 3) := by decide +kernel
theorem dX1_copyFrom_29 : decode cX1_copyFrom 29 = .ok (.putfield 21, 3) := by decide +kernel
theorem dX1_copyFrom_32 : decode cX1_copyFrom 32 = .ok (.return_, 1) := by decide +kernel
theorem dX1_add_0 : decode cX1_add 0 = .ok (.aload_n 0, 1) := by decide +kernel
theorem dX1_add_1 : decode cX1_add 1 = .ok (.getfield 15, 3) := by decide +kernel
theorem dX1_add_4 : decode cX1_add 4 = .ok (.iload_n 1, 1) := by decide +kernel
theorem dX1_add_5 : decode cX1_add 5 = .ok (.iadd, 1) := by decide +kernel
theorem dX1_add_6 : decode cX1_add 6 = .ok (.istore_n 2, 1) := by decide +kernel
theorem dX1_add_7 : decode cX1_add 7 = .ok (.iload_n 2, 1) := by decide +kernel
theorem dX1_add_8 : decode cX1_add 8 = .ok (.ifCond .le 43, 3) := by decide +kernel
theorem dX1_add_11 : decode cX1_add 11 = .ok (.aload_n 0, 1) := by decide +kernel
theorem dX1_add_12 : decode cX1_add 12 = .ok (.aload_n 0, 1) := by decide +kernel
theorem dX1_add_13 : decode cX1_add 13 = .ok (.getfield 9, 3) := by decide +kernel
theorem dX1_add_16 : decode cX1_add 16 = .ok (.aload_n 0, 1) := by decide +kernel
theorem dX1_add_17 : decode cX1_add 17 = .ok (.getfield 15, 3) := by decide +kernel
theorem dX1_add_20 : decode cX1_add 20 = .ok (.imul, 1) := by decide +kernel
theorem dX1_add_21 : decode cX1_add 21 = .ok (.bipush 20, 2) := by decide +kernel
theorem dX1_add_23 : decode cX1_add 23 = .ok (.iload_n 1, 1) := by decide +kernel
theorem dX1_add_24 : decode cX1_add 24 = .ok (.imul, 1) := by decide +kernel
theorem dX1_add_25 : decode cX1_add 25 = .ok (.iadd, 1) := by decide +kernel
theorem dX1_add_26 : decode cX1_add 26 = .ok (.iload_n 2, 1) := by decide +kernel
theorem dX1_add_27 : decode cX1_add 27 = .ok (.idiv, 1) := by decide +kernel
theorem dX1_add_28 : decode cX1_add 28 = .ok (.putfield 9, 3) := by decide +kernel
theorem dX1_add_31 : decode cX1_add 31 = .ok (.aload_n 0, 1) := by decide +kernel
theorem dX1_add_32 : decode cX1_add 32 = .ok (.aload_n 0, 1) := by decide +kernel
theorem dX1_add_33 : decode cX1_add 33 = .ok (.getfield 18, 3) := by decide +kernel
theorem dX1_add_36 : decode cX1_add 36 = .ok (.aload_n 0, 1) := by decide +kernel
theorem dX1_add_37 : decode cX1_add 37 = .ok (.getfield 15, 3) := by decide +kernel
theorem dX1_add_40 : decode cX1_add 40 = .ok (.imul, 1) := by decide +kernel
theorem dX1_add_41 : decode cX1_add 41 = .ok (.iload_n 2, 1) := by decide +kernel
theorem dX1_add_42 : decode cX1_add 42 = .ok (.idiv, 1) := by decide +kernel
theorem dX1_add_43 : decode cX1_add 43 = .ok (.putfield 18, 3) := by decide +kernel
theorem dX1_add_46 : decode cX1_add 46 = .ok (.aload_n 0, 1) := by decide +kernel
theorem dX1_add_47 : decode cX1_add 47 = .ok (.iload_n 2, 1) := by decide +kernel
theorem dX1_add_48 : decode cX1_add 48 = .ok (.putfield 15, 3) := by decide +kernel
theorem dX1_add_51 : decode cX1_add 51 = .ok (.return_, 1) := by decide +kernel
theorem dX1_cracksOfPat_0 : decode cX1_cracksOfPat 0 = .ok (.aload_n 0, 1) := by decide +kernel
theorem dX1_cracksOfPat_1 : decode cX1_cracksOfPat 1 = .ok (.getfield 9, 3) := by decide +kernel
theorem dX1_cracksOfPat_4 : decode cX1_cracksOfPat 4 = .ok (.bipush 100, 2) := by decide +kernel
theorem dX1_cracksOfPat_6 : decode cX1_cracksOfPat 6 = .ok (.if_icmp .le 7, 3) := by decide +kernel
theorem dX1_cracksOfPat_9 : decode cX1_cracksOfPat 9 = .ok (.iconst 1, 1) := by decide +kernel
theorem dX1_cracksOfPat_10 : decode cX1_cracksOfPat 10 = .ok (.goto 4, 3) := by decide +kernel
theorem dX1_cracksOfPat_13 : decode cX1_cracksOfPat 13 = .ok (.iconst 0, 1) := by decide +kernel
theorem dX1_cracksOfPat_14 : decode cX1_cracksOfPat 14 = .ok (.istore_n 1, 1) := by decide +kernel
theorem dX1_cracksOfPat_15 : decode cX1_cracksOfPat 15 = .ok (.aload_n 0, 1) := by decide +kernel
theorem dX1_cracksOfPat_16 : decode cX1_cracksOfPat 16 = .ok (.getfield 21, 3) := by decide +kernel
theorem dX1_cracksOfPat_19 : decode cX1_cracksOfPat 19 = .ok (.bipush 10, 2) := by decide +kernel
theorem dX1_cracksOfPat_21 : decode cX1_cracksOfPat 21 = .ok (.idiv, 1) := by decide +kernel
theorem dX1_cracksOfPat_22 : decode cX1_cracksOfPat 22 = .ok (.iload_n 1, 1) := by decide +kernel
theorem dX1_cracksOfPat_23 : decode cX1_cracksOfPat 23 = .ok (.iadd, 1) := by decide +kernel
theorem dX1_cracksOfPat_24 : decode cX1_cracksOfPat 24 = .ok (.ireturn, 1) := by decide +kernel
theorem dX1_change_0 : decode cX1_change 0 = .ok (.iload_n 1, 1) := by decide +kernel
theorem dX1_change_1 : decode cX1_change 1 = .ok (.bipush 104, 2) := by decide +kernel
theorem dX1_change_3 : decode cX1_change 3 = .ok (.if_icmp .ne 24, 3) := by decide +kernel
theorem dX1_change_6 : decode cX1_change 6 = .ok (.aload_n 0, 1) := by decide +kernel
theorem dX1_change_7 : decode cX1_change 7 = .ok (.sipush 200, 3) := by decide +kernel
theorem dX1_change_10 : decode cX1_change 10 = .ok (.aload_n 0, 1) := by decide +kernel
theorem dX1_change_11 : decode cX1_change 11 = .ok (.getfield 9, 3) := by decide +kernel
theorem dX1_change_14 : decode cX1_change 14 = .ok (.iconst 3, 1) := by decide +kernel
theorem dX1_change_15 : decode cX1_change 15 = .ok (.iload_n 2, 1) := by decide +kernel
theorem dX1_change_16 : decode cX1_change 16 = .ok (.imul, 1) := by decide +kernel
theorem dX1_change_17 : decode cX1_change 17 = .ok (.iadd, 1) := by decide +kernel
theorem dX1_change_18 : decode cX1_change 18 = .ok (.invokestatic 24, 3) := by decide +kernel
theorem dX1_change_21 : decode cX1_change 21 = .ok (.putfield 9, 3) := by decide +kernel
theorem dX1_change_24 : decode cX1_change 24 = .ok (.goto 47, 3) := by decide +kernel
theorem dX1_change_27 : decode cX1_change 27 = .ok (.iload_n 1, 1) := by decide +kernel
theorem dX1_change_28 : decode cX1_change 28 = .ok (.bipush 99, 2) := by decide +kernel
theorem dX1_change_30 : decode cX1_change 30 = .ok (.if_icmp .ne 22, 3) := by decide +kernel
theorem dX1_change_33 : decode cX1_change 33 = .ok (.aload_n 0, 1) := by decide +kernel
theorem dX1_change_34 : decode cX1_change 34 = .ok (.iconst 0, 1) := by decide +kernel
theorem dX1_change_35 : decode cX1_change 35 = .ok (.aload_n 0, 1) := by decide +kernel
theorem dX1_change_36 : decode cX1_change 36 = .ok (.getfield 9, 3) := by decide +kernel
theorem dX1_change_39 : decode cX1_change 39 = .ok (.iconst 2, 1) := by decide +kernel
theorem dX1_change_40 : decode cX1_change 40 = .ok (.iload_n 2, 1) := by decide +kernel
theorem dX1_change_41 : decode cX1_change 41 = .ok (.imul, 1) := by decide +kernel
theorem dX1_change_42 : decode cX1_change 42 = .ok (.isub, 1) := by decide +kernel
theorem dX1_change_43 : decode cX1_change 43 = .ok (.invokestatic 30, 3) := by decide +kernel
theorem dX1_change_46 : decode cX1_change 46 = .ok (.putfield 9, 3) := by decide +kernel
theorem dX1_change_49 : decode cX1_change 49 = .ok (.goto 22, 3) := by decide +kernel
theorem dX1_change_52 : decode cX1_change 52 = .ok (.iload_n 1, 1) := by decide +kernel
theorem dX1_change_53 : decode cX1_change 53 = .ok (.bipush 116, 2) := by decide +kernel
theorem dX1_change_55 : decode cX1_change 55 = .ok (.if_icmp .ne 11, 3) := by decide +kernel
theorem dX1_change_58 : decode cX1_change 58 = .ok (.aload_n 0, 1) := by decide +kernel
theorem dX1_change_59 : decode cX1_change 59 = .ok (.iload_n 2, 1) := by decide +kernel
theorem dX1_change_60 : decode cX1_change 60 = .ok (.invokevirtual 33, 3) := by decide +kernel
theorem dX1_change_63 : decode cX1_change 63 = .ok (.goto 8, 3) := by decide +kernel
theorem dX1_change_66 : decode cX1_change 66 = .ok (.aload_n 0, 1) := by decide +kernel
theorem dX1_change_67 : decode cX1_change 67 = .ok (.iload_n 2, 1) := by decide +kernel
theorem dX1_change_68 : decode cX1_change 68 = .ok (.invokevirtual 37, 3) := by decide +kernel
theorem dX1_change_71 : decode cX1_change 71 = .ok (.return_, 1) := by decide +kernel
theorem dX1_turn_0 : decode cX1_turn 0 = .ok (.aload_n 0, 1) := by decide +kernel
theorem dX1_turn_1 : decode cX1_turn 1 = .ok (.getfield 9, 3) := by decide +kernel
theorem dX1_turn_4 : decode cX1_turn 4 = .ok (.bipush 120, 2) := by decide +kernel
theorem dX1_turn_6 : decode cX1_turn 6 = .ok (.if_icmp .le 21, 3) := by decide +kernel
theorem dX1_turn_9 : decode cX1_turn 9 = .ok (.aload_n 0, 1) := by decide +kernel
theorem dX1_turn_10 : decode cX1_turn 10 = .ok (.bipush 99, 2) := by decide +kernel
theorem dX1_turn_12 : decode cX1_turn 12 = .ok (.aload_n 0, 1) := by decide +kernel
theorem dX1_turn_13 : decode cX1_turn 13 = .ok (.getfield 21, 3) := by decide +kernel
theorem dX1_turn_16 : decode cX1_turn 16 = .ok (.iload_n 1, 1) := by decide +kernel
theorem dX1_turn_17 : decode cX1_turn 17 = .ok (.iadd, 1) := by decide +kernel
theorem dX1_turn_18 : decode cX1_turn 18 = .ok (.invokestatic 24, 3) := by decide +kernel
theorem dX1_turn_21 : decode cX1_turn 21 = .ok (.putfield 21, 3) := by decide +kernel
theorem dX1_turn_24 : decode cX1_turn 24 = .ok (.goto 27, 3) := by decide +kernel
theorem dX1_turn_27 : decode cX1_turn 27 = .ok (.aload_n 0, 1) := by decide +kernel
theorem dX1_turn_28 : decode cX1_turn 28 = .ok (.getfield 9, 3) := by decide +kernel
theorem dX1_turn_31 : decode cX1_turn 31 = .ok (.bipush 40, 2) := by decide +kernel
theorem dX1_turn_33 : decode cX1_turn 33 = .ok (.if_icmp .lt 18, 3) := by decide +kernel
theorem dX1_turn_36 : decode cX1_turn 36 = .ok (.aload_n 0, 1) := by decide +kernel
theorem dX1_turn_37 : decode cX1_turn 37 = .ok (.bipush 100, 2) := by decide +kernel
theorem dX1_turn_39 : decode cX1_turn 39 = .ok (.aload_n 0, 1) := by decide +kernel
theorem dX1_turn_40 : decode cX1_turn 40 = .ok (.getfield 18, 3) := by decide +kernel
theorem dX1_turn_43 : decode cX1_turn 43 = .ok (.iload_n 1, 1) := by decide +kernel
theorem dX1_turn_44 : decode cX1_turn 44 = .ok (.iadd, 1) := by decide +kernel
theorem dX1_turn_45 : decode cX1_turn 45 = .ok (.invokestatic 24, 3) := by decide +kernel
theorem dX1_turn_48 : decode cX1_turn 48 = .ok (.putfield 18, 3) := by decide +kernel
theorem dX1_turn_51 : decode cX1_turn 51 = .ok (.return_, 1) := by decide +kernel
theorem dX1_rest_0 : decode cX1_rest 0 = .ok (.aload_n 0, 1) := by decide +kernel
theorem dX1_rest_1 : decode cX1_rest 1 = .ok (.getfield 9, 3) := by decide +kernel
theorem dX1_rest_4 : decode cX1_rest 4 = .ok (.bipush 20, 2) := by decide +kernel
theorem dX1_rest_6 : decode cX1_rest 6 = .ok (.if_icmp .le 16, 3) := by decide +kernel
theorem dX1_rest_9 : decode cX1_rest 9 = .ok (.aload_n 0, 1) := by decide +kernel
theorem dX1_rest_10 : decode cX1_rest 10 = .ok (.dup, 1) := by decide +kernel
theorem dX1_rest_11 : decode cX1_rest 11 = .ok (.getfield 9, 3) := by decide +kernel
theorem dX1_rest_14 : decode cX1_rest 14 = .ok (.iconst 1, 1) := by decide +kernel
theorem dX1_rest_15 : decode cX1_rest 15 = .ok (.isub, 1) := by decide +kernel
theorem dX1_rest_16 : decode cX1_rest 16 = .ok (.putfield 9, 3) := by decide +kernel
theorem dX1_rest_19 : decode cX1_rest 19 = .ok (.goto 22, 3) := by decide +kernel
theorem dX1_rest_22 : decode cX1_rest 22 = .ok (.aload_n 0, 1) := by decide +kernel
theorem dX1_rest_23 : decode cX1_rest 23 = .ok (.getfield 9, 3) := by decide +kernel
theorem dX1_rest_26 : decode cX1_rest 26 = .ok (.bipush 20, 2) := by decide +kernel
theorem dX1_rest_28 : decode cX1_rest 28 = .ok (.if_icmp .ge 13, 3) := by decide +kernel
theorem dX1_rest_31 : decode cX1_rest 31 = .ok (.aload_n 0, 1) := by decide +kernel
theorem dX1_rest_32 : decode cX1_rest 32 = .ok (.dup, 1) := by decide +kernel
theorem dX1_rest_33 : decode cX1_rest 33 = .ok (.getfield 9, 3) := by decide +kernel
theorem dX1_rest_36 : decode cX1_rest 36 = .ok (.iconst 1, 1) := by decide +kernel
theorem dX1_rest_37 : decode cX1_rest 37 = .ok (.iadd, 1) := by decide +kernel
theorem dX1_rest_38 : decode cX1_rest 38 = .ok (.putfield 9, 3) := by decide +kernel
theorem dX1_rest_41 : decode cX1_rest 41 = .ok (.aload_n 0, 1) := by decide +kernel
theorem dX1_rest_42 : decode cX1_rest 42 = .ok (.iconst 0, 1) := by decide +kernel
theorem dX1_rest_43 : decode cX1_rest 43 = .ok (.aload_n 0, 1) := by decide +kernel
theorem dX1_rest_44 : decode cX1_rest 44 = .ok (.getfield 21, 3) := by decide +kernel
theorem dX1_rest_47 : decode cX1_rest 47 = .ok (.iload_n 1, 1) := by decide +kernel
theorem dX1_rest_48 : decode cX1_rest 48 = .ok (.isub, 1) := by decide +kernel
theorem dX1_rest_49 : decode cX1_rest 49 = .ok (.invokestatic 30, 3) := by decide +kernel
theorem dX1_rest_52 : decode cX1_rest 52 = .ok (.putfield 21, 3) := by decide +kernel
theorem dX1_rest_55 : decode cX1_rest 55 = .ok (.return_, 1) := by decide +kernel
theorem dX2_init_0 : decode cX2_init 0 = .ok (.aload_n 0, 1) := by decide +kernel
theorem dX2_init_1 : decode cX2_init 1 = .ok (.invokespecial 3, 3) := by decide +kernel
theorem dX2_init_4 : decode cX2_init 4 = .ok (.aload_n 0, 1) := by decide +kernel
theorem dX2_init_5 : decode cX2_init 5 = .ok (.bipush 8, 2) := by decide +kernel
theorem dX2_init_7 : decode cX2_init 7 = .ok (.newarray .char, 2) := by decide +kernel
theorem dX2_init_9 : decode cX2_init 9 = .ok (.putfield 9, 3) := by decide +kernel
theorem dX2_init_12 : decode cX2_init 12 = .ok (.aload_n 0, 1) := by decide +kernel
theorem dX2_init_13 : decode cX2_init 13 = .ok (.bipush 8, 2) := by decide +kernel
theorem dX2_init_15 : decode cX2_init 15 = .ok (.newarray .int, 2) := by decide +kernel
theorem dX2_init_17 : decode cX2_init 17 = .ok (.putfield 15, 3) := by decide +kernel
theorem dX2_init_20 : decode cX2_init 20 = .ok (.aload_n 0, 1) := by decide +kernel
theorem dX2_init_21 : decode cX2_init 21 = .ok (.bipush 8, 2) := by decide +kernel
theorem dX2_init_23 : decode cX2_init 23 = .ok (.newarray .int, 2) := by decide +kernel
theorem dX2_init_25 : decode cX2_init 25 = .ok (.putfield 19, 3) := by decide +kernel
theorem dX2_init_28 : decode cX2_init 28 = .ok (.aload_n 0, 1) := by decide +kernel
theorem dX2_init_29 : decode cX2_init 29 = .ok (.iconst (-1), 1) := by decide +kernel
theorem dX2_init_30 : decode cX2_init 30 = .ok (.putfield 22, 3) := by decide +kernel
theorem dX2_init_33 : decode cX2_init 33 = .ok (.return_, 1) := by decide +kernel
theorem dX2_isKind_0 : decode cX2_isKind 0 = .ok (.iload_n 0, 1) := by decide +kernel
theorem dX2_isKind_1 : decode cX2_isKind 1 = .ok (.bipush 104, 2) := by decide +kernel
theorem dX2_isKind_3 : decode cX2_isKind 3 = .ok (.if_icmp .eq 21, 3) := by decide +kernel
theorem dX2_isKind_6 : decode cX2_isKind 6 = .ok (.iload_n 0, 1) := by decide +kernel
theorem dX2_isKind_7 : decode cX2_isKind 7 = .ok (.bipush 99, 2) := by decide +kernel
theorem dX2_isKind_9 : decode cX2_isKind 9 = .ok (.if_icmp .eq 15, 3) := by decide +kernel
theorem dX2_isKind_12 : decode cX2_isKind 12 = .ok (.iload_n 0, 1) := by decide +kernel
theorem dX2_isKind_13 : decode cX2_isKind 13 = .ok (.bipush 116, 2) := by decide +kernel
theorem dX2_isKind_15 : decode cX2_isKind 15 = .ok (.if_icmp .eq 9, 3) := by decide +kernel
theorem dX2_isKind_18 : decode cX2_isKind 18 = .ok (.iload_n 0, 1) := by decide +kernel
theorem dX2_isKind_19 : decode cX2_isKind 19 = .ok (.bipush 114, 2) := by decide +kernel
theorem dX2_isKind_21 : decode cX2_isKind 21 = .ok (.if_icmp .ne 7, 3) := by decide +kernel
theorem dX2_isKind_24 : decode cX2_isKind 24 = .ok (.iconst 1, 1) := by decide +kernel
theorem dX2_isKind_25 : decode cX2_isKind 25 = .ok (.goto 4, 3) := by decide +kernel
theorem dX2_isKind_28 : decode cX2_isKind 28 = .ok (.iconst 0, 1) := by decide +kernel
theorem dX2_isKind_29 : decode cX2_isKind 29 = .ok (.ireturn, 1) := by decide +kernel
theorem dX2_copyFrom_0 : decode cX2_copyFrom 0 = .ok (.aload_n 1, 1) := by decide +kernel
theorem dX2_copyFrom_1 : decode cX2_copyFrom 1 = .ok (.getfield 9, 3) := by decide +kernel
theorem dX2_copyFrom_4 : decode cX2_copyFrom 4 = .ok (.iconst 0, 1) := by decide +kernel
theorem dX2_copyFrom_5 : decode cX2_copyFrom 5 = .ok (.aload_n 0, 1) := by decide +kernel
theorem dX2_copyFrom_6 : decode cX2_copyFrom 6 = .ok (.getfield 9, 3) := by decide +kernel
theorem dX2_copyFrom_9 : decode cX2_copyFrom 9 = .ok (.iconst 0, 1) := by decide +kernel
theorem dX2_copyFrom_10 : decode cX2_copyFrom 10 = .ok (.bipush 8, 2) := by decide +kernel
theorem dX2_copyFrom_12 : decode cX2_copyFrom 12 = .ok (.invokestatic 26, 3) := by decide +kernel
theorem dX2_copyFrom_15 : decode cX2_copyFrom 15 = .ok (.aload_n 1, 1) := by decide +kernel
theorem dX2_copyFrom_16 : decode cX2_copyFrom 16 = .ok (.getfield 15, 3) := by decide +kernel
theorem dX2_copyFrom_19 : decode cX2_copyFrom 19 = .ok (.iconst 0, 1) := by decide +kernel
theorem dX2_copyFrom_20 : decode cX2_copyFrom 20 = .ok (.aload_n 0, 1) := by decide +kernel
theorem dX2_copyFrom_21 : decode cX2_copyFrom 21 = .ok (.getfield 15, 3) := by decide +kernel
theorem dX2_copyFrom_24 : decode cX2_copyFrom 24 = .ok (.iconst 0, 1) := by decide +kernel
theorem dX2_copyFrom_25 : decode cX2_copyFrom 25 = .ok (.bipush 8, 2) := by decide +kernel
theorem dX2_copyFrom_27 : decode cX2_copyFrom 27 = .ok (.invokestatic 26, 3) := by decide +kernel
theorem dX2_copyFrom_30 : decode cX2_copyFrom 30 = .ok (.aload_n 1, 1) := by decide +kernel
theorem dX2_copyFrom_31 : decode cX2_copyFrom 31 = .ok (.getfield 19, 3) := by decide +kernel
theorem dX2_copyFrom_34 : decode cX2_copyFrom 34 = .ok (.iconst 0, 1) := by decide +kernel
theorem dX2_copyFrom_35 : decode cX2_copyFrom 35 = .ok (.aload_n 0, 1) := by decide +kernel
theorem dX2_copyFrom_36 : decode cX2_copyFrom 36 = .ok (.getfield 19, 3) := by decide +kernel
theorem dX2_copyFrom_39 : decode cX2_copyFrom 39 = .ok (.iconst 0, 1) := by decide +kernel
theorem dX2_copyFrom_40 : decode cX2_copyFrom 40 = .ok (.bipush 8, 2) := by decide +kernel
theorem dX2_copyFrom_42 : decode cX2_copyFrom 42 = .ok (.invokestatic 26, 3) := by decide +kernel
theorem dX2_copyFrom_45 : decode cX2_copyFrom 45 = .ok (.aload_n 0, 1) := by decide +kernel
theorem dX2_copyFrom_46 : decode cX2_copyFrom 46 = .ok (.aload_n 1, 1) := by decide +kernel
theorem dX2_copyFrom_47 : decode cX2_copyFrom 47 = .ok (.getfield 32, 3) := by decide +kernel
theorem dX2_copyFrom_50 : decode cX2_copyFrom 50 = .ok (.putfield 32, 3) := by decide +kernel
theorem dX2_copyFrom_53 : decode cX2_copyFrom 53 = .ok (.aload_n 0, 1) := by decide +kernel
theorem dX2_copyFrom_54 : decode cX2_copyFrom 54 = .ok (.aload_n 1, 1) := by decide +kernel
theorem dX2_copyFrom_55 : decode cX2_copyFrom 55 = .ok (.getfield 22, 3) := by decide +kernel
theorem dX2_copyFrom_58 : decode cX2_copyFrom 58 = .ok (.putfield 22, 3) := by decide +kernel
theorem dX2_copyFrom_61 : decode cX2_copyFrom 61 = .ok (.aload_n 0, 1) := by decide +kernel
theorem dX2_copyFrom_62 : decode cX2_copyFrom 62 = .ok (.aload_n 1, 1) := by decide +kernel
theorem dX2_copyFrom_63 : decode cX2_copyFrom 63 = .ok (.getfield 35, 3) := by decide +kernel
theorem dX2_copyFrom_66 : decode cX2_copyFrom 66 = .ok (.putfield 35, 3) := by decide +kernel
theorem dX2_copyFrom_69 : decode cX2_copyFrom 69 = .ok (.aload_n 0, 1) := by decide +kernel
theorem dX2_copyFrom_70 : decode cX2_copyFrom 70 = .ok (.aload_n 1, 1) := by decide +kernel
theorem dX2_copyFrom_71 : decode cX2_copyFrom 71 = .ok (.getfield 38, 3) := by decide +kernel
theorem dX2_copyFrom_74 : decode cX2_copyFrom 74 = .ok (.putfield 38, 3) := by decide +kernel
theorem dX2_copyFrom_77 : decode cX2_copyFrom 77 = .ok (.return_, 1) := by decide +kernel
theorem dX2_has_0 : decode cX2_has 0 = .ok (.iload_n 1, 1) := by decide +kernel
theorem dX2_has_1 : decode cX2_has 1 = .ok (.ifCond .lt 15, 3) := by decide +kernel
theorem dX2_has_4 : decode cX2_has 4 = .ok (.iload_n 1, 1) := by decide +kernel
theorem dX2_has_5 : decode cX2_has 5 = .ok (.aload_n 0, 1) := by decide +kernel
theorem dX2_has_6 : decode cX2_has 6 = .ok (.getfield 32, 3) := by decide +kernel
theorem dX2_has_9 : decode cX2_has 9 = .ok (.if_icmp .ge 7, 3) := by decide +kernel
theorem dX2_has_12 : decode cX2_has 12 = .ok (.iconst 1, 1) := by decide +kernel
theorem dX2_has_13 : decode cX2_has 13 = .ok (.goto 4, 3) := by decide +kernel
theorem dX2_has_16 : decode cX2_has 16 = .ok (.iconst 0, 1) := by decide +kernel
theorem dX2_has_17 : decode cX2_has 17 = .ok (.ireturn, 1) := by decide +kernel
theorem dX2_isUnderWay_0 : decode cX2_isUnderWay 0 = .ok (.aload_n 0, 1) := by decide +kernel
theorem dX2_isUnderWay_1 : decode cX2_isUnderWay 1 = .ok (.aload_n 0, 1) := by decide +kernel
theorem dX2_isUnderWay_2 : decode cX2_isUnderWay 2 = .ok (.getfield 22, 3) := by decide +kernel
theorem dX2_isUnderWay_5 : decode cX2_isUnderWay 5 = .ok (.invokevirtual 41, 3) := by decide +kernel
theorem dX2_isUnderWay_8 : decode cX2_isUnderWay 8 = .ok (.ireturn, 1) := by decide +kernel
theorem dX2_append_0 : decode cX2_append 0 = .ok (.aload_n 0, 1) := by decide +kernel
theorem dX2_append_1 : decode cX2_append 1 = .ok (.getfield 32, 3) := by decide +kernel
theorem dX2_append_4 : decode cX2_append 4 = .ok (.bipush 8, 2) := by decide +kernel
theorem dX2_append_6 : decode cX2_append 6 = .ok (.if_icmp .ge 43, 3) := by decide +kernel
theorem dX2_append_9 : decode cX2_append 9 = .ok (.aload_n 0, 1) := by decide +kernel
theorem dX2_append_10 : decode cX2_append 10 = .ok (.getfield 9, 3) := by decide +kernel
theorem dX2_append_13 : decode cX2_append 13 = .ok (.aload_n 0, 1) := by decide +kernel
theorem dX2_append_14 : decode cX2_append 14 = .ok (.getfield 32, 3) := by decide +kernel
theorem dX2_append_17 : decode cX2_append 17 = .ok (.iload_n 1, 1) := by decide +kernel
theorem dX2_append_18 : decode cX2_append 18 = .ok (.castore, 1) := by decide +kernel
theorem dX2_append_19 : decode cX2_append 19 = .ok (.aload_n 0, 1) := by decide +kernel
theorem dX2_append_20 : decode cX2_append 20 = .ok (.getfield 15, 3) := by decide +kernel
theorem dX2_append_23 : decode cX2_append 23 = .ok (.aload_n 0, 1) := by decide +kernel
theorem dX2_append_24 : decode cX2_append 24 = .ok (.getfield 32, 3) := by decide +kernel
theorem dX2_append_27 : decode cX2_append 27 = .ok (.iload_n 2, 1) := by decide +kernel
theorem dX2_append_28 : decode cX2_append 28 = .ok (.iastore, 1) := by decide +kernel
theorem dX2_append_29 : decode cX2_append 29 = .ok (.aload_n 0, 1) := by decide +kernel
theorem dX2_append_30 : decode cX2_append 30 = .ok (.getfield 19, 3) := by decide +kernel
theorem dX2_append_33 : decode cX2_append 33 = .ok (.aload_n 0, 1) := by decide +kernel
theorem dX2_append_34 : decode cX2_append 34 = .ok (.getfield 32, 3) := by decide +kernel
theorem dX2_append_37 : decode cX2_append 37 = .ok (.iload_n 3, 1) := by decide +kernel
theorem dX2_append_38 : decode cX2_append 38 = .ok (.iastore, 1) := by decide +kernel
theorem dX2_append_39 : decode cX2_append 39 = .ok (.aload_n 0, 1) := by decide +kernel
theorem dX2_append_40 : decode cX2_append 40 = .ok (.dup, 1) := by decide +kernel
theorem dX2_append_41 : decode cX2_append 41 = .ok (.getfield 32, 3) := by decide +kernel
theorem dX2_append_44 : decode cX2_append 44 = .ok (.iconst 1, 1) := by decide +kernel
theorem dX2_append_45 : decode cX2_append 45 = .ok (.iadd, 1) := by decide +kernel
theorem dX2_append_46 : decode cX2_append 46 = .ok (.putfield 32, 3) := by decide +kernel
theorem dX2_append_49 : decode cX2_append 49 = .ok (.return_, 1) := by decide +kernel
theorem dX2_remove_0 : decode cX2_remove 0 = .ok (.aload_n 0, 1) := by decide +kernel
theorem dX2_remove_1 : decode cX2_remove 1 = .ok (.iload_n 1, 1) := by decide +kernel
theorem dX2_remove_2 : decode cX2_remove 2 = .ok (.invokevirtual 41, 3) := by decide +kernel
theorem dX2_remove_5 : decode cX2_remove 5 = .ok (.ifCond .eq 73, 3) := by decide +kernel
theorem dX2_remove_8 : decode cX2_remove 8 = .ok (.iload_n 1, 1) := by decide +kernel
theorem dX2_remove_9 : decode cX2_remove 9 = .ok (.istore_n 2, 1) := by decide +kernel
theorem dX2_remove_10 : decode cX2_remove 10 = .ok (.iload_n 2, 1) := by decide +kernel
theorem dX2_remove_11 : decode cX2_remove 11 = .ok (.iconst 1, 1) := by decide +kernel
theorem dX2_remove_12 : decode cX2_remove 12 = .ok (.iadd, 1) := by decide +kernel
theorem dX2_remove_13 : decode cX2_remove 13 = .ok (.aload_n 0, 1) := by decide +kernel
theorem dX2_remove_14 : decode cX2_remove 14 = .ok (.getfield 32, 3) := by decide +kernel
theorem dX2_remove_17 : decode cX2_remove 17 = .ok (.if_icmp .ge 51, 3) := by decide +kernel
theorem dX2_remove_20 : decode cX2_remove 20 = .ok (.aload_n 0, 1) := by decide +kernel
theorem dX2_remove_21 : decode cX2_remove 21 = .ok (.getfield 9, 3) := by decide +kernel
theorem dX2_remove_24 : decode cX2_remove 24 = .ok (.iload_n 2, 1) := by decide +kernel
theorem dX2_remove_25 : decode cX2_remove 25 = .ok (.aload_n 0, 1) := by decide +kernel
theorem dX2_remove_26 : decode cX2_remove 26 = .ok (.getfield 9, 3) := by decide +kernel
theorem dX2_remove_29 : decode cX2_remove 29 = .ok (.iload_n 2, 1) := by decide +kernel
theorem dX2_remove_30 : decode cX2_remove 30 = .ok (.iconst 1, 1) := by decide +kernel
theorem dX2_remove_31 : decode cX2_remove 31 = .ok (.iadd, 1) := by decide +kernel
theorem dX2_remove_32 : decode cX2_remove 32 = .ok (.caload, 1) := by decide +kernel
theorem dX2_remove_33 : decode cX2_remove 33 = .ok (.castore, 1) := by decide +kernel
theorem dX2_remove_34 : decode cX2_remove 34 = .ok (.aload_n 0, 1) := by decide +kernel
theorem dX2_remove_35 : decode cX2_remove 35 = .ok (.getfield 15, 3) := by decide +kernel
theorem dX2_remove_38 : decode cX2_remove 38 = .ok (.iload_n 2, 1) := by decide +kernel
theorem dX2_remove_39 : decode cX2_remove 39 = .ok (.aload_n 0, 1) := by decide +kernel
theorem dX2_remove_40 : decode cX2_remove 40 = .ok (.getfield 15, 3) := by decide +kernel
theorem dX2_remove_43 : decode cX2_remove 43 = .ok (.iload_n 2, 1) := by decide +kernel
theorem dX2_remove_44 : decode cX2_remove 44 = .ok (.iconst 1, 1) := by decide +kernel
theorem dX2_remove_45 : decode cX2_remove 45 = .ok (.iadd, 1) := by decide +kernel
theorem dX2_remove_46 : decode cX2_remove 46 = .ok (.iaload, 1) := by decide +kernel
theorem dX2_remove_47 : decode cX2_remove 47 = .ok (.iastore, 1) := by decide +kernel
theorem dX2_remove_48 : decode cX2_remove 48 = .ok (.aload_n 0, 1) := by decide +kernel
theorem dX2_remove_49 : decode cX2_remove 49 = .ok (.getfield 19, 3) := by decide +kernel
theorem dX2_remove_52 : decode cX2_remove 52 = .ok (.iload_n 2, 1) := by decide +kernel
theorem dX2_remove_53 : decode cX2_remove 53 = .ok (.aload_n 0, 1) := by decide +kernel
theorem dX2_remove_54 : decode cX2_remove 54 = .ok (.getfield 19, 3) := by decide +kernel
theorem dX2_remove_57 : decode cX2_remove 57 = .ok (.iload_n 2, 1) := by decide +kernel
theorem dX2_remove_58 : decode cX2_remove 58 = .ok (.iconst 1, 1) := by decide +kernel
theorem dX2_remove_59 : decode cX2_remove 59 = .ok (.iadd, 1) := by decide +kernel
theorem dX2_remove_60 : decode cX2_remove 60 = .ok (.iaload, 1) := by decide +kernel
theorem dX2_remove_61 : decode cX2_remove 61 = .ok (.iastore, 1) := by decide +kernel
theorem dX2_remove_62 : decode cX2_remove 62 = .ok (.iinc 2 1, 3) := by decide +kernel
theorem dX2_remove_65 : decode cX2_remove 65 = .ok (.goto (-55), 3) := by decide +kernel
theorem dX2_remove_68 : decode cX2_remove 68 = .ok (.aload_n 0, 1) := by decide +kernel
theorem dX2_remove_69 : decode cX2_remove 69 = .ok (.dup, 1) := by decide +kernel
theorem dX2_remove_70 : decode cX2_remove 70 = .ok (.getfield 32, 3) := by decide +kernel
theorem dX2_remove_73 : decode cX2_remove 73 = .ok (.iconst 1, 1) := by decide +kernel
theorem dX2_remove_74 : decode cX2_remove 74 = .ok (.isub, 1) := by decide +kernel
theorem dX2_remove_75 : decode cX2_remove 75 = .ok (.putfield 32, 3) := by decide +kernel
theorem dX2_remove_78 : decode cX2_remove 78 = .ok (.return_, 1) := by decide +kernel
theorem dX2_begin_0 : decode cX2_begin 0 = .ok (.aload_n 0, 1) := by decide +kernel
theorem dX2_begin_1 : decode cX2_begin 1 = .ok (.iconst 0, 1) := by decide +kernel
theorem dX2_begin_2 : decode cX2_begin 2 = .ok (.putfield 22, 3) := by decide +kernel
theorem dX2_begin_5 : decode cX2_begin 5 = .ok (.aload_n 0, 1) := by decide +kernel
theorem dX2_begin_6 : decode cX2_begin 6 = .ok (.iconst 0, 1) := by decide +kernel
theorem dX2_begin_7 : decode cX2_begin 7 = .ok (.putfield 35, 3) := by decide +kernel
theorem dX2_begin_10 : decode cX2_begin 10 = .ok (.return_, 1) := by decide +kernel
theorem dX2_end_0 : decode cX2_end 0 = .ok (.aload_n 0, 1) := by decide +kernel
theorem dX2_end_1 : decode cX2_end 1 = .ok (.iconst (-1), 1) := by decide +kernel
theorem dX2_end_2 : decode cX2_end 2 = .ok (.putfield 22, 3) := by decide +kernel
theorem dX2_end_5 : decode cX2_end 5 = .ok (.return_, 1) := by decide +kernel
theorem dX2_minutesToCome_0 : decode cX2_minutesToCome 0 = .ok (.aload_n 0, 1) := by decide +kernel
theorem dX2_minutesToCome_1 : decode cX2_minutesToCome 1 = .ok (.invokevirtual 45, 3) := by decide +kernel
theorem dX2_minutesToCome_4 : decode cX2_minutesToCome 4 = .ok (.ifCond .ne 5, 3) := by decide +kernel
theorem dX2_minutesToCome_7 : decode cX2_minutesToCome 7 = .ok (.iconst 0, 1) := by decide +kernel
theorem dX2_minutesToCome_8 : decode cX2_minutesToCome 8 = .ok (.ireturn, 1) := by decide +kernel
theorem dX2_minutesToCome_9 : decode cX2_minutesToCome 9 = .ok (.aload_n 0, 1) := by decide +kernel
theorem dX2_minutesToCome_10 : decode cX2_minutesToCome 10 = .ok (.getfield 35, 3) := by decide +kernel
theorem dX2_minutesToCome_13 : decode cX2_minutesToCome 13 = .ok (.ineg, 1) := by decide +kernel
theorem dX2_minutesToCome_14 : decode cX2_minutesToCome 14 = .ok (.istore_n 1, 1) := by decide +kernel
theorem dX2_minutesToCome_15 : decode cX2_minutesToCome 15 = .ok (.aload_n 0, 1) := by decide +kernel
theorem dX2_minutesToCome_16 : decode cX2_minutesToCome 16 = .ok (.getfield 22, 3) := by decide +kernel
theorem dX2_minutesToCome_19 : decode cX2_minutesToCome 19 = .ok (.istore_n 2, 1) := by decide +kernel
theorem dX2_minutesToCome_20 : decode cX2_minutesToCome 20 = .ok (.iload_n 2, 1) := by decide +kernel
theorem dX2_minutesToCome_21 : decode cX2_minutesToCome 21 = .ok (.aload_n 0, 1) := by decide +kernel
theorem dX2_minutesToCome_22 : decode cX2_minutesToCome 22 = .ok (.getfield 32, 3) := by decide +kernel
theorem dX2_minutesToCome_25 : decode cX2_minutesToCome 25 = .ok (.if_icmp .ge 18, 3) := by decide +kernel
theorem dX2_minutesToCome_28 : decode cX2_minutesToCome 28 = .ok (.iload_n 1, 1) := by decide +kernel
theorem dX2_minutesToCome_29 : decode cX2_minutesToCome 29 = .ok (.aload_n 0, 1) := by decide +kernel
theorem dX2_minutesToCome_30 : decode cX2_minutesToCome 30 = .ok (.getfield 15, 3) := by decide +kernel
theorem dX2_minutesToCome_33 : decode cX2_minutesToCome 33 = .ok (.iload_n 2, 1) := by decide +kernel
theorem dX2_minutesToCome_34 : decode cX2_minutesToCome 34 = .ok (.iaload, 1) := by decide +kernel
theorem dX2_minutesToCome_35 : decode cX2_minutesToCome 35 = .ok (.iadd, 1) := by decide +kernel
theorem dX2_minutesToCome_36 : decode cX2_minutesToCome 36 = .ok (.istore_n 1, 1) := by decide +kernel
theorem dX2_minutesToCome_37 : decode cX2_minutesToCome 37 = .ok (.iinc 2 1, 3) := by decide +kernel
theorem dX2_minutesToCome_40 : decode cX2_minutesToCome 40 = .ok (.goto (-20), 3) := by decide +kernel
theorem dX2_minutesToCome_43 : decode cX2_minutesToCome 43 = .ok (.iload_n 1, 1) := by decide +kernel
theorem dX2_minutesToCome_44 : decode cX2_minutesToCome 44 = .ok (.ireturn, 1) := by decide +kernel
theorem dX2_advance_0 : decode cX2_advance 0 = .ok (.aload_n 0, 1) := by decide +kernel
theorem dX2_advance_1 : decode cX2_advance 1 = .ok (.dup, 1) := by decide +kernel
theorem dX2_advance_2 : decode cX2_advance 2 = .ok (.getfield 35, 3) := by decide +kernel
theorem dX2_advance_5 : decode cX2_advance 5 = .ok (.iconst 1, 1) := by decide +kernel
theorem dX2_advance_6 : decode cX2_advance 6 = .ok (.iadd, 1) := by decide +kernel
theorem dX2_advance_7 : decode cX2_advance 7 = .ok (.putfield 35, 3) := by decide +kernel
theorem dX2_advance_10 : decode cX2_advance 10 = .ok (.aload_n 0, 1) := by decide +kernel
theorem dX2_advance_11 : decode cX2_advance 11 = .ok (.invokevirtual 45, 3) := by decide +kernel
theorem dX2_advance_14 : decode cX2_advance 14 = .ok (.ifCond .eq 19, 3) := by decide +kernel
theorem dX2_advance_17 : decode cX2_advance 17 = .ok (.aload_n 0, 1) := by decide +kernel
theorem dX2_advance_18 : decode cX2_advance 18 = .ok (.getfield 35, 3) := by decide +kernel
theorem dX2_advance_21 : decode cX2_advance 21 = .ok (.aload_n 0, 1) := by decide +kernel
theorem dX2_advance_22 : decode cX2_advance 22 = .ok (.getfield 15, 3) := by decide +kernel
theorem dX2_advance_25 : decode cX2_advance 25 = .ok (.aload_n 0, 1) := by decide +kernel
theorem dX2_advance_26 : decode cX2_advance 26 = .ok (.getfield 22, 3) := by decide +kernel
theorem dX2_advance_29 : decode cX2_advance 29 = .ok (.iaload, 1) := by decide +kernel
theorem dX2_advance_30 : decode cX2_advance 30 = .ok (.if_icmp .ge 4, 3) := by decide +kernel
theorem dX2_advance_33 : decode cX2_advance 33 = .ok (.return_, 1) := by decide +kernel
theorem dX2_advance_34 : decode cX2_advance 34 = .ok (.aload_n 0, 1) := by decide +kernel
theorem dX2_advance_35 : decode cX2_advance 35 = .ok (.dup, 1) := by decide +kernel
theorem dX2_advance_36 : decode cX2_advance 36 = .ok (.getfield 22, 3) := by decide +kernel
theorem dX2_advance_39 : decode cX2_advance 39 = .ok (.iconst 1, 1) := by decide +kernel
theorem dX2_advance_40 : decode cX2_advance 40 = .ok (.iadd, 1) := by decide +kernel
theorem dX2_advance_41 : decode cX2_advance 41 = .ok (.putfield 22, 3) := by decide +kernel
theorem dX2_advance_44 : decode cX2_advance 44 = .ok (.aload_n 0, 1) := by decide +kernel
theorem dX2_advance_45 : decode cX2_advance 45 = .ok (.iconst 0, 1) := by decide +kernel
theorem dX2_advance_46 : decode cX2_advance 46 = .ok (.putfield 35, 3) := by decide +kernel
theorem dX2_advance_49 : decode cX2_advance 49 = .ok (.aload_n 0, 1) := by decide +kernel
theorem dX2_advance_50 : decode cX2_advance 50 = .ok (.getfield 22, 3) := by decide +kernel
theorem dX2_advance_53 : decode cX2_advance 53 = .ok (.aload_n 0, 1) := by decide +kernel
theorem dX2_advance_54 : decode cX2_advance 54 = .ok (.getfield 32, 3) := by decide +kernel
theorem dX2_advance_57 : decode cX2_advance 57 = .ok (.if_icmp .lt 17, 3) := by decide +kernel
theorem dX2_advance_60 : decode cX2_advance 60 = .ok (.aload_n 0, 1) := by decide +kernel
theorem dX2_advance_61 : decode cX2_advance 61 = .ok (.invokevirtual 49, 3) := by decide +kernel
theorem dX2_advance_64 : decode cX2_advance 64 = .ok (.aload_n 0, 1) := by decide +kernel
theorem dX2_advance_65 : decode cX2_advance 65 = .ok (.dup, 1) := by decide +kernel
theorem dX2_advance_66 : decode cX2_advance 66 = .ok (.getfield 38, 3) := by decide +kernel
theorem dX2_advance_69 : decode cX2_advance 69 = .ok (.iconst 1, 1) := by decide +kernel
theorem dX2_advance_70 : decode cX2_advance 70 = .ok (.iadd, 1) := by decide +kernel
theorem dX2_advance_71 : decode cX2_advance 71 = .ok (.putfield 38, 3) := by decide +kernel
theorem dX2_advance_74 : decode cX2_advance 74 = .ok (.return_, 1) := by decide +kernel
theorem dX3_init_0 : decode cX3_init 0 = .ok (.aload_n 0, 1) := by decide +kernel
theorem dX3_init_1 : decode cX3_init 1 = .ok (.invokespecial 3, 3) := by decide +kernel
theorem dX3_init_4 : decode cX3_init 4 = .ok (.aload_n 0, 1) := by decide +kernel
theorem dX3_init_5 : decode cX3_init 5 = .ok (.bipush 8, 2) := by decide +kernel
theorem dX3_init_7 : decode cX3_init 7 = .ok (.anewarray 9, 3) := by decide +kernel
theorem dX3_init_10 : decode cX3_init 10 = .ok (.putfield 11, 3) := by decide +kernel
theorem dX3_init_13 : decode cX3_init 13 = .ok (.iconst 0, 1) := by decide +kernel
theorem dX3_init_14 : decode cX3_init 14 = .ok (.istore_n 1, 1) := by decide +kernel
theorem dX3_init_15 : decode cX3_init 15 = .ok (.iload_n 1, 1) := by decide +kernel
theorem dX3_init_16 : decode cX3_init 16 = .ok (.bipush 8, 2) := by decide +kernel
theorem dX3_init_18 : decode cX3_init 18 = .ok (.if_icmp .ge 22, 3) := by decide +kernel
theorem dX3_init_21 : decode cX3_init 21 = .ok (.aload_n 0, 1) := by decide +kernel
theorem dX3_init_22 : decode cX3_init 22 = .ok (.getfield 11, 3) := by decide +kernel
theorem dX3_init_25 : decode cX3_init 25 = .ok (.iload_n 1, 1) := by decide +kernel
theorem dX3_init_26 : decode cX3_init 26 = .ok (.new 9, 3) := by decide +kernel
theorem dX3_init_29 : decode cX3_init 29 = .ok (.dup, 1) := by decide +kernel
theorem dX3_init_30 : decode cX3_init 30 = .ok (.invokespecial 17, 3) := by decide +kernel
theorem dX3_init_33 : decode cX3_init 33 = .ok (.aastore, 1) := by decide +kernel
theorem dX3_init_34 : decode cX3_init 34 = .ok (.iinc 1 1, 3) := by decide +kernel
theorem dX3_init_37 : decode cX3_init 37 = .ok (.goto (-22), 3) := by decide +kernel
theorem dX3_init_40 : decode cX3_init 40 = .ok (.return_, 1) := by decide +kernel
theorem dX3_push_0 : decode cX3_push 0 = .ok (.aload_n 0, 1) := by decide +kernel
theorem dX3_push_1 : decode cX3_push 1 = .ok (.getfield 11, 3) := by decide +kernel
theorem dX3_push_4 : decode cX3_push 4 = .ok (.aload_n 0, 1) := by decide +kernel
theorem dX3_push_5 : decode cX3_push 5 = .ok (.getfield 18, 3) := by decide +kernel
theorem dX3_push_8 : decode cX3_push 8 = .ok (.aaload, 1) := by decide +kernel
theorem dX3_push_9 : decode cX3_push 9 = .ok (.aload_n 1, 1) := by decide +kernel
theorem dX3_push_10 : decode cX3_push 10 = .ok (.invokevirtual 22, 3) := by decide +kernel
theorem dX3_push_13 : decode cX3_push 13 = .ok (.aload_n 0, 1) := by decide +kernel
theorem dX3_push_14 : decode cX3_push 14 = .ok (.aload_n 0, 1) := by decide +kernel
theorem dX3_push_15 : decode cX3_push 15 = .ok (.getfield 18, 3) := by decide +kernel
theorem dX3_push_18 : decode cX3_push 18 = .ok (.iconst 1, 1) := by decide +kernel
theorem dX3_push_19 : decode cX3_push 19 = .ok (.iadd, 1) := by decide +kernel
theorem dX3_push_20 : decode cX3_push 20 = .ok (.bipush 8, 2) := by decide +kernel
theorem dX3_push_22 : decode cX3_push 22 = .ok (.irem, 1) := by decide +kernel
theorem dX3_push_23 : decode cX3_push 23 = .ok (.putfield 18, 3) := by decide +kernel
theorem dX3_push_26 : decode cX3_push 26 = .ok (.aload_n 0, 1) := by decide +kernel
theorem dX3_push_27 : decode cX3_push 27 = .ok (.bipush 8, 2) := by decide +kernel
theorem dX3_push_29 : decode cX3_push 29 = .ok (.aload_n 0, 1) := by decide +kernel
theorem dX3_push_30 : decode cX3_push 30 = .ok (.getfield 26, 3) := by decide +kernel
theorem dX3_push_33 : decode cX3_push 33 = .ok (.iconst 1, 1) := by decide +kernel
theorem dX3_push_34 : decode cX3_push 34 = .ok (.iadd, 1) := by decide +kernel
theorem dX3_push_35 : decode cX3_push 35 = .ok (.invokestatic 29, 3) := by decide +kernel
theorem dX3_push_38 : decode cX3_push 38 = .ok (.putfield 26, 3) := by decide +kernel
theorem dX3_push_41 : decode cX3_push 41 = .ok (.return_, 1) := by decide +kernel
theorem dX3_pop_0 : decode cX3_pop 0 = .ok (.aload_n 0, 1) := by decide +kernel
theorem dX3_pop_1 : decode cX3_pop 1 = .ok (.getfield 26, 3) := by decide +kernel
theorem dX3_pop_4 : decode cX3_pop 4 = .ok (.ifCond .le 42, 3) := by decide +kernel
theorem dX3_pop_7 : decode cX3_pop 7 = .ok (.aload_n 0, 1) := by decide +kernel
theorem dX3_pop_8 : decode cX3_pop 8 = .ok (.aload_n 0, 1) := by decide +kernel
theorem dX3_pop_9 : decode cX3_pop 9 = .ok (.getfield 18, 3) := by decide +kernel
theorem dX3_pop_12 : decode cX3_pop 12 = .ok (.bipush 8, 2) := by decide +kernel
theorem dX3_pop_14 : decode cX3_pop 14 = .ok (.iadd, 1) := by decide +kernel
theorem dX3_pop_15 : decode cX3_pop 15 = .ok (.iconst 1, 1) := by decide +kernel
theorem dX3_pop_16 : decode cX3_pop 16 = .ok (.isub, 1) := by decide +kernel
theorem dX3_pop_17 : decode cX3_pop 17 = .ok (.bipush 8, 2) := by decide +kernel
theorem dX3_pop_19 : decode cX3_pop 19 = .ok (.irem, 1) := by decide +kernel
theorem dX3_pop_20 : decode cX3_pop 20 = .ok (.putfield 18, 3) := by decide +kernel
theorem dX3_pop_23 : decode cX3_pop 23 = .ok (.aload_n 1, 1) := by decide +kernel
theorem dX3_pop_24 : decode cX3_pop 24 = .ok (.aload_n 0, 1) := by decide +kernel
theorem dX3_pop_25 : decode cX3_pop 25 = .ok (.getfield 11, 3) := by decide +kernel
theorem dX3_pop_28 : decode cX3_pop 28 = .ok (.aload_n 0, 1) := by decide +kernel
theorem dX3_pop_29 : decode cX3_pop 29 = .ok (.getfield 18, 3) := by decide +kernel
theorem dX3_pop_32 : decode cX3_pop 32 = .ok (.aaload, 1) := by decide +kernel
theorem dX3_pop_33 : decode cX3_pop 33 = .ok (.invokevirtual 22, 3) := by decide +kernel
theorem dX3_pop_36 : decode cX3_pop 36 = .ok (.aload_n 0, 1) := by decide +kernel
theorem dX3_pop_37 : decode cX3_pop 37 = .ok (.dup, 1) := by decide +kernel
theorem dX3_pop_38 : decode cX3_pop 38 = .ok (.getfield 26, 3) := by decide +kernel
theorem dX3_pop_41 : decode cX3_pop 41 = .ok (.iconst 1, 1) := by decide +kernel
theorem dX3_pop_42 : decode cX3_pop 42 = .ok (.isub, 1) := by decide +kernel
theorem dX3_pop_43 : decode cX3_pop 43 = .ok (.putfield 26, 3) := by decide +kernel
theorem dX3_pop_46 : decode cX3_pop 46 = .ok (.return_, 1) := by decide +kernel
theorem dX3_forgetAll_0 : decode cX3_forgetAll 0 = .ok (.aload_n 0, 1) := by decide +kernel
theorem dX3_forgetAll_1 : decode cX3_forgetAll 1 = .ok (.iconst 0, 1) := by decide +kernel
theorem dX3_forgetAll_2 : decode cX3_forgetAll 2 = .ok (.putfield 26, 3) := by decide +kernel
theorem dX3_forgetAll_5 : decode cX3_forgetAll 5 = .ok (.return_, 1) := by decide +kernel
theorem dX4_init_0 : decode cX4_init 0 = .ok (.aload_n 0, 1) := by decide +kernel
theorem dX4_init_1 : decode cX4_init 1 = .ok (.invokespecial 3, 3) := by decide +kernel
theorem dX4_init_4 : decode cX4_init 4 = .ok (.aload_n 0, 1) := by decide +kernel
theorem dX4_init_5 : decode cX4_init 5 = .ok (.bipush 12, 2) := by decide +kernel
theorem dX4_init_7 : decode cX4_init 7 = .ok (.newarray .int, 2) := by decide +kernel
theorem dX4_init_9 : decode cX4_init 9 = .ok (.putfield 9, 3) := by decide +kernel
theorem dX4_init_12 : decode cX4_init 12 = .ok (.aload_n 0, 1) := by decide +kernel
theorem dX4_init_13 : decode cX4_init 13 = .ok (.bipush 12, 2) := by decide +kernel
theorem dX4_init_15 : decode cX4_init 15 = .ok (.newarray .int, 2) := by decide +kernel
theorem dX4_init_17 : decode cX4_init 17 = .ok (.putfield 15, 3) := by decide +kernel
theorem dX4_init_20 : decode cX4_init 20 = .ok (.aload_n 0, 1) := by decide +kernel
theorem dX4_init_21 : decode cX4_init 21 = .ok (.bipush 12, 2) := by decide +kernel
theorem dX4_init_23 : decode cX4_init 23 = .ok (.newarray .int, 2) := by decide +kernel
theorem dX4_init_25 : decode cX4_init 25 = .ok (.putfield 18, 3) := by decide +kernel
theorem dX4_init_28 : decode cX4_init 28 = .ok (.aload_n 0, 1) := by decide +kernel
theorem dX4_init_29 : decode cX4_init 29 = .ok (.bipush 12, 2) := by decide +kernel
theorem dX4_init_31 : decode cX4_init 31 = .ok (.newarray .int, 2) := by decide +kernel
theorem dX4_init_33 : decode cX4_init 33 = .ok (.putfield 21, 3) := by decide +kernel
theorem dX4_init_36 : decode cX4_init 36 = .ok (.return_, 1) := by decide +kernel
theorem dX4_copyFrom_0 : decode cX4_copyFrom 0 = .ok (.aload_n 1, 1) := by decide +kernel
theorem dX4_copyFrom_1 : decode cX4_copyFrom 1 = .ok (.getfield 9, 3) := by decide +kernel
theorem dX4_copyFrom_4 : decode cX4_copyFrom 4 = .ok (.iconst 0, 1) := by decide +kernel
theorem dX4_copyFrom_5 : decode cX4_copyFrom 5 = .ok (.aload_n 0, 1) := by decide +kernel
theorem dX4_copyFrom_6 : decode cX4_copyFrom 6 = .ok (.getfield 9, 3) := by decide +kernel
theorem dX4_copyFrom_9 : decode cX4_copyFrom 9 = .ok (.iconst 0, 1) := by decide +kernel
theorem dX4_copyFrom_10 : decode cX4_copyFrom 10 = .ok (.bipush 12, 2) := by decide +kernel
theorem dX4_copyFrom_12 : decode cX4_copyFrom 12 = .ok (.invokestatic 24, 3) := by decide +kernel
theorem dX4_copyFrom_15 : decode cX4_copyFrom 15 = .ok (.aload_n 1, 1) := by decide +kernel
theorem dX4_copyFrom_16 : decode cX4_copyFrom 16 = .ok (.getfield 15, 3) := by decide +kernel
theorem dX4_copyFrom_19 : decode cX4_copyFrom 19 = .ok (.iconst 0, 1) := by decide +kernel
theorem dX4_copyFrom_20 : decode cX4_copyFrom 20 = .ok (.aload_n 0, 1) := by decide +kernel
theorem dX4_copyFrom_21 : decode cX4_copyFrom 21 = .ok (.getfield 15, 3) := by decide +kernel
theorem dX4_copyFrom_24 : decode cX4_copyFrom 24 = .ok (.iconst 0, 1) := by decide +kernel
theorem dX4_copyFrom_25 : decode cX4_copyFrom 25 = .ok (.bipush 12, 2) := by decide +kernel
theorem dX4_copyFrom_27 : decode cX4_copyFrom 27 = .ok (.invokestatic 24, 3) := by decide +kernel
theorem dX4_copyFrom_30 : decode cX4_copyFrom 30 = .ok (.aload_n 1, 1) := by decide +kernel
theorem dX4_copyFrom_31 : decode cX4_copyFrom 31 = .ok (.getfield 18, 3) := by decide +kernel
theorem dX4_copyFrom_34 : decode cX4_copyFrom 34 = .ok (.iconst 0, 1) := by decide +kernel
theorem dX4_copyFrom_35 : decode cX4_copyFrom 35 = .ok (.aload_n 0, 1) := by decide +kernel
theorem dX4_copyFrom_36 : decode cX4_copyFrom 36 = .ok (.getfield 18, 3) := by decide +kernel
theorem dX4_copyFrom_39 : decode cX4_copyFrom 39 = .ok (.iconst 0, 1) := by decide +kernel
theorem dX4_copyFrom_40 : decode cX4_copyFrom 40 = .ok (.bipush 12, 2) := by decide +kernel
theorem dX4_copyFrom_42 : decode cX4_copyFrom 42 = .ok (.invokestatic 24, 3) := by decide +kernel
theorem dX4_copyFrom_45 : decode cX4_copyFrom 45 = .ok (.aload_n 1, 1) := by decide +kernel
theorem dX4_copyFrom_46 : decode cX4_copyFrom 46 = .ok (.getfield 21, 3) := by decide +kernel
theorem dX4_copyFrom_49 : decode cX4_copyFrom 49 = .ok (.iconst 0, 1) := by decide +kernel
theorem dX4_copyFrom_50 : decode cX4_copyFrom 50 = .ok (.aload_n 0, 1) := by decide +kernel
theorem dX4_copyFrom_51 : decode cX4_copyFrom 51 = .ok (.getfield 21, 3) := by decide +kernel
theorem dX4_copyFrom_54 : decode cX4_copyFrom 54 = .ok (.iconst 0, 1) := by decide +kernel
theorem dX4_copyFrom_55 : decode cX4_copyFrom 55 = .ok (.bipush 12, 2) := by decide +kernel
theorem dX4_copyFrom_57 : decode cX4_copyFrom 57 = .ok (.invokestatic 24, 3) := by decide +kernel
theorem dX4_copyFrom_60 : decode cX4_copyFrom 60 = .ok (.aload_n 0, 1) := by decide +kernel
theorem dX4_copyFrom_61 : decode cX4_copyFrom 61 = .ok (.aload_n 1, 1) := by decide +kernel
theorem dX4_copyFrom_62 : decode cX4_copyFrom 62 = .ok (.getfield 30, 3) := by decide +kernel
theorem dX4_copyFrom_65 : decode cX4_copyFrom 65 = .ok (.putfield 30, 3) := by decide +kernel
theorem dX4_copyFrom_68 : decode cX4_copyFrom 68 = .ok (.return_, 1) := by decide +kernel
theorem dX4_has_0 : decode cX4_has 0 = .ok (.iload_n 1, 1) := by decide +kernel
theorem dX4_has_1 : decode cX4_has 1 = .ok (.ifCond .lt 15, 3) := by decide +kernel
theorem dX4_has_4 : decode cX4_has 4 = .ok (.iload_n 1, 1) := by decide +kernel
theorem dX4_has_5 : decode cX4_has 5 = .ok (.aload_n 0, 1) := by decide +kernel
theorem dX4_has_6 : decode cX4_has 6 = .ok (.getfield 30, 3) := by decide +kernel
theorem dX4_has_9 : decode cX4_has 9 = .ok (.if_icmp .ge 7, 3) := by decide +kernel
theorem dX4_has_12 : decode cX4_has 12 = .ok (.iconst 1, 1) := by decide +kernel
theorem dX4_has_13 : decode cX4_has 13 = .ok (.goto 4, 3) := by decide +kernel
theorem dX4_has_16 : decode cX4_has 16 = .ok (.iconst 0, 1) := by decide +kernel
theorem dX4_has_17 : decode cX4_has 17 = .ok (.ireturn, 1) := by decide +kernel
theorem dX4_massOf_0 : decode cX4_massOf 0 = .ok (.aload_n 0, 1) := by decide +kernel
theorem dX4_massOf_1 : decode cX4_massOf 1 = .ok (.iload_n 1, 1) := by decide +kernel
theorem dX4_massOf_2 : decode cX4_massOf 2 = .ok (.invokevirtual 34, 3) := by decide +kernel
theorem dX4_massOf_5 : decode cX4_massOf 5 = .ok (.ifCond .eq 12, 3) := by decide +kernel
theorem dX4_massOf_8 : decode cX4_massOf 8 = .ok (.aload_n 0, 1) := by decide +kernel
theorem dX4_massOf_9 : decode cX4_massOf 9 = .ok (.getfield 9, 3) := by decide +kernel
theorem dX4_massOf_12 : decode cX4_massOf 12 = .ok (.iload_n 1, 1) := by decide +kernel
theorem dX4_massOf_13 : decode cX4_massOf 13 = .ok (.iaload, 1) := by decide +kernel
theorem dX4_massOf_14 : decode cX4_massOf 14 = .ok (.goto 4, 3) := by decide +kernel
theorem dX4_massOf_17 : decode cX4_massOf 17 = .ok (.iconst 0, 1) := by decide +kernel
theorem dX4_massOf_18 : decode cX4_massOf 18 = .ok (.ireturn, 1) := by decide +kernel
theorem dX4_temperatureOf_0 : decode cX4_temperatureOf 0 = .ok (.aload_n 0, 1) := by decide +kernel
theorem dX4_temperatureOf_1 : decode cX4_temperatureOf 1 = .ok (.iload_n 1, 1) := by decide +kernel
theorem dX4_temperatureOf_2 : decode cX4_temperatureOf 2 = .ok (.invokevirtual 34, 3) := by decide +kernel
theorem dX4_temperatureOf_5 : decode cX4_temperatureOf 5 = .ok (.ifCond .eq 12, 3) := by decide +kernel
theorem dX4_temperatureOf_8 : decode cX4_temperatureOf 8 = .ok (.aload_n 0, 1) := by decide +kernel
theorem dX4_temperatureOf_9 : decode cX4_temperatureOf 9 = .ok (.getfield 15, 3) := by decide +kernel
theorem dX4_temperatureOf_12 : decode cX4_temperatureOf 12 = .ok (.iload_n 1, 1) := by decide +kernel
theorem dX4_temperatureOf_13 : decode cX4_temperatureOf 13 = .ok (.iaload, 1) := by decide +kernel
theorem dX4_temperatureOf_14 : decode cX4_temperatureOf 14 = .ok (.goto 4, 3) := by decide +kernel
theorem dX4_temperatureOf_17 : decode cX4_temperatureOf 17 = .ok (.iconst 0, 1) := by decide +kernel
theorem dX4_temperatureOf_18 : decode cX4_temperatureOf 18 = .ok (.ireturn, 1) := by decide +kernel
theorem dX4_firmnessOf_0 : decode cX4_firmnessOf 0 = .ok (.aload_n 0, 1) := by decide +kernel
theorem dX4_firmnessOf_1 : decode cX4_firmnessOf 1 = .ok (.iload_n 1, 1) := by decide +kernel
theorem dX4_firmnessOf_2 : decode cX4_firmnessOf 2 = .ok (.invokevirtual 34, 3) := by decide +kernel
theorem dX4_firmnessOf_5 : decode cX4_firmnessOf 5 = .ok (.ifCond .eq 22, 3) := by decide +kernel
theorem dX4_firmnessOf_8 : decode cX4_firmnessOf 8 = .ok (.aload_n 0, 1) := by decide +kernel
theorem dX4_firmnessOf_9 : decode cX4_firmnessOf 9 = .ok (.getfield 18, 3) := by decide +kernel
theorem dX4_firmnessOf_12 : decode cX4_firmnessOf 12 = .ok (.iload_n 1, 1) := by decide +kernel
theorem dX4_firmnessOf_13 : decode cX4_firmnessOf 13 = .ok (.iaload, 1) := by decide +kernel
theorem dX4_firmnessOf_14 : decode cX4_firmnessOf 14 = .ok (.bipush 15, 2) := by decide +kernel
theorem dX4_firmnessOf_16 : decode cX4_firmnessOf 16 = .ok (.aload_n 0, 1) := by decide +kernel
theorem dX4_firmnessOf_17 : decode cX4_firmnessOf 17 = .ok (.getfield 21, 3) := by decide +kernel
theorem dX4_firmnessOf_20 : decode cX4_firmnessOf 20 = .ok (.iload_n 1, 1) := by decide +kernel
theorem dX4_firmnessOf_21 : decode cX4_firmnessOf 21 = .ok (.iaload, 1) := by decide +kernel
theorem dX4_firmnessOf_22 : decode cX4_firmnessOf 22 = .ok (.imul, 1) := by decide +kernel
theorem dX4_firmnessOf_23 : decode cX4_firmnessOf 23 = .ok (.isub, 1) := by decide +kernel
theorem dX4_firmnessOf_24 : decode cX4_firmnessOf 24 = .ok (.goto 4, 3) := by decide +kernel
theorem dX4_firmnessOf_27 : decode cX4_firmnessOf 27 = .ok (.iconst 0, 1) := by decide +kernel
theorem dX4_firmnessOf_28 : decode cX4_firmnessOf 28 = .ok (.ireturn, 1) := by decide +kernel
theorem dX4_hasCool_0 : decode cX4_hasCool 0 = .ok (.aload_n 0, 1) := by decide +kernel
theorem dX4_hasCool_1 : decode cX4_hasCool 1 = .ok (.iload_n 1, 1) := by decide +kernel
theorem dX4_hasCool_2 : decode cX4_hasCool 2 = .ok (.invokevirtual 34, 3) := by decide +kernel
theorem dX4_hasCool_5 : decode cX4_hasCool 5 = .ok (.ifCond .eq 18, 3) := by decide +kernel
theorem dX4_hasCool_8 : decode cX4_hasCool 8 = .ok (.aload_n 0, 1) := by decide +kernel
theorem dX4_hasCool_9 : decode cX4_hasCool 9 = .ok (.getfield 15, 3) := by decide +kernel
theorem dX4_hasCool_12 : decode cX4_hasCool 12 = .ok (.iload_n 1, 1) := by decide +kernel
theorem dX4_hasCool_13 : decode cX4_hasCool 13 = .ok (.iaload, 1) := by decide +kernel
theorem dX4_hasCool_14 : decode cX4_hasCool 14 = .ok (.bipush 30, 2) := by decide +kernel
theorem dX4_hasCool_16 : decode cX4_hasCool 16 = .ok (.if_icmp .gt 7, 3) := by decide +kernel
theorem dX4_hasCool_19 : decode cX4_hasCool 19 = .ok (.iconst 1, 1) := by decide +kernel
theorem dX4_hasCool_20 : decode cX4_hasCool 20 = .ok (.goto 4, 3) := by decide +kernel
theorem dX4_hasCool_23 : decode cX4_hasCool 23 = .ok (.iconst 0, 1) := by decide +kernel
theorem dX4_hasCool_24 : decode cX4_hasCool 24 = .ok (.ireturn, 1) := by decide +kernel
theorem dX4_gradeOf_0 : decode cX4_gradeOf 0 = .ok (.aload_n 0, 1) := by decide +kernel
theorem dX4_gradeOf_1 : decode cX4_gradeOf 1 = .ok (.iload_n 1, 1) := by decide +kernel
theorem dX4_gradeOf_2 : decode cX4_gradeOf 2 = .ok (.invokevirtual 38, 3) := by decide +kernel
theorem dX4_gradeOf_5 : decode cX4_gradeOf 5 = .ok (.istore_n 2, 1) := by decide +kernel
theorem dX4_gradeOf_6 : decode cX4_gradeOf 6 = .ok (.iload_n 2, 1) := by decide +kernel
theorem dX4_gradeOf_7 : decode cX4_gradeOf 7 = .ok (.bipush 80, 2) := by decide +kernel
theorem dX4_gradeOf_9 : decode cX4_gradeOf 9 = .ok (.if_icmp .lt 5, 3) := by decide +kernel
theorem dX4_gradeOf_12 : decode cX4_gradeOf 12 = .ok (.iconst 0, 1) := by decide +kernel
theorem dX4_gradeOf_13 : decode cX4_gradeOf 13 = .ok (.ireturn, 1) := by decide +kernel
theorem dX4_gradeOf_14 : decode cX4_gradeOf 14 = .ok (.iload_n 2, 1) := by decide +kernel
theorem dX4_gradeOf_15 : decode cX4_gradeOf 15 = .ok (.bipush 60, 2) := by decide +kernel
theorem dX4_gradeOf_17 : decode cX4_gradeOf 17 = .ok (.if_icmp .lt 5, 3) := by decide +kernel
theorem dX4_gradeOf_20 : decode cX4_gradeOf 20 = .ok (.iconst 1, 1) := by decide +kernel
theorem dX4_gradeOf_21 : decode cX4_gradeOf 21 = .ok (.ireturn, 1) := by decide +kernel
theorem dX4_gradeOf_22 : decode cX4_gradeOf 22 = .ok (.iload_n 2, 1) := by decide +kernel
theorem dX4_gradeOf_23 : decode cX4_gradeOf 23 = .ok (.bipush 40, 2) := by decide +kernel
theorem dX4_gradeOf_25 : decode cX4_gradeOf 25 = .ok (.if_icmp .lt 5, 3) := by decide +kernel
theorem dX4_gradeOf_28 : decode cX4_gradeOf 28 = .ok (.iconst 2, 1) := by decide +kernel
theorem dX4_gradeOf_29 : decode cX4_gradeOf 29 = .ok (.ireturn, 1) := by decide +kernel
theorem dX4_gradeOf_30 : decode cX4_gradeOf 30 = .ok (.iload_n 2, 1) := by decide +kernel
theorem dX4_gradeOf_31 : decode cX4_gradeOf 31 = .ok (.bipush 20, 2) := by decide +kernel
theorem dX4_gradeOf_33 : decode cX4_gradeOf 33 = .ok (.if_icmp .lt 7, 3) := by decide +kernel
theorem dX4_gradeOf_36 : decode cX4_gradeOf 36 = .ok (.iconst 3, 1) := by decide +kernel
theorem dX4_gradeOf_37 : decode cX4_gradeOf 37 = .ok (.goto 4, 3) := by decide +kernel
theorem dX4_gradeOf_40 : decode cX4_gradeOf 40 = .ok (.iconst 4, 1) := by decide +kernel
theorem dX4_gradeOf_41 : decode cX4_gradeOf 41 = .ok (.ireturn, 1) := by decide +kernel
theorem dX4_append_0 : decode cX4_append 0 = .ok (.aload_n 0, 1) := by decide +kernel
theorem dX4_append_1 : decode cX4_append 1 = .ok (.getfield 30, 3) := by decide +kernel
theorem dX4_append_4 : decode cX4_append 4 = .ok (.bipush 12, 2) := by decide +kernel
theorem dX4_append_6 : decode cX4_append 6 = .ok (.if_icmp .ge 54, 3) := by decide +kernel
theorem dX4_append_9 : decode cX4_append 9 = .ok (.aload_n 0, 1) := by decide +kernel
theorem dX4_append_10 : decode cX4_append 10 = .ok (.getfield 9, 3) := by decide +kernel
theorem dX4_append_13 : decode cX4_append 13 = .ok (.aload_n 0, 1) := by decide +kernel
theorem dX4_append_14 : decode cX4_append 14 = .ok (.getfield 30, 3) := by decide +kernel
theorem dX4_append_17 : decode cX4_append 17 = .ok (.iload_n 1, 1) := by decide +kernel
theorem dX4_append_18 : decode cX4_append 18 = .ok (.iastore, 1) := by decide +kernel
theorem dX4_append_19 : decode cX4_append 19 = .ok (.aload_n 0, 1) := by decide +kernel
theorem dX4_append_20 : decode cX4_append 20 = .ok (.getfield 15, 3) := by decide +kernel
theorem dX4_append_23 : decode cX4_append 23 = .ok (.aload_n 0, 1) := by decide +kernel
theorem dX4_append_24 : decode cX4_append 24 = .ok (.getfield 30, 3) := by decide +kernel
theorem dX4_append_27 : decode cX4_append 27 = .ok (.iload_n 2, 1) := by decide +kernel
theorem dX4_append_28 : decode cX4_append 28 = .ok (.iastore, 1) := by decide +kernel
theorem dX4_append_29 : decode cX4_append 29 = .ok (.aload_n 0, 1) := by decide +kernel
theorem dX4_append_30 : decode cX4_append 30 = .ok (.getfield 18, 3) := by decide +kernel
theorem dX4_append_33 : decode cX4_append 33 = .ok (.aload_n 0, 1) := by decide +kernel
theorem dX4_append_34 : decode cX4_append 34 = .ok (.getfield 30, 3) := by decide +kernel
theorem dX4_append_37 : decode cX4_append 37 = .ok (.iload_n 3, 1) := by decide +kernel
theorem dX4_append_38 : decode cX4_append 38 = .ok (.iastore, 1) := by decide +kernel
theorem dX4_append_39 : decode cX4_append 39 = .ok (.aload_n 0, 1) := by decide +kernel
theorem dX4_append_40 : decode cX4_append 40 = .ok (.getfield 21, 3) := by decide +kernel
theorem dX4_append_43 : decode cX4_append 43 = .ok (.aload_n 0, 1) := by decide +kernel
theorem dX4_append_44 : decode cX4_append 44 = .ok (.getfield 30, 3) := by decide +kernel
theorem dX4_append_47 : decode cX4_append 47 = .ok (.iload 4, 2) := by decide +kernel
theorem dX4_append_49 : decode cX4_append 49 = .ok (.iastore, 1) := by decide +kernel
theorem dX4_append_50 : decode cX4_append 50 = .ok (.aload_n 0, 1) := by decide +kernel
theorem dX4_append_51 : decode cX4_append 51 = .ok (.dup, 1) := by decide +kernel
theorem dX4_append_52 : decode cX4_append 52 = .ok (.getfield 30, 3) := by decide +kernel
theorem dX4_append_55 : decode cX4_append 55 = .ok (.iconst 1, 1) := by decide +kernel
theorem dX4_append_56 : decode cX4_append 56 = .ok (.iadd, 1) := by decide +kernel
theorem dX4_append_57 : decode cX4_append 57 = .ok (.putfield 30, 3) := by decide +kernel
theorem dX4_append_60 : decode cX4_append 60 = .ok (.return_, 1) := by decide +kernel
theorem dX4_remove_0 : decode cX4_remove 0 = .ok (.aload_n 0, 1) := by decide +kernel
theorem dX4_remove_1 : decode cX4_remove 1 = .ok (.iload_n 1, 1) := by decide +kernel
theorem dX4_remove_2 : decode cX4_remove 2 = .ok (.invokevirtual 34, 3) := by decide +kernel
theorem dX4_remove_5 : decode cX4_remove 5 = .ok (.ifCond .eq 87, 3) := by decide +kernel
theorem dX4_remove_8 : decode cX4_remove 8 = .ok (.iload_n 1, 1) := by decide +kernel
theorem dX4_remove_9 : decode cX4_remove 9 = .ok (.istore_n 2, 1) := by decide +kernel
theorem dX4_remove_10 : decode cX4_remove 10 = .ok (.iload_n 2, 1) := by decide +kernel
theorem dX4_remove_11 : decode cX4_remove 11 = .ok (.iconst 1, 1) := by decide +kernel
theorem dX4_remove_12 : decode cX4_remove 12 = .ok (.iadd, 1) := by decide +kernel
theorem dX4_remove_13 : decode cX4_remove 13 = .ok (.aload_n 0, 1) := by decide +kernel
theorem dX4_remove_14 : decode cX4_remove 14 = .ok (.getfield 30, 3) := by decide +kernel
theorem dX4_remove_17 : decode cX4_remove 17 = .ok (.if_icmp .ge 65, 3) := by decide +kernel
theorem dX4_remove_20 : decode cX4_remove 20 = .ok (.aload_n 0, 1) := by decide +kernel
theorem dX4_remove_21 : decode cX4_remove 21 = .ok (.getfield 9, 3) := by decide +kernel
theorem dX4_remove_24 : decode cX4_remove 24 = .ok (.iload_n 2, 1) := by decide +kernel
theorem dX4_remove_25 : decode cX4_remove 25 = .ok (.aload_n 0, 1) := by decide +kernel
theorem dX4_remove_26 : decode cX4_remove 26 = .ok (.getfield 9, 3) := by decide +kernel
theorem dX4_remove_29 : decode cX4_remove 29 = .ok (.iload_n 2, 1) := by decide +kernel
theorem dX4_remove_30 : decode cX4_remove 30 = .ok (.iconst 1, 1) := by decide +kernel
theorem dX4_remove_31 : decode cX4_remove 31 = .ok (.iadd, 1) := by decide +kernel
theorem dX4_remove_32 : decode cX4_remove 32 = .ok (.iaload, 1) := by decide +kernel
theorem dX4_remove_33 : decode cX4_remove 33 = .ok (.iastore, 1) := by decide +kernel
theorem dX4_remove_34 : decode cX4_remove 34 = .ok (.aload_n 0, 1) := by decide +kernel
theorem dX4_remove_35 : decode cX4_remove 35 = .ok (.getfield 15, 3) := by decide +kernel
theorem dX4_remove_38 : decode cX4_remove 38 = .ok (.iload_n 2, 1) := by decide +kernel
theorem dX4_remove_39 : decode cX4_remove 39 = .ok (.aload_n 0, 1) := by decide +kernel
theorem dX4_remove_40 : decode cX4_remove 40 = .ok (.getfield 15, 3) := by decide +kernel
theorem dX4_remove_43 : decode cX4_remove 43 = .ok (.iload_n 2, 1) := by decide +kernel
theorem dX4_remove_44 : decode cX4_remove 44 = .ok (.iconst 1, 1) := by decide +kernel
theorem dX4_remove_45 : decode cX4_remove 45 = .ok (.iadd, 1) := by decide +kernel
theorem dX4_remove_46 : decode cX4_remove 46 = .ok (.iaload, 1) := by decide +kernel
theorem dX4_remove_47 : decode cX4_remove 47 = .ok (.iastore, 1) := by decide +kernel
theorem dX4_remove_48 : decode cX4_remove 48 = .ok (.aload_n 0, 1) := by decide +kernel
theorem dX4_remove_49 : decode cX4_remove 49 = .ok (.getfield 18, 3) := by decide +kernel
theorem dX4_remove_52 : decode cX4_remove 52 = .ok (.iload_n 2, 1) := by decide +kernel
theorem dX4_remove_53 : decode cX4_remove 53 = .ok (.aload_n 0, 1) := by decide +kernel
theorem dX4_remove_54 : decode cX4_remove 54 = .ok (.getfield 18, 3) := by decide +kernel
theorem dX4_remove_57 : decode cX4_remove 57 = .ok (.iload_n 2, 1) := by decide +kernel
theorem dX4_remove_58 : decode cX4_remove 58 = .ok (.iconst 1, 1) := by decide +kernel
theorem dX4_remove_59 : decode cX4_remove 59 = .ok (.iadd, 1) := by decide +kernel
theorem dX4_remove_60 : decode cX4_remove 60 = .ok (.iaload, 1) := by decide +kernel
theorem dX4_remove_61 : decode cX4_remove 61 = .ok (.iastore, 1) := by decide +kernel
theorem dX4_remove_62 : decode cX4_remove 62 = .ok (.aload_n 0, 1) := by decide +kernel
theorem dX4_remove_63 : decode cX4_remove 63 = .ok (.getfield 21, 3) := by decide +kernel
theorem dX4_remove_66 : decode cX4_remove 66 = .ok (.iload_n 2, 1) := by decide +kernel
theorem dX4_remove_67 : decode cX4_remove 67 = .ok (.aload_n 0, 1) := by decide +kernel
theorem dX4_remove_68 : decode cX4_remove 68 = .ok (.getfield 21, 3) := by decide +kernel
theorem dX4_remove_71 : decode cX4_remove 71 = .ok (.iload_n 2, 1) := by decide +kernel
theorem dX4_remove_72 : decode cX4_remove 72 = .ok (.iconst 1, 1) := by decide +kernel
theorem dX4_remove_73 : decode cX4_remove 73 = .ok (.iadd, 1) := by decide +kernel
theorem dX4_remove_74 : decode cX4_remove 74 = .ok (.iaload, 1) := by decide +kernel
theorem dX4_remove_75 : decode cX4_remove 75 = .ok (.iastore, 1) := by decide +kernel
theorem dX4_remove_76 : decode cX4_remove 76 = .ok (.iinc 2 1, 3) := by decide +kernel
theorem dX4_remove_79 : decode cX4_remove 79 = .ok (.goto (-69), 3) := by decide +kernel
theorem dX4_remove_82 : decode cX4_remove 82 = .ok (.aload_n 0, 1) := by decide +kernel
theorem dX4_remove_83 : decode cX4_remove 83 = .ok (.dup, 1) := by decide +kernel
theorem dX4_remove_84 : decode cX4_remove 84 = .ok (.getfield 30, 3) := by decide +kernel
theorem dX4_remove_87 : decode cX4_remove 87 = .ok (.iconst 1, 1) := by decide +kernel
theorem dX4_remove_88 : decode cX4_remove 88 = .ok (.isub, 1) := by decide +kernel
theorem dX4_remove_89 : decode cX4_remove 89 = .ok (.putfield 30, 3) := by decide +kernel
theorem dX4_remove_92 : decode cX4_remove 92 = .ok (.return_, 1) := by decide +kernel
theorem dX4_coolDown_0 : decode cX4_coolDown 0 = .ok (.iconst 0, 1) := by decide +kernel
theorem dX4_coolDown_1 : decode cX4_coolDown 1 = .ok (.istore_n 1, 1) := by decide +kernel
theorem dX4_coolDown_2 : decode cX4_coolDown 2 = .ok (.iload_n 1, 1) := by decide +kernel
theorem dX4_coolDown_3 : decode cX4_coolDown 3 = .ok (.aload_n 0, 1) := by decide +kernel
theorem dX4_coolDown_4 : decode cX4_coolDown 4 = .ok (.getfield 30, 3) := by decide +kernel
theorem dX4_coolDown_7 : decode cX4_coolDown 7 = .ok (.if_icmp .ge 39, 3) := by decide +kernel
theorem dX4_coolDown_10 : decode cX4_coolDown 10 = .ok (.aload_n 0, 1) := by decide +kernel
theorem dX4_coolDown_11 : decode cX4_coolDown 11 = .ok (.getfield 15, 3) := by decide +kernel
theorem dX4_coolDown_14 : decode cX4_coolDown 14 = .ok (.iload_n 1, 1) := by decide +kernel
theorem dX4_coolDown_15 : decode cX4_coolDown 15 = .ok (.iaload, 1) := by decide +kernel
theorem dX4_coolDown_16 : decode cX4_coolDown 16 = .ok (.bipush 20, 2) := by decide +kernel
theorem dX4_coolDown_18 : decode cX4_coolDown 18 = .ok (.if_icmp .le 22, 3) := by decide +kernel
theorem dX4_coolDown_21 : decode cX4_coolDown 21 = .ok (.aload_n 0, 1) := by decide +kernel
theorem dX4_coolDown_22 : decode cX4_coolDown 22 = .ok (.getfield 15, 3) := by decide +kernel
theorem dX4_coolDown_25 : decode cX4_coolDown 25 = .ok (.iload_n 1, 1) := by decide +kernel
theorem dX4_coolDown_26 : decode cX4_coolDown 26 = .ok (.bipush 20, 2) := by decide +kernel
theorem dX4_coolDown_28 : decode cX4_coolDown 28 = .ok (.aload_n 0, 1) := by decide +kernel
theorem dX4_coolDown_29 : decode cX4_coolDown 29 = .ok (.getfield 15, 3) := by decide +kernel
theorem dX4_coolDown_32 : decode cX4_coolDown 32 = .ok (.iload_n 1, 1) := by decide +kernel
theorem dX4_coolDown_33 : decode cX4_coolDown 33 = .ok (.iaload, 1) := by decide +kernel
theorem dX4_coolDown_34 : decode cX4_coolDown 34 = .ok (.iconst 5, 1) := by decide +kernel
theorem dX4_coolDown_35 : decode cX4_coolDown 35 = .ok (.isub, 1) := by decide +kernel
theorem dX4_coolDown_36 : decode cX4_coolDown 36 = .ok (.invokestatic 42, 3) := by decide +kernel
theorem dX4_coolDown_39 : decode cX4_coolDown 39 = .ok (.iastore, 1) := by decide +kernel
theorem dX4_coolDown_40 : decode cX4_coolDown 40 = .ok (.iinc 1 1, 3) := by decide +kernel
theorem dX4_coolDown_43 : decode cX4_coolDown 43 = .ok (.goto (-41), 3) := by decide +kernel
theorem dX4_coolDown_46 : decode cX4_coolDown 46 = .ok (.return_, 1) := by decide +kernel
theorem dX4_firmnessOfAll_0 : decode cX4_firmnessOfAll 0 = .ok (.iconst 0, 1) := by decide +kernel
theorem dX4_firmnessOfAll_1 : decode cX4_firmnessOfAll 1 = .ok (.istore_n 1, 1) := by decide +kernel
theorem dX4_firmnessOfAll_2 : decode cX4_firmnessOfAll 2 = .ok (.iconst 0, 1) := by decide +kernel
theorem dX4_firmnessOfAll_3 : decode cX4_firmnessOfAll 3 = .ok (.istore_n 2, 1) := by decide +kernel
theorem dX4_firmnessOfAll_4 : decode cX4_firmnessOfAll 4 = .ok (.iload_n 2, 1) := by decide +kernel
theorem dX4_firmnessOfAll_5 : decode cX4_firmnessOfAll 5 = .ok (.aload_n 0, 1) := by decide +kernel
theorem dX4_firmnessOfAll_6 : decode cX4_firmnessOfAll 6 = .ok (.getfield 30, 3) := by decide +kernel
theorem dX4_firmnessOfAll_9 : decode cX4_firmnessOfAll 9 = .ok (.if_icmp .ge 17, 3) := by decide +kernel
theorem dX4_firmnessOfAll_12 : decode cX4_firmnessOfAll 12 = .ok (.iload_n 1, 1) := by decide +kernel
theorem dX4_firmnessOfAll_13 : decode cX4_firmnessOfAll 13 = .ok (.aload_n 0, 1) := by decide +kernel
theorem dX4_firmnessOfAll_14 : decode cX4_firmnessOfAll 14 = .ok (.iload_n 2, 1) := by decide +kernel
theorem dX4_firmnessOfAll_15 : decode cX4_firmnessOfAll 15 = .ok (.invokevirtual 38, 3) := by decide +kernel
theorem dX4_firmnessOfAll_18 : decode cX4_firmnessOfAll 18 = .ok (.iadd, 1) := by decide +kernel
theorem dX4_firmnessOfAll_19 : decode cX4_firmnessOfAll 19 = .ok (.istore_n 1, 1) := by decide +kernel
theorem dX4_firmnessOfAll_20 : decode cX4_firmnessOfAll 20 = .ok (.iinc 2 1, 3) := by decide +kernel
theorem dX4_firmnessOfAll_23 : decode cX4_firmnessOfAll 23 = .ok (.goto (-19), 3) := by decide +kernel
theorem dX4_firmnessOfAll_26 : decode cX4_firmnessOfAll 26 = .ok (.iload_n 1, 1) := by decide +kernel
theorem dX4_firmnessOfAll_27 : decode cX4_firmnessOfAll 27 = .ok (.ireturn, 1) := by decide +kernel
theorem dX4_coolOnes_0 : decode cX4_coolOnes 0 = .ok (.iconst 0, 1) := by decide +kernel
theorem dX4_coolOnes_1 : decode cX4_coolOnes 1 = .ok (.istore_n 1, 1) := by decide +kernel
theorem dX4_coolOnes_2 : decode cX4_coolOnes 2 = .ok (.iconst 0, 1) := by decide +kernel
theorem dX4_coolOnes_3 : decode cX4_coolOnes 3 = .ok (.istore_n 2, 1) := by decide +kernel
theorem dX4_coolOnes_4 : decode cX4_coolOnes 4 = .ok (.iload_n 2, 1) := by decide +kernel
theorem dX4_coolOnes_5 : decode cX4_coolOnes 5 = .ok (.aload_n 0, 1) := by decide +kernel
theorem dX4_coolOnes_6 : decode cX4_coolOnes 6 = .ok (.getfield 30, 3) := by decide +kernel
theorem dX4_coolOnes_9 : decode cX4_coolOnes 9 = .ok (.if_icmp .ge 20, 3) := by decide +kernel
theorem dX4_coolOnes_12 : decode cX4_coolOnes 12 = .ok (.aload_n 0, 1) := by decide +kernel
theorem dX4_coolOnes_13 : decode cX4_coolOnes 13 = .ok (.iload_n 2, 1) := by decide +kernel
theorem dX4_coolOnes_14 : decode cX4_coolOnes 14 = .ok (.invokevirtual 48, 3) := by decide +kernel
theorem dX4_coolOnes_17 : decode cX4_coolOnes 17 = .ok (.ifCond .eq 6, 3) := by decide +kernel
theorem dX4_coolOnes_20 : decode cX4_coolOnes 20 = .ok (.iinc 1 1, 3) := by decide +kernel
theorem dX4_coolOnes_23 : decode cX4_coolOnes 23 = .ok (.iinc 2 1, 3) := by decide +kernel
theorem dX4_coolOnes_26 : decode cX4_coolOnes 26 = .ok (.goto (-22), 3) := by decide +kernel
theorem dX4_coolOnes_29 : decode cX4_coolOnes 29 = .ok (.iload_n 1, 1) := by decide +kernel
theorem dX4_coolOnes_30 : decode cX4_coolOnes 30 = .ok (.ireturn, 1) := by decide +kernel
theorem dX4_firstCoolFrom_0 : decode cX4_firstCoolFrom 0 = .ok (.iload_n 1, 1) := by decide +kernel
theorem dX4_firstCoolFrom_1 : decode cX4_firstCoolFrom 1 = .ok (.istore_n 2, 1) := by decide +kernel
theorem dX4_firstCoolFrom_2 : decode cX4_firstCoolFrom 2 = .ok (.iload_n 2, 1) := by decide +kernel
theorem dX4_firstCoolFrom_3 : decode cX4_firstCoolFrom 3 = .ok (.aload_n 0, 1) := by decide +kernel
theorem dX4_firstCoolFrom_4 : decode cX4_firstCoolFrom 4 = .ok (.getfield 30, 3) := by decide +kernel
theorem dX4_firstCoolFrom_7 : decode cX4_firstCoolFrom 7 = .ok (.if_icmp .ge 19, 3) := by decide +kernel
theorem dX4_firstCoolFrom_10 : decode cX4_firstCoolFrom 10 = .ok (.aload_n 0, 1) := by decide +kernel
theorem dX4_firstCoolFrom_11 : decode cX4_firstCoolFrom 11 = .ok (.iload_n 2, 1) := by decide +kernel
theorem dX4_firstCoolFrom_12 : decode cX4_firstCoolFrom 12 = .ok (.invokevirtual 48, 3) := by decide +kernel
theorem dX4_firstCoolFrom_15 : decode cX4_firstCoolFrom 15 = .ok (.ifCond .eq 5, 3) := by decide +kernel
theorem dX4_firstCoolFrom_18 : decode cX4_firstCoolFrom 18 = .ok (.iload_n 2, 1) := by decide +kernel
theorem dX4_firstCoolFrom_19 : decode cX4_firstCoolFrom 19 = .ok (.ireturn, 1) := by decide +kernel
theorem dX4_firstCoolFrom_20 : decode cX4_firstCoolFrom 20 = .ok (.iinc 2 1, 3) := by decide +kernel
theorem dX4_firstCoolFrom_23 : decode cX4_firstCoolFrom 23 = .ok (.goto (-21), 3) := by decide +kernel
theorem dX4_firstCoolFrom_26 : decode cX4_firstCoolFrom 26 = .ok (.iconst (-1), 1) := by decide +kernel
theorem dX4_firstCoolFrom_27 : decode cX4_firstCoolFrom 27 = .ok (.ireturn, 1) := by decide +kernel
theorem dX4_patAtRank_0 : decode cX4_patAtRank 0 = .ok (.iconst 0, 1) := by decide +kernel
theorem dX4_patAtRank_1 : decode cX4_patAtRank 1 = .ok (.istore_n 2, 1) := by decide +kernel
theorem dX4_patAtRank_2 : decode cX4_patAtRank 2 = .ok (.iload_n 2, 1) := by decide +kernel
theorem dX4_patAtRank_3 : decode cX4_patAtRank 3 = .ok (.aload_n 0, 1) := by decide +kernel
theorem dX4_patAtRank_4 : decode cX4_patAtRank 4 = .ok (.getfield 30, 3) := by decide +kernel
theorem dX4_patAtRank_7 : decode cX4_patAtRank 7 = .ok (.if_icmp .ge 20, 3) := by decide +kernel
theorem dX4_patAtRank_10 : decode cX4_patAtRank 10 = .ok (.aload_n 0, 1) := by decide +kernel
theorem dX4_patAtRank_11 : decode cX4_patAtRank 11 = .ok (.iload_n 2, 1) := by decide +kernel
theorem dX4_patAtRank_12 : decode cX4_patAtRank 12 = .ok (.invokevirtual 51, 3) := by decide +kernel
theorem dX4_patAtRank_15 : decode cX4_patAtRank 15 = .ok (.iload_n 1, 1) := by decide +kernel
theorem dX4_patAtRank_16 : decode cX4_patAtRank 16 = .ok (.if_icmp .ne 5, 3) := by decide +kernel
theorem dX4_patAtRank_19 : decode cX4_patAtRank 19 = .ok (.iload_n 2, 1) := by decide +kernel
theorem dX4_patAtRank_20 : decode cX4_patAtRank 20 = .ok (.ireturn, 1) := by decide +kernel
theorem dX4_patAtRank_21 : decode cX4_patAtRank 21 = .ok (.iinc 2 1, 3) := by decide +kernel
theorem dX4_patAtRank_24 : decode cX4_patAtRank 24 = .ok (.goto (-22), 3) := by decide +kernel
theorem dX4_patAtRank_27 : decode cX4_patAtRank 27 = .ok (.iconst (-1), 1) := by decide +kernel
theorem dX4_patAtRank_28 : decode cX4_patAtRank 28 = .ok (.ireturn, 1) := by decide +kernel
theorem dX4_rankOf_0 : decode cX4_rankOf 0 = .ok (.iconst 0, 1) := by decide +kernel
theorem dX4_rankOf_1 : decode cX4_rankOf 1 = .ok (.istore_n 2, 1) := by decide +kernel
theorem dX4_rankOf_2 : decode cX4_rankOf 2 = .ok (.iconst 0, 1) := by decide +kernel
theorem dX4_rankOf_3 : decode cX4_rankOf 3 = .ok (.istore_n 3, 1) := by decide +kernel
theorem dX4_rankOf_4 : decode cX4_rankOf 4 = .ok (.iload_n 3, 1) := by decide +kernel
theorem dX4_rankOf_5 : decode cX4_rankOf 5 = .ok (.aload_n 0, 1) := by decide +kernel
theorem dX4_rankOf_6 : decode cX4_rankOf 6 = .ok (.getfield 30, 3) := by decide +kernel
theorem dX4_rankOf_9 : decode cX4_rankOf 9 = .ok (.if_icmp .ge 21, 3) := by decide +kernel
theorem dX4_rankOf_12 : decode cX4_rankOf 12 = .ok (.aload_n 0, 1) := by decide +kernel
theorem dX4_rankOf_13 : decode cX4_rankOf 13 = .ok (.iload_n 3, 1) := by decide +kernel
theorem dX4_rankOf_14 : decode cX4_rankOf 14 = .ok (.iload_n 1, 1) := by decide +kernel
theorem dX4_rankOf_15 : decode cX4_rankOf 15 = .ok (.invokevirtual 54, 3) := by decide +kernel
theorem dX4_rankOf_18 : decode cX4_rankOf 18 = .ok (.ifCond .eq 6, 3) := by decide +kernel
theorem dX4_rankOf_21 : decode cX4_rankOf 21 = .ok (.iinc 2 1, 3) := by decide +kernel
theorem dX4_rankOf_24 : decode cX4_rankOf 24 = .ok (.iinc 3 1, 3) := by decide +kernel
theorem dX4_rankOf_27 : decode cX4_rankOf 27 = .ok (.goto (-23), 3) := by decide +kernel
theorem dX4_rankOf_30 : decode cX4_rankOf 30 = .ok (.iload_n 2, 1) := by decide +kernel
theorem dX4_rankOf_31 : decode cX4_rankOf 31 = .ok (.ireturn, 1) := by decide +kernel
theorem dX4_goesBefore_0 : decode cX4_goesBefore 0 = .ok (.aload_n 0, 1) := by decide +kernel
theorem dX4_goesBefore_1 : decode cX4_goesBefore 1 = .ok (.iload_n 1, 1) := by decide +kernel
theorem dX4_goesBefore_2 : decode cX4_goesBefore 2 = .ok (.invokevirtual 38, 3) := by decide +kernel
theorem dX4_goesBefore_5 : decode cX4_goesBefore 5 = .ok (.aload_n 0, 1) := by decide +kernel
theorem dX4_goesBefore_6 : decode cX4_goesBefore 6 = .ok (.iload_n 2, 1) := by decide +kernel
theorem dX4_goesBefore_7 : decode cX4_goesBefore 7 = .ok (.invokevirtual 38, 3) := by decide +kernel
theorem dX4_goesBefore_10 : decode cX4_goesBefore 10 = .ok (.if_icmp .eq 22, 3) := by decide +kernel
theorem dX4_goesBefore_13 : decode cX4_goesBefore 13 = .ok (.aload_n 0, 1) := by decide +kernel
theorem dX4_goesBefore_14 : decode cX4_goesBefore 14 = .ok (.iload_n 1, 1) := by decide +kernel
theorem dX4_goesBefore_15 : decode cX4_goesBefore 15 = .ok (.invokevirtual 38, 3) := by decide +kernel
theorem dX4_goesBefore_18 : decode cX4_goesBefore 18 = .ok (.aload_n 0, 1) := by decide +kernel
theorem dX4_goesBefore_19 : decode cX4_goesBefore 19 = .ok (.iload_n 2, 1) := by decide +kernel
theorem dX4_goesBefore_20 : decode cX4_goesBefore 20 = .ok (.invokevirtual 38, 3) := by decide +kernel
theorem dX4_goesBefore_23 : decode cX4_goesBefore 23 = .ok (.if_icmp .le 7, 3) := by decide +kernel
theorem dX4_goesBefore_26 : decode cX4_goesBefore 26 = .ok (.iconst 1, 1) := by decide +kernel
theorem dX4_goesBefore_27 : decode cX4_goesBefore 27 = .ok (.goto 4, 3) := by decide +kernel
theorem dX4_goesBefore_30 : decode cX4_goesBefore 30 = .ok (.iconst 0, 1) := by decide +kernel
theorem dX4_goesBefore_31 : decode cX4_goesBefore 31 = .ok (.ireturn, 1) := by decide +kernel
theorem dX4_goesBefore_32 : decode cX4_goesBefore 32 = .ok (.aload_n 0, 1) := by decide +kernel
theorem dX4_goesBefore_33 : decode cX4_goesBefore 33 = .ok (.iload_n 1, 1) := by decide +kernel
theorem dX4_goesBefore_34 : decode cX4_goesBefore 34 = .ok (.invokevirtual 58, 3) := by decide +kernel
theorem dX4_goesBefore_37 : decode cX4_goesBefore 37 = .ok (.aload_n 0, 1) := by decide +kernel
theorem dX4_goesBefore_38 : decode cX4_goesBefore 38 = .ok (.iload_n 2, 1) := by decide +kernel
theorem dX4_goesBefore_39 : decode cX4_goesBefore 39 = .ok (.invokevirtual 58, 3) := by decide +kernel
theorem dX4_goesBefore_42 : decode cX4_goesBefore 42 = .ok (.if_icmp .eq 22, 3) := by decide +kernel
theorem dX4_goesBefore_45 : decode cX4_goesBefore 45 = .ok (.aload_n 0, 1) := by decide +kernel
theorem dX4_goesBefore_46 : decode cX4_goesBefore 46 = .ok (.iload_n 1, 1) := by decide +kernel
theorem dX4_goesBefore_47 : decode cX4_goesBefore 47 = .ok (.invokevirtual 58, 3) := by decide +kernel
theorem dX4_goesBefore_50 : decode cX4_goesBefore 50 = .ok (.aload_n 0, 1) := by decide +kernel
theorem dX4_goesBefore_51 : decode cX4_goesBefore 51 = .ok (.iload_n 2, 1) := by decide +kernel
theorem dX4_goesBefore_52 : decode cX4_goesBefore 52 = .ok (.invokevirtual 58, 3) := by decide +kernel
theorem dX4_goesBefore_55 : decode cX4_goesBefore 55 = .ok (.if_icmp .le 7, 3) := by decide +kernel
theorem dX4_goesBefore_58 : decode cX4_goesBefore 58 = .ok (.iconst 1, 1) := by decide +kernel
theorem dX4_goesBefore_59 : decode cX4_goesBefore 59 = .ok (.goto 4, 3) := by decide +kernel
theorem dX4_goesBefore_62 : decode cX4_goesBefore 62 = .ok (.iconst 0, 1) := by decide +kernel
theorem dX4_goesBefore_63 : decode cX4_goesBefore 63 = .ok (.ireturn, 1) := by decide +kernel
theorem dX4_goesBefore_64 : decode cX4_goesBefore 64 = .ok (.iload_n 1, 1) := by decide +kernel
theorem dX4_goesBefore_65 : decode cX4_goesBefore 65 = .ok (.iload_n 2, 1) := by decide +kernel
theorem dX4_goesBefore_66 : decode cX4_goesBefore 66 = .ok (.if_icmp .ge 7, 3) := by decide +kernel
theorem dX4_goesBefore_69 : decode cX4_goesBefore 69 = .ok (.iconst 1, 1) := by decide +kernel
theorem dX4_goesBefore_70 : decode cX4_goesBefore 70 = .ok (.goto 4, 3) := by decide +kernel
theorem dX4_goesBefore_73 : decode cX4_goesBefore 73 = .ok (.iconst 0, 1) := by decide +kernel
theorem dX4_goesBefore_74 : decode cX4_goesBefore 74 = .ok (.ireturn, 1) := by decide +kernel
theorem dX5_init_0 : decode cX5_init 0 = .ok (.aload_n 0, 1) := by decide +kernel
theorem dX5_init_1 : decode cX5_init 1 = .ok (.invokespecial 3, 3) := by decide +kernel
theorem dX5_init_4 : decode cX5_init 4 = .ok (.aload_n 0, 1) := by decide +kernel
theorem dX5_init_5 : decode cX5_init 5 = .ok (.iconst 5, 1) := by decide +kernel
theorem dX5_init_6 : decode cX5_init 6 = .ok (.newarray .int, 2) := by decide +kernel
theorem dX5_init_8 : decode cX5_init 8 = .ok (.putfield 9, 3) := by decide +kernel
theorem dX5_init_11 : decode cX5_init 11 = .ok (.return_, 1) := by decide +kernel
theorem dX5_copyFrom_0 : decode cX5_copyFrom 0 = .ok (.aload_n 1, 1) := by decide +kernel
theorem dX5_copyFrom_1 : decode cX5_copyFrom 1 = .ok (.getfield 9, 3) := by decide +kernel
theorem dX5_copyFrom_4 : decode cX5_copyFrom 4 = .ok (.iconst 0, 1) := by decide +kernel
theorem dX5_copyFrom_5 : decode cX5_copyFrom 5 = .ok (.aload_n 0, 1) := by decide +kernel
theorem dX5_copyFrom_6 : decode cX5_copyFrom 6 = .ok (.getfield 9, 3) := by decide +kernel
theorem dX5_copyFrom_9 : decode cX5_copyFrom 9 = .ok (.iconst 0, 1) := by decide +kernel
theorem dX5_copyFrom_10 : decode cX5_copyFrom 10 = .ok (.iconst 5, 1) := by decide +kernel
theorem dX5_copyFrom_11 : decode cX5_copyFrom 11 = .ok (.invokestatic 15, 3) := by decide +kernel
theorem dX5_copyFrom_14 : decode cX5_copyFrom 14 = .ok (.aload_n 0, 1) := by decide +kernel
theorem dX5_copyFrom_15 : decode cX5_copyFrom 15 = .ok (.aload_n 1, 1) := by decide +kernel
theorem dX5_copyFrom_16 : decode cX5_copyFrom 16 = .ok (.getfield 21, 3) := by decide +kernel
theorem dX5_copyFrom_19 : decode cX5_copyFrom 19 = .ok (.putfield 21, 3) := by decide +kernel
theorem dX5_copyFrom_22 : decode cX5_copyFrom 22 = .ok (.aload_n 0, 1) := by decide +kernel
theorem dX5_copyFrom_23 : decode cX5_copyFrom 23 = .ok (.aload_n 1, 1) := by decide +kernel
theorem dX5_copyFrom_24 : decode cX5_copyFrom 24 = .ok (.getfield 25, 3) := by decide +kernel
theorem dX5_copyFrom_27 : decode cX5_copyFrom 27 = .ok (.putfield 25, 3) := by decide +kernel
theorem dX5_copyFrom_30 : decode cX5_copyFrom 30 = .ok (.aload_n 0, 1) := by decide +kernel
theorem dX5_copyFrom_31 : decode cX5_copyFrom 31 = .ok (.aload_n 1, 1) := by decide +kernel
theorem dX5_copyFrom_32 : decode cX5_copyFrom 32 = .ok (.getfield 28, 3) := by decide +kernel
theorem dX5_copyFrom_35 : decode cX5_copyFrom 35 = .ok (.putfield 28, 3) := by decide +kernel
theorem dX5_copyFrom_38 : decode cX5_copyFrom 38 = .ok (.return_, 1) := by decide +kernel
theorem dX5_count_0 : decode cX5_count 0 = .ok (.iload_n 1, 1) := by decide +kernel
theorem dX5_count_1 : decode cX5_count 1 = .ok (.iconst 0, 1) := by decide +kernel
theorem dX5_count_2 : decode cX5_count 2 = .ok (.iconst 4, 1) := by decide +kernel
theorem dX5_count_3 : decode cX5_count 3 = .ok (.invokestatic 31, 3) := by decide +kernel
theorem dX5_count_6 : decode cX5_count 6 = .ok (.ifCond .eq 23, 3) := by decide +kernel
theorem dX5_count_9 : decode cX5_count 9 = .ok (.aload_n 0, 1) := by decide +kernel
theorem dX5_count_10 : decode cX5_count 10 = .ok (.getfield 9, 3) := by decide +kernel
theorem dX5_count_13 : decode cX5_count 13 = .ok (.iload_n 1, 1) := by decide +kernel
theorem dX5_count_14 : decode cX5_count 14 = .ok (.dup2, 1) := by decide +kernel
theorem dX5_count_15 : decode cX5_count 15 = .ok (.iaload, 1) := by decide +kernel
theorem dX5_count_16 : decode cX5_count 16 = .ok (.iconst 1, 1) := by decide +kernel
theorem dX5_count_17 : decode cX5_count 17 = .ok (.iadd, 1) := by decide +kernel
theorem dX5_count_18 : decode cX5_count 18 = .ok (.iastore, 1) := by decide +kernel
theorem dX5_count_19 : decode cX5_count 19 = .ok (.aload_n 0, 1) := by decide +kernel
theorem dX5_count_20 : decode cX5_count 20 = .ok (.dup, 1) := by decide +kernel
theorem dX5_count_21 : decode cX5_count 21 = .ok (.getfield 28, 3) := by decide +kernel
theorem dX5_count_24 : decode cX5_count 24 = .ok (.iload_n 2, 1) := by decide +kernel
theorem dX5_count_25 : decode cX5_count 25 = .ok (.iadd, 1) := by decide +kernel
theorem dX5_count_26 : decode cX5_count 26 = .ok (.putfield 28, 3) := by decide +kernel
theorem dX5_count_29 : decode cX5_count 29 = .ok (.return_, 1) := by decide +kernel
theorem dX6_init_0 : decode cX6_init 0 = .ok (.aload_n 0, 1) := by decide +kernel
theorem dX6_init_1 : decode cX6_init 1 = .ok (.invokespecial 3, 3) := by decide +kernel
theorem dX6_init_4 : decode cX6_init 4 = .ok (.aload_n 0, 1) := by decide +kernel
theorem dX6_init_5 : decode cX6_init 5 = .ok (.bipush 60, 2) := by decide +kernel
theorem dX6_init_7 : decode cX6_init 7 = .ok (.newarray .char, 2) := by decide +kernel
theorem dX6_init_9 : decode cX6_init 9 = .ok (.putfield 9, 3) := by decide +kernel
theorem dX6_init_12 : decode cX6_init 12 = .ok (.aload_n 0, 1) := by decide +kernel
theorem dX6_init_13 : decode cX6_init 13 = .ok (.bipush 13, 2) := by decide +kernel
theorem dX6_init_15 : decode cX6_init 15 = .ok (.newarray .int, 2) := by decide +kernel
theorem dX6_init_17 : decode cX6_init 17 = .ok (.putfield 15, 3) := by decide +kernel
theorem dX6_init_20 : decode cX6_init 20 = .ok (.aload_n 0, 1) := by decide +kernel
theorem dX6_init_21 : decode cX6_init 21 = .ok (.bipush 13, 2) := by decide +kernel
theorem dX6_init_23 : decode cX6_init 23 = .ok (.newarray .char, 2) := by decide +kernel
theorem dX6_init_25 : decode cX6_init 25 = .ok (.putfield 19, 3) := by decide +kernel
theorem dX6_init_28 : decode cX6_init 28 = .ok (.aload_n 0, 1) := by decide +kernel
theorem dX6_init_29 : decode cX6_init 29 = .ok (.bipush 13, 2) := by decide +kernel
theorem dX6_init_31 : decode cX6_init 31 = .ok (.newarray .int, 2) := by decide +kernel
theorem dX6_init_33 : decode cX6_init 33 = .ok (.putfield 22, 3) := by decide +kernel
theorem dX6_init_36 : decode cX6_init 36 = .ok (.aload_n 0, 1) := by decide +kernel
theorem dX6_init_37 : decode cX6_init 37 = .ok (.bipush 13, 2) := by decide +kernel
theorem dX6_init_39 : decode cX6_init 39 = .ok (.newarray .int, 2) := by decide +kernel
theorem dX6_init_41 : decode cX6_init 41 = .ok (.putfield 25, 3) := by decide +kernel
theorem dX6_init_44 : decode cX6_init 44 = .ok (.return_, 1) := by decide +kernel
theorem dX6_spelling_0 : decode cX6_spelling 0 = .ok (.iload_n 0, 1) := by decide +kernel
theorem dX6_spelling_1 : decode cX6_spelling 1 = .ok (.tableswitch 71 0 7 #[47, 50, 53, 56, 59, 62, 65, 68], 47) := by decide +kernel
theorem dX6_spelling_48 : decode cX6_spelling 48 = .ok (.ldc 28, 2) := by decide +kernel
theorem dX6_spelling_50 : decode cX6_spelling 50 = .ok (.areturn, 1) := by decide +kernel
theorem dX6_spelling_51 : decode cX6_spelling 51 = .ok (.ldc 30, 2) := by decide +kernel
theorem dX6_spelling_53 : decode cX6_spelling 53 = .ok (.areturn, 1) := by decide +kernel
theorem dX6_spelling_54 : decode cX6_spelling 54 = .ok (.ldc 32, 2) := by decide +kernel
theorem dX6_spelling_56 : decode cX6_spelling 56 = .ok (.areturn, 1) := by decide +kernel
theorem dX6_spelling_57 : decode cX6_spelling 57 = .ok (.ldc 34, 2) := by decide +kernel
theorem dX6_spelling_59 : decode cX6_spelling 59 = .ok (.areturn, 1) := by decide +kernel
theorem dX6_spelling_60 : decode cX6_spelling 60 = .ok (.ldc 36, 2) := by decide +kernel
theorem dX6_spelling_62 : decode cX6_spelling 62 = .ok (.areturn, 1) := by decide +kernel
theorem dX6_spelling_63 : decode cX6_spelling 63 = .ok (.ldc 38, 2) := by decide +kernel
theorem dX6_spelling_65 : decode cX6_spelling 65 = .ok (.areturn, 1) := by decide +kernel
theorem dX6_spelling_66 : decode cX6_spelling 66 = .ok (.ldc 40, 2) := by decide +kernel
theorem dX6_spelling_68 : decode cX6_spelling 68 = .ok (.areturn, 1) := by decide +kernel
theorem dX6_spelling_69 : decode cX6_spelling 69 = .ok (.ldc 42, 2) := by decide +kernel
theorem dX6_spelling_71 : decode cX6_spelling 71 = .ok (.areturn, 1) := by decide +kernel
theorem dX6_spelling_72 : decode cX6_spelling 72 = .ok (.ldc 44, 2) := by decide +kernel
theorem dX6_spelling_74 : decode cX6_spelling 74 = .ok (.areturn, 1) := by decide +kernel
theorem dX6_isFull_0 : decode cX6_isFull 0 = .ok (.aload_n 0, 1) := by decide +kernel
theorem dX6_isFull_1 : decode cX6_isFull 1 = .ok (.getfield 46, 3) := by decide +kernel
theorem dX6_isFull_4 : decode cX6_isFull 4 = .ok (.bipush 60, 2) := by decide +kernel
theorem dX6_isFull_6 : decode cX6_isFull 6 = .ok (.if_icmp .lt 7, 3) := by decide +kernel
theorem dX6_isFull_9 : decode cX6_isFull 9 = .ok (.iconst 1, 1) := by decide +kernel
theorem dX6_isFull_10 : decode cX6_isFull 10 = .ok (.goto 4, 3) := by decide +kernel
theorem dX6_isFull_13 : decode cX6_isFull 13 = .ok (.iconst 0, 1) := by decide +kernel
theorem dX6_isFull_14 : decode cX6_isFull 14 = .ok (.ireturn, 1) := by decide +kernel
theorem dX6_append_0 : decode cX6_append 0 = .ok (.aload_n 0, 1) := by decide +kernel
theorem dX6_append_1 : decode cX6_append 1 = .ok (.invokevirtual 50, 3) := by decide +kernel
theorem dX6_append_4 : decode cX6_append 4 = .ok (.ifCond .ne 23, 3) := by decide +kernel
theorem dX6_append_7 : decode cX6_append 7 = .ok (.aload_n 0, 1) := by decide +kernel
theorem dX6_append_8 : decode cX6_append 8 = .ok (.getfield 9, 3) := by decide +kernel
theorem dX6_append_11 : decode cX6_append 11 = .ok (.aload_n 0, 1) := by decide +kernel
theorem dX6_append_12 : decode cX6_append 12 = .ok (.getfield 46, 3) := by decide +kernel
theorem dX6_append_15 : decode cX6_append 15 = .ok (.iload_n 1, 1) := by decide +kernel
theorem dX6_append_16 : decode cX6_append 16 = .ok (.castore, 1) := by decide +kernel
theorem dX6_append_17 : decode cX6_append 17 = .ok (.aload_n 0, 1) := by decide +kernel
theorem dX6_append_18 : decode cX6_append 18 = .ok (.dup, 1) := by decide +kernel
theorem dX6_append_19 : decode cX6_append 19 = .ok (.getfield 46, 3) := by decide +kernel
theorem dX6_append_22 : decode cX6_append 22 = .ok (.iconst 1, 1) := by decide +kernel
theorem dX6_append_23 : decode cX6_append 23 = .ok (.iadd, 1) := by decide +kernel
theorem dX6_append_24 : decode cX6_append 24 = .ok (.putfield 46, 3) := by decide +kernel
theorem dX6_append_27 : decode cX6_append 27 = .ok (.return_, 1) := by decide +kernel
theorem dX6_clear_0 : decode cX6_clear 0 = .ok (.aload_n 0, 1) := by decide +kernel
theorem dX6_clear_1 : decode cX6_clear 1 = .ok (.iconst 0, 1) := by decide +kernel
theorem dX6_clear_2 : decode cX6_clear 2 = .ok (.putfield 46, 3) := by decide +kernel
theorem dX6_clear_5 : decode cX6_clear 5 = .ok (.return_, 1) := by decide +kernel
theorem dX6_readCommands_0 : decode cX6_readCommands 0 = .ok (.aload_n 0, 1) := by decide +kernel
theorem dX6_readCommands_1 : decode cX6_readCommands 1 = .ok (.iconst 0, 1) := by decide +kernel
theorem dX6_readCommands_2 : decode cX6_readCommands 2 = .ok (.putfield 54, 3) := by decide +kernel
theorem dX6_readCommands_5 : decode cX6_readCommands 5 = .ok (.aload_n 0, 1) := by decide +kernel
theorem dX6_readCommands_6 : decode cX6_readCommands 6 = .ok (.iconst 0, 1) := by decide +kernel
theorem dX6_readCommands_7 : decode cX6_readCommands 7 = .ok (.putfield 57, 3) := by decide +kernel
theorem dX6_readCommands_10 : decode cX6_readCommands 10 = .ok (.iconst 0, 1) := by decide +kernel
theorem dX6_readCommands_11 : decode cX6_readCommands 11 = .ok (.istore_n 1, 1) := by decide +kernel
theorem dX6_readCommands_12 : decode cX6_readCommands 12 = .ok (.iload_n 1, 1) := by decide +kernel
theorem dX6_readCommands_13 : decode cX6_readCommands 13 = .ok (.bipush 13, 2) := by decide +kernel
theorem dX6_readCommands_15 : decode cX6_readCommands 15 = .ok (.if_icmp .ge 55, 3) := by decide +kernel
theorem dX6_readCommands_18 : decode cX6_readCommands 18 = .ok (.aload_n 0, 1) := by decide +kernel
theorem dX6_readCommands_19 : decode cX6_readCommands 19 = .ok (.iload_n 1, 1) := by decide +kernel
theorem dX6_readCommands_20 : decode cX6_readCommands 20 = .ok (.invokevirtual 60, 3) := by decide +kernel
theorem dX6_readCommands_23 : decode cX6_readCommands 23 = .ok (.ifCond .ne 5, 3) := by decide +kernel
theorem dX6_readCommands_26 : decode cX6_readCommands 26 = .ok (.iconst 0, 1) := by decide +kernel
theorem dX6_readCommands_27 : decode cX6_readCommands 27 = .ok (.ireturn, 1) := by decide +kernel
theorem dX6_readCommands_28 : decode cX6_readCommands 28 = .ok (.aload_n 0, 1) := by decide +kernel
theorem dX6_readCommands_29 : decode cX6_readCommands 29 = .ok (.dup, 1) := by decide +kernel
theorem dX6_readCommands_30 : decode cX6_readCommands 30 = .ok (.getfield 57, 3) := by decide +kernel
theorem dX6_readCommands_33 : decode cX6_readCommands 33 = .ok (.iconst 1, 1) := by decide +kernel
theorem dX6_readCommands_34 : decode cX6_readCommands 34 = .ok (.iadd, 1) := by decide +kernel
theorem dX6_readCommands_35 : decode cX6_readCommands 35 = .ok (.putfield 57, 3) := by decide +kernel
theorem dX6_readCommands_38 : decode cX6_readCommands 38 = .ok (.aload_n 0, 1) := by decide +kernel
theorem dX6_readCommands_39 : decode cX6_readCommands 39 = .ok (.bipush 59, 2) := by decide +kernel
theorem dX6_readCommands_41 : decode cX6_readCommands 41 = .ok (.invokevirtual 64, 3) := by decide +kernel
theorem dX6_readCommands_44 : decode cX6_readCommands 44 = .ok (.ifCond .ne 20, 3) := by decide +kernel
theorem dX6_readCommands_47 : decode cX6_readCommands 47 = .ok (.aload_n 0, 1) := by decide +kernel
theorem dX6_readCommands_48 : decode cX6_readCommands 48 = .ok (.getfield 54, 3) := by decide +kernel
theorem dX6_readCommands_51 : decode cX6_readCommands 51 = .ok (.aload_n 0, 1) := by decide +kernel
theorem dX6_readCommands_52 : decode cX6_readCommands 52 = .ok (.getfield 46, 3) := by decide +kernel
theorem dX6_readCommands_55 : decode cX6_readCommands 55 = .ok (.if_icmp .ne 7, 3) := by decide +kernel
theorem dX6_readCommands_58 : decode cX6_readCommands 58 = .ok (.iconst 1, 1) := by decide +kernel
theorem dX6_readCommands_59 : decode cX6_readCommands 59 = .ok (.goto 4, 3) := by decide +kernel
theorem dX6_readCommands_62 : decode cX6_readCommands 62 = .ok (.iconst 0, 1) := by decide +kernel
theorem dX6_readCommands_63 : decode cX6_readCommands 63 = .ok (.ireturn, 1) := by decide +kernel
theorem dX6_readCommands_64 : decode cX6_readCommands 64 = .ok (.iinc 1 1, 3) := by decide +kernel
theorem dX6_readCommands_67 : decode cX6_readCommands 67 = .ok (.goto (-55), 3) := by decide +kernel
theorem dX6_readCommands_70 : decode cX6_readCommands 70 = .ok (.iconst 0, 1) := by decide +kernel
theorem dX6_readCommands_71 : decode cX6_readCommands 71 = .ok (.ireturn, 1) := by decide +kernel
theorem dX6_readCommand_0 : decode cX6_readCommand 0 = .ok (.aload_n 0, 1) := by decide +kernel
theorem dX6_readCommand_1 : decode cX6_readCommand 1 = .ok (.invokevirtual 68, 3) := by decide +kernel
theorem dX6_readCommand_4 : decode cX6_readCommand 4 = .ok (.istore_n 2, 1) := by decide +kernel
theorem dX6_readCommand_5 : decode cX6_readCommand 5 = .ok (.aload_n 0, 1) := by decide +kernel
theorem dX6_readCommand_6 : decode cX6_readCommand 6 = .ok (.getfield 15, 3) := by decide +kernel
theorem dX6_readCommand_9 : decode cX6_readCommand 9 = .ok (.iload_n 1, 1) := by decide +kernel
theorem dX6_readCommand_10 : decode cX6_readCommand 10 = .ok (.iload_n 2, 1) := by decide +kernel
theorem dX6_readCommand_11 : decode cX6_readCommand 11 = .ok (.iastore, 1) := by decide +kernel
theorem dX6_readCommand_12 : decode cX6_readCommand 12 = .ok (.iload_n 2, 1) := by decide +kernel
theorem dX6_readCommand_13 : decode cX6_readCommand 13 = .ok (.tableswitch 76 (-1) 4 #[39, 43, 49, 76, 41, 41], 39) := by decide +kernel
theorem dX6_readCommand_52 : decode cX6_readCommand 52 = .ok (.iconst 0, 1) := by decide +kernel
theorem dX6_readCommand_53 : decode cX6_readCommand 53 = .ok (.ireturn, 1) := by decide +kernel
theorem dX6_readCommand_54 : decode cX6_readCommand 54 = .ok (.iconst 1, 1) := by decide +kernel
theorem dX6_readCommand_55 : decode cX6_readCommand 55 = .ok (.ireturn, 1) := by decide +kernel
theorem dX6_readCommand_56 : decode cX6_readCommand 56 = .ok (.aload_n 0, 1) := by decide +kernel
theorem dX6_readCommand_57 : decode cX6_readCommand 57 = .ok (.iload_n 1, 1) := by decide +kernel
theorem dX6_readCommand_58 : decode cX6_readCommand 58 = .ok (.invokevirtual 72, 3) := by decide +kernel
theorem dX6_readCommand_61 : decode cX6_readCommand 61 = .ok (.ireturn, 1) := by decide +kernel
theorem dX6_readCommand_62 : decode cX6_readCommand 62 = .ok (.aload_n 0, 1) := by decide +kernel
theorem dX6_readCommand_63 : decode cX6_readCommand 63 = .ok (.getfield 22, 3) := by decide +kernel
theorem dX6_readCommand_66 : decode cX6_readCommand 66 = .ok (.iload_n 1, 1) := by decide +kernel
theorem dX6_readCommand_67 : decode cX6_readCommand 67 = .ok (.aload_n 0, 1) := by decide +kernel
theorem dX6_readCommand_68 : decode cX6_readCommand 68 = .ok (.iconst 1, 1) := by decide +kernel
theorem dX6_readCommand_69 : decode cX6_readCommand 69 = .ok (.invokevirtual 75, 3) := by decide +kernel
theorem dX6_readCommand_72 : decode cX6_readCommand 72 = .ok (.iastore, 1) := by decide +kernel
theorem dX6_readCommand_73 : decode cX6_readCommand 73 = .ok (.aload_n 0, 1) := by decide +kernel
theorem dX6_readCommand_74 : decode cX6_readCommand 74 = .ok (.getfield 22, 3) := by decide +kernel
theorem dX6_readCommand_77 : decode cX6_readCommand 77 = .ok (.iload_n 1, 1) := by decide +kernel
theorem dX6_readCommand_78 : decode cX6_readCommand 78 = .ok (.iaload, 1) := by decide +kernel
theorem dX6_readCommand_79 : decode cX6_readCommand 79 = .ok (.iconst (-1), 1) := by decide +kernel
theorem dX6_readCommand_80 : decode cX6_readCommand 80 = .ok (.if_icmp .eq 7, 3) := by decide +kernel
theorem dX6_readCommand_83 : decode cX6_readCommand 83 = .ok (.iconst 1, 1) := by decide +kernel
theorem dX6_readCommand_84 : decode cX6_readCommand 84 = .ok (.goto 4, 3) := by decide +kernel
theorem dX6_readCommand_87 : decode cX6_readCommand 87 = .ok (.iconst 0, 1) := by decide +kernel
theorem dX6_readCommand_88 : decode cX6_readCommand 88 = .ok (.ireturn, 1) := by decide +kernel
theorem dX6_readCommand_89 : decode cX6_readCommand 89 = .ok (.aload_n 0, 1) := by decide +kernel
theorem dX6_readCommand_90 : decode cX6_readCommand 90 = .ok (.getfield 22, 3) := by decide +kernel
theorem dX6_readCommand_93 : decode cX6_readCommand 93 = .ok (.iload_n 1, 1) := by decide +kernel
theorem dX6_readCommand_94 : decode cX6_readCommand 94 = .ok (.aload_n 0, 1) := by decide +kernel
theorem dX6_readCommand_95 : decode cX6_readCommand 95 = .ok (.iconst 3, 1) := by decide +kernel
theorem dX6_readCommand_96 : decode cX6_readCommand 96 = .ok (.invokevirtual 75, 3) := by decide +kernel
theorem dX6_readCommand_99 : decode cX6_readCommand 99 = .ok (.iastore, 1) := by decide +kernel
theorem dX6_readCommand_100 : decode cX6_readCommand 100 = .ok (.aload_n 0, 1) := by decide +kernel
theorem dX6_readCommand_101 : decode cX6_readCommand 101 = .ok (.getfield 22, 3) := by decide +kernel
theorem dX6_readCommand_104 : decode cX6_readCommand 104 = .ok (.iload_n 1, 1) := by decide +kernel
theorem dX6_readCommand_105 : decode cX6_readCommand 105 = .ok (.iaload, 1) := by decide +kernel
theorem dX6_readCommand_106 : decode cX6_readCommand 106 = .ok (.iconst (-1), 1) := by decide +kernel
theorem dX6_readCommand_107 : decode cX6_readCommand 107 = .ok (.if_icmp .eq 7, 3) := by decide +kernel
theorem dX6_readCommand_110 : decode cX6_readCommand 110 = .ok (.iconst 1, 1) := by decide +kernel
theorem dX6_readCommand_111 : decode cX6_readCommand 111 = .ok (.goto 4, 3) := by decide +kernel
theorem dX6_readCommand_114 : decode cX6_readCommand 114 = .ok (.iconst 0, 1) := by decide +kernel
theorem dX6_readCommand_115 : decode cX6_readCommand 115 = .ok (.ireturn, 1) := by decide +kernel
theorem dX6_readPhase_0 : decode cX6_readPhase 0 = .ok (.aload_n 0, 1) := by decide +kernel
theorem dX6_readPhase_1 : decode cX6_readPhase 1 = .ok (.getfield 54, 3) := by decide +kernel
theorem dX6_readPhase_4 : decode cX6_readPhase 4 = .ok (.aload_n 0, 1) := by decide +kernel
theorem dX6_readPhase_5 : decode cX6_readPhase 5 = .ok (.getfield 46, 3) := by decide +kernel
theorem dX6_readPhase_8 : decode cX6_readPhase 8 = .ok (.if_icmp .ge 18, 3) := by decide +kernel
theorem dX6_readPhase_11 : decode cX6_readPhase 11 = .ok (.aload_n 0, 1) := by decide +kernel
theorem dX6_readPhase_12 : decode cX6_readPhase 12 = .ok (.getfield 9, 3) := by decide +kernel
theorem dX6_readPhase_15 : decode cX6_readPhase 15 = .ok (.aload_n 0, 1) := by decide +kernel
theorem dX6_readPhase_16 : decode cX6_readPhase 16 = .ok (.getfield 54, 3) := by decide +kernel
theorem dX6_readPhase_19 : decode cX6_readPhase 19 = .ok (.caload, 1) := by decide +kernel
theorem dX6_readPhase_20 : decode cX6_readPhase 20 = .ok (.invokestatic 79, 3) := by decide +kernel
theorem dX6_readPhase_23 : decode cX6_readPhase 23 = .ok (.ifCond .ne 5, 3) := by decide +kernel
theorem dX6_readPhase_26 : decode cX6_readPhase 26 = .ok (.iconst 0, 1) := by decide +kernel
theorem dX6_readPhase_27 : decode cX6_readPhase 27 = .ok (.ireturn, 1) := by decide +kernel
theorem dX6_readPhase_28 : decode cX6_readPhase 28 = .ok (.aload_n 0, 1) := by decide +kernel
theorem dX6_readPhase_29 : decode cX6_readPhase 29 = .ok (.getfield 19, 3) := by decide +kernel
theorem dX6_readPhase_32 : decode cX6_readPhase 32 = .ok (.iload_n 1, 1) := by decide +kernel
theorem dX6_readPhase_33 : decode cX6_readPhase 33 = .ok (.aload_n 0, 1) := by decide +kernel
theorem dX6_readPhase_34 : decode cX6_readPhase 34 = .ok (.getfield 9, 3) := by decide +kernel
theorem dX6_readPhase_37 : decode cX6_readPhase 37 = .ok (.aload_n 0, 1) := by decide +kernel
theorem dX6_readPhase_38 : decode cX6_readPhase 38 = .ok (.getfield 54, 3) := by decide +kernel
theorem dX6_readPhase_41 : decode cX6_readPhase 41 = .ok (.caload, 1) := by decide +kernel
theorem dX6_readPhase_42 : decode cX6_readPhase 42 = .ok (.castore, 1) := by decide +kernel
theorem dX6_readPhase_43 : decode cX6_readPhase 43 = .ok (.aload_n 0, 1) := by decide +kernel
theorem dX6_readPhase_44 : decode cX6_readPhase 44 = .ok (.dup, 1) := by decide +kernel
theorem dX6_readPhase_45 : decode cX6_readPhase 45 = .ok (.getfield 54, 3) := by decide +kernel
theorem dX6_readPhase_48 : decode cX6_readPhase 48 = .ok (.iconst 1, 1) := by decide +kernel
theorem dX6_readPhase_49 : decode cX6_readPhase 49 = .ok (.iadd, 1) := by decide +kernel
theorem dX6_readPhase_50 : decode cX6_readPhase 50 = .ok (.putfield 54, 3) := by decide +kernel
theorem dX6_readPhase_53 : decode cX6_readPhase 53 = .ok (.aload_n 0, 1) := by decide +kernel
theorem dX6_readPhase_54 : decode cX6_readPhase 54 = .ok (.bipush 32, 2) := by decide +kernel
theorem dX6_readPhase_56 : decode cX6_readPhase 56 = .ok (.invokevirtual 64, 3) := by decide +kernel
theorem dX6_readPhase_59 : decode cX6_readPhase 59 = .ok (.ifCond .ne 5, 3) := by decide +kernel
theorem dX6_readPhase_62 : decode cX6_readPhase 62 = .ok (.iconst 0, 1) := by decide +kernel
theorem dX6_readPhase_63 : decode cX6_readPhase 63 = .ok (.ireturn, 1) := by decide +kernel
theorem dX6_readPhase_64 : decode cX6_readPhase 64 = .ok (.aload_n 0, 1) := by decide +kernel
theorem dX6_readPhase_65 : decode cX6_readPhase 65 = .ok (.getfield 22, 3) := by decide +kernel
theorem dX6_readPhase_68 : decode cX6_readPhase 68 = .ok (.iload_n 1, 1) := by decide +kernel
theorem dX6_readPhase_69 : decode cX6_readPhase 69 = .ok (.aload_n 0, 1) := by decide +kernel
theorem dX6_readPhase_70 : decode cX6_readPhase 70 = .ok (.iconst 3, 1) := by decide +kernel
theorem dX6_readPhase_71 : decode cX6_readPhase 71 = .ok (.invokevirtual 75, 3) := by decide +kernel
theorem dX6_readPhase_74 : decode cX6_readPhase 74 = .ok (.iastore, 1) := by decide +kernel
theorem dX6_readPhase_75 : decode cX6_readPhase 75 = .ok (.aload_n 0, 1) := by decide +kernel
theorem dX6_readPhase_76 : decode cX6_readPhase 76 = .ok (.getfield 22, 3) := by decide +kernel
theorem dX6_readPhase_79 : decode cX6_readPhase 79 = .ok (.iload_n 1, 1) := by decide +kernel
theorem dX6_readPhase_80 : decode cX6_readPhase 80 = .ok (.iaload, 1) := by decide +kernel
theorem dX6_readPhase_81 : decode cX6_readPhase 81 = .ok (.iconst (-1), 1) := by decide +kernel
theorem dX6_readPhase_82 : decode cX6_readPhase 82 = .ok (.if_icmp .eq 12, 3) := by decide +kernel
theorem dX6_readPhase_85 : decode cX6_readPhase 85 = .ok (.aload_n 0, 1) := by decide +kernel
theorem dX6_readPhase_86 : decode cX6_readPhase 86 = .ok (.bipush 32, 2) := by decide +kernel
theorem dX6_readPhase_88 : decode cX6_readPhase 88 = .ok (.invokevirtual 64, 3) := by decide +kernel
theorem dX6_readPhase_91 : decode cX6_readPhase 91 = .ok (.ifCond .ne 5, 3) := by decide +kernel
theorem dX6_readPhase_94 : decode cX6_readPhase 94 = .ok (.iconst 0, 1) := by decide +kernel
theorem dX6_readPhase_95 : decode cX6_readPhase 95 = .ok (.ireturn, 1) := by decide +kernel
theorem dX6_readPhase_96 : decode cX6_readPhase 96 = .ok (.aload_n 0, 1) := by decide +kernel
theorem dX6_readPhase_97 : decode cX6_readPhase 97 = .ok (.getfield 25, 3) := by decide +kernel
theorem dX6_readPhase_100 : decode cX6_readPhase 100 = .ok (.iload_n 1, 1) := by decide +kernel
theorem dX6_readPhase_101 : decode cX6_readPhase 101 = .ok (.aload_n 0, 1) := by decide +kernel
theorem dX6_readPhase_102 : decode cX6_readPhase 102 = .ok (.iconst 1, 1) := by decide +kernel
theorem dX6_readPhase_103 : decode cX6_readPhase 103 = .ok (.invokevirtual 75, 3) := by decide +kernel
theorem dX6_readPhase_106 : decode cX6_readPhase 106 = .ok (.iastore, 1) := by decide +kernel
theorem dX6_readPhase_107 : decode cX6_readPhase 107 = .ok (.aload_n 0, 1) := by decide +kernel
theorem dX6_readPhase_108 : decode cX6_readPhase 108 = .ok (.getfield 25, 3) := by decide +kernel
theorem dX6_readPhase_111 : decode cX6_readPhase 111 = .ok (.iload_n 1, 1) := by decide +kernel
theorem dX6_readPhase_112 : decode cX6_readPhase 112 = .ok (.iaload, 1) := by decide +kernel
theorem dX6_readPhase_113 : decode cX6_readPhase 113 = .ok (.iconst (-1), 1) := by decide +kernel
theorem dX6_readPhase_114 : decode cX6_readPhase 114 = .ok (.if_icmp .eq 7, 3) := by decide +kernel
theorem dX6_readPhase_117 : decode cX6_readPhase 117 = .ok (.iconst 1, 1) := by decide +kernel
theorem dX6_readPhase_118 : decode cX6_readPhase 118 = .ok (.goto 4, 3) := by decide +kernel
theorem dX6_readPhase_121 : decode cX6_readPhase 121 = .ok (.iconst 0, 1) := by decide +kernel
theorem dX6_readPhase_122 : decode cX6_readPhase 122 = .ok (.ireturn, 1) := by decide +kernel
theorem dX6_readWord_0 : decode cX6_readWord 0 = .ok (.aload_n 0, 1) := by decide +kernel
theorem dX6_readWord_1 : decode cX6_readWord 1 = .ok (.getfield 54, 3) := by decide +kernel
theorem dX6_readWord_4 : decode cX6_readWord 4 = .ok (.istore_n 1, 1) := by decide +kernel
theorem dX6_readWord_5 : decode cX6_readWord 5 = .ok (.iconst 0, 1) := by decide +kernel
theorem dX6_readWord_6 : decode cX6_readWord 6 = .ok (.istore_n 2, 1) := by decide +kernel
theorem dX6_readWord_7 : decode cX6_readWord 7 = .ok (.iload_n 2, 1) := by decide +kernel
theorem dX6_readWord_8 : decode cX6_readWord 8 = .ok (.bipush 9, 2) := by decide +kernel
theorem dX6_readWord_10 : decode cX6_readWord 10 = .ok (.if_icmp .ge 52, 3) := by decide +kernel
theorem dX6_readWord_13 : decode cX6_readWord 13 = .ok (.aload_n 0, 1) := by decide +kernel
theorem dX6_readWord_14 : decode cX6_readWord 14 = .ok (.iload_n 2, 1) := by decide +kernel
theorem dX6_readWord_15 : decode cX6_readWord 15 = .ok (.invokestatic 84, 3) := by decide +kernel
theorem dX6_readWord_18 : decode cX6_readWord 18 = .ok (.invokevirtual 88, 3) := by decide +kernel
theorem dX6_readWord_21 : decode cX6_readWord 21 = .ok (.istore_n 3, 1) := by decide +kernel
theorem dX6_readWord_22 : decode cX6_readWord 22 = .ok (.iload_n 3, 1) := by decide +kernel
theorem dX6_readWord_23 : decode cX6_readWord 23 = .ok (.iload_n 2, 1) := by decide +kernel
theorem dX6_readWord_24 : decode cX6_readWord 24 = .ok (.invokestatic 84, 3) := by decide +kernel
theorem dX6_readWord_27 : decode cX6_readWord 27 = .ok (.invokevirtual 92, 3) := by decide +kernel
theorem dX6_readWord_30 : decode cX6_readWord 30 = .ok (.if_icmp .ne 15, 3) := by decide +kernel
theorem dX6_readWord_33 : decode cX6_readWord 33 = .ok (.aload_n 0, 1) := by decide +kernel
theorem dX6_readWord_34 : decode cX6_readWord 34 = .ok (.dup, 1) := by decide +kernel
theorem dX6_readWord_35 : decode cX6_readWord 35 = .ok (.getfield 54, 3) := by decide +kernel
theorem dX6_readWord_38 : decode cX6_readWord 38 = .ok (.iload_n 3, 1) := by decide +kernel
theorem dX6_readWord_39 : decode cX6_readWord 39 = .ok (.iadd, 1) := by decide +kernel
theorem dX6_readWord_40 : decode cX6_readWord 40 = .ok (.putfield 54, 3) := by decide +kernel
theorem dX6_readWord_43 : decode cX6_readWord 43 = .ok (.iload_n 2, 1) := by decide +kernel
theorem dX6_readWord_44 : decode cX6_readWord 44 = .ok (.ireturn, 1) := by decide +kernel
theorem dX6_readWord_45 : decode cX6_readWord 45 = .ok (.iload_n 1, 1) := by decide +kernel
theorem dX6_readWord_46 : decode cX6_readWord 46 = .ok (.aload_n 0, 1) := by decide +kernel
theorem dX6_readWord_47 : decode cX6_readWord 47 = .ok (.getfield 54, 3) := by decide +kernel
theorem dX6_readWord_50 : decode cX6_readWord 50 = .ok (.iload_n 3, 1) := by decide +kernel
theorem dX6_readWord_51 : decode cX6_readWord 51 = .ok (.iadd, 1) := by decide +kernel
theorem dX6_readWord_52 : decode cX6_readWord 52 = .ok (.invokestatic 96, 3) := by decide +kernel
theorem dX6_readWord_55 : decode cX6_readWord 55 = .ok (.istore_n 1, 1) := by decide +kernel
theorem dX6_readWord_56 : decode cX6_readWord 56 = .ok (.iinc 2 1, 3) := by decide +kernel
theorem dX6_readWord_59 : decode cX6_readWord 59 = .ok (.goto (-52), 3) := by decide +kernel
theorem dX6_readWord_62 : decode cX6_readWord 62 = .ok (.aload_n 0, 1) := by decide +kernel
theorem dX6_readWord_63 : decode cX6_readWord 63 = .ok (.iload_n 1, 1) := by decide +kernel
theorem dX6_readWord_64 : decode cX6_readWord 64 = .ok (.putfield 54, 3) := by decide +kernel
theorem dX6_readWord_67 : decode cX6_readWord 67 = .ok (.iconst (-1), 1) := by decide +kernel
theorem dX6_readWord_68 : decode cX6_readWord 68 = .ok (.ireturn, 1) := by decide +kernel
theorem dX6_signsAlike_0 : decode cX6_signsAlike 0 = .ok (.iconst 0, 1) := by decide +kernel
theorem dX6_signsAlike_1 : decode cX6_signsAlike 1 = .ok (.istore_n 2, 1) := by decide +kernel
theorem dX6_signsAlike_2 : decode cX6_signsAlike 2 = .ok (.iload_n 2, 1) := by decide +kernel
theorem dX6_signsAlike_3 : decode cX6_signsAlike 3 = .ok (.aload_n 1, 1) := by decide +kernel
theorem dX6_signsAlike_4 : decode cX6_signsAlike 4 = .ok (.invokevirtual 92, 3) := by decide +kernel
theorem dX6_signsAlike_7 : decode cX6_signsAlike 7 = .ok (.if_icmp .ge 41, 3) := by decide +kernel
theorem dX6_signsAlike_10 : decode cX6_signsAlike 10 = .ok (.aload_n 0, 1) := by decide +kernel
theorem dX6_signsAlike_11 : decode cX6_signsAlike 11 = .ok (.getfield 54, 3) := by decide +kernel
theorem dX6_signsAlike_14 : decode cX6_signsAlike 14 = .ok (.iload_n 2, 1) := by decide +kernel
theorem dX6_signsAlike_15 : decode cX6_signsAlike 15 = .ok (.iadd, 1) := by decide +kernel
theorem dX6_signsAlike_16 : decode cX6_signsAlike 16 = .ok (.aload_n 0, 1) := by decide +kernel
theorem dX6_signsAlike_17 : decode cX6_signsAlike 17 = .ok (.getfield 46, 3) := by decide +kernel
theorem dX6_signsAlike_20 : decode cX6_signsAlike 20 = .ok (.if_icmp .ge 28, 3) := by decide +kernel
theorem dX6_signsAlike_23 : decode cX6_signsAlike 23 = .ok (.aload_n 0, 1) := by decide +kernel
theorem dX6_signsAlike_24 : decode cX6_signsAlike 24 = .ok (.getfield 9, 3) := by decide +kernel
theorem dX6_signsAlike_27 : decode cX6_signsAlike 27 = .ok (.aload_n 0, 1) := by decide +kernel
theorem dX6_signsAlike_28 : decode cX6_signsAlike 28 = .ok (.getfield 54, 3) := by decide +kernel
theorem dX6_signsAlike_31 : decode cX6_signsAlike 31 = .ok (.iload_n 2, 1) := by decide +kernel
theorem dX6_signsAlike_32 : decode cX6_signsAlike 32 = .ok (.iadd, 1) := by decide +kernel
theorem dX6_signsAlike_33 : decode cX6_signsAlike 33 = .ok (.caload, 1) := by decide +kernel
theorem dX6_signsAlike_34 : decode cX6_signsAlike 34 = .ok (.aload_n 1, 1) := by decide +kernel
theorem dX6_signsAlike_35 : decode cX6_signsAlike 35 = .ok (.iload_n 2, 1) := by decide +kernel
theorem dX6_signsAlike_36 : decode cX6_signsAlike 36 = .ok (.invokevirtual 102, 3) := by decide +kernel
theorem dX6_signsAlike_39 : decode cX6_signsAlike 39 = .ok (.if_icmp .ne 9, 3) := by decide +kernel
theorem dX6_signsAlike_42 : decode cX6_signsAlike 42 = .ok (.iinc 2 1, 3) := by decide +kernel
theorem dX6_signsAlike_45 : decode cX6_signsAlike 45 = .ok (.goto (-43), 3) := by decide +kernel
theorem dX6_signsAlike_48 : decode cX6_signsAlike 48 = .ok (.iload_n 2, 1) := by decide +kernel
theorem dX6_signsAlike_49 : decode cX6_signsAlike 49 = .ok (.ireturn, 1) := by decide +kernel
theorem dX6_readSign_0 : decode cX6_readSign 0 = .ok (.aload_n 0, 1) := by decide +kernel
theorem dX6_readSign_1 : decode cX6_readSign 1 = .ok (.getfield 54, 3) := by decide +kernel
theorem dX6_readSign_4 : decode cX6_readSign 4 = .ok (.aload_n 0, 1) := by decide +kernel
theorem dX6_readSign_5 : decode cX6_readSign 5 = .ok (.getfield 46, 3) := by decide +kernel
theorem dX6_readSign_8 : decode cX6_readSign 8 = .ok (.if_icmp .ge 28, 3) := by decide +kernel
theorem dX6_readSign_11 : decode cX6_readSign 11 = .ok (.aload_n 0, 1) := by decide +kernel
theorem dX6_readSign_12 : decode cX6_readSign 12 = .ok (.getfield 9, 3) := by decide +kernel
theorem dX6_readSign_15 : decode cX6_readSign 15 = .ok (.aload_n 0, 1) := by decide +kernel
theorem dX6_readSign_16 : decode cX6_readSign 16 = .ok (.getfield 54, 3) := by decide +kernel
theorem dX6_readSign_19 : decode cX6_readSign 19 = .ok (.caload, 1) := by decide +kernel
theorem dX6_readSign_20 : decode cX6_readSign 20 = .ok (.iload_n 1, 1) := by decide +kernel
theorem dX6_readSign_21 : decode cX6_readSign 21 = .ok (.if_icmp .ne 15, 3) := by decide +kernel
theorem dX6_readSign_24 : decode cX6_readSign 24 = .ok (.aload_n 0, 1) := by decide +kernel
theorem dX6_readSign_25 : decode cX6_readSign 25 = .ok (.dup, 1) := by decide +kernel
theorem dX6_readSign_26 : decode cX6_readSign 26 = .ok (.getfield 54, 3) := by decide +kernel
theorem dX6_readSign_29 : decode cX6_readSign 29 = .ok (.iconst 1, 1) := by decide +kernel
theorem dX6_readSign_30 : decode cX6_readSign 30 = .ok (.iadd, 1) := by decide +kernel
theorem dX6_readSign_31 : decode cX6_readSign 31 = .ok (.putfield 54, 3) := by decide +kernel
theorem dX6_readSign_34 : decode cX6_readSign 34 = .ok (.iconst 1, 1) := by decide +kernel
theorem dX6_readSign_35 : decode cX6_readSign 35 = .ok (.ireturn, 1) := by decide +kernel
theorem dX6_readSign_36 : decode cX6_readSign 36 = .ok (.iconst 0, 1) := by decide +kernel
theorem dX6_readSign_37 : decode cX6_readSign 37 = .ok (.ireturn, 1) := by decide +kernel
theorem dX6_readNumber_0 : decode cX6_readNumber 0 = .ok (.iconst (-1), 1) := by decide +kernel
theorem dX6_readNumber_1 : decode cX6_readNumber 1 = .ok (.istore_n 2, 1) := by decide +kernel
theorem dX6_readNumber_2 : decode cX6_readNumber 2 = .ok (.iconst 0, 1) := by decide +kernel
theorem dX6_readNumber_3 : decode cX6_readNumber 3 = .ok (.istore_n 3, 1) := by decide +kernel
theorem dX6_readNumber_4 : decode cX6_readNumber 4 = .ok (.iload_n 3, 1) := by decide +kernel
theorem dX6_readNumber_5 : decode cX6_readNumber 5 = .ok (.iload_n 1, 1) := by decide +kernel
theorem dX6_readNumber_6 : decode cX6_readNumber 6 = .ok (.if_icmp .ge 67, 3) := by decide +kernel
theorem dX6_readNumber_9 : decode cX6_readNumber 9 = .ok (.aload_n 0, 1) := by decide +kernel
theorem dX6_readNumber_10 : decode cX6_readNumber 10 = .ok (.getfield 54, 3) := by decide +kernel
theorem dX6_readNumber_13 : decode cX6_readNumber 13 = .ok (.aload_n 0, 1) := by decide +kernel
theorem dX6_readNumber_14 : decode cX6_readNumber 14 = .ok (.getfield 46, 3) := by decide +kernel
theorem dX6_readNumber_17 : decode cX6_readNumber 17 = .ok (.if_icmp .ge 56, 3) := by decide +kernel
theorem dX6_readNumber_20 : decode cX6_readNumber 20 = .ok (.aload_n 0, 1) := by decide +kernel
theorem dX6_readNumber_21 : decode cX6_readNumber 21 = .ok (.getfield 9, 3) := by decide +kernel
theorem dX6_readNumber_24 : decode cX6_readNumber 24 = .ok (.aload_n 0, 1) := by decide +kernel
theorem dX6_readNumber_25 : decode cX6_readNumber 25 = .ok (.getfield 54, 3) := by decide +kernel
theorem dX6_readNumber_28 : decode cX6_readNumber 28 = .ok (.caload, 1) := by decide +kernel
theorem dX6_readNumber_29 : decode cX6_readNumber 29 = .ok (.invokestatic 106, 3) := by decide +kernel
theorem dX6_readNumber_32 : decode cX6_readNumber 32 = .ok (.ifCond .eq 41, 3) := by decide +kernel
theorem dX6_readNumber_35 : decode cX6_readNumber 35 = .ok (.iconst 0, 1) := by decide +kernel
theorem dX6_readNumber_36 : decode cX6_readNumber 36 = .ok (.iload_n 2, 1) := by decide +kernel
theorem dX6_readNumber_37 : decode cX6_readNumber 37 = .ok (.invokestatic 96, 3) := by decide +kernel
theorem dX6_readNumber_40 : decode cX6_readNumber 40 = .ok (.bipush 10, 2) := by decide +kernel
theorem dX6_readNumber_42 : decode cX6_readNumber 42 = .ok (.imul, 1) := by decide +kernel
theorem dX6_readNumber_43 : decode cX6_readNumber 43 = .ok (.aload_n 0, 1) := by decide +kernel
theorem dX6_readNumber_44 : decode cX6_readNumber 44 = .ok (.getfield 9, 3) := by decide +kernel
theorem dX6_readNumber_47 : decode cX6_readNumber 47 = .ok (.aload_n 0, 1) := by decide +kernel
theorem dX6_readNumber_48 : decode cX6_readNumber 48 = .ok (.getfield 54, 3) := by decide +kernel
theorem dX6_readNumber_51 : decode cX6_readNumber 51 = .ok (.caload, 1) := by decide +kernel
theorem dX6_readNumber_52 : decode cX6_readNumber 52 = .ok (.iadd, 1) := by decide +kernel
theorem dX6_readNumber_53 : decode cX6_readNumber 53 = .ok (.bipush 48, 2) := by decide +kernel
theorem dX6_readNumber_55 : decode cX6_readNumber 55 = .ok (.isub, 1) := by decide +kernel
theorem dX6_readNumber_56 : decode cX6_readNumber 56 = .ok (.istore_n 2, 1) := by decide +kernel
theorem dX6_readNumber_57 : decode cX6_readNumber 57 = .ok (.aload_n 0, 1) := by decide +kernel
theorem dX6_readNumber_58 : decode cX6_readNumber 58 = .ok (.dup, 1) := by decide +kernel
theorem dX6_readNumber_59 : decode cX6_readNumber 59 = .ok (.getfield 54, 3) := by decide +kernel
theorem dX6_readNumber_62 : decode cX6_readNumber 62 = .ok (.iconst 1, 1) := by decide +kernel
theorem dX6_readNumber_63 : decode cX6_readNumber 63 = .ok (.iadd, 1) := by decide +kernel
theorem dX6_readNumber_64 : decode cX6_readNumber 64 = .ok (.putfield 54, 3) := by decide +kernel
theorem dX6_readNumber_67 : decode cX6_readNumber 67 = .ok (.iinc 3 1, 3) := by decide +kernel
theorem dX6_readNumber_70 : decode cX6_readNumber 70 = .ok (.goto (-66), 3) := by decide +kernel
theorem dX6_readNumber_73 : decode cX6_readNumber 73 = .ok (.iload_n 2, 1) := by decide +kernel
theorem dX6_readNumber_74 : decode cX6_readNumber 74 = .ok (.ireturn, 1) := by decide +kernel
theorem dX6_isDigit_0 : decode cX6_isDigit 0 = .ok (.iload_n 0, 1) := by decide +kernel
theorem dX6_isDigit_1 : decode cX6_isDigit 1 = .ok (.bipush 48, 2) := by decide +kernel
theorem dX6_isDigit_3 : decode cX6_isDigit 3 = .ok (.if_icmp .lt 13, 3) := by decide +kernel
theorem dX6_isDigit_6 : decode cX6_isDigit 6 = .ok (.iload_n 0, 1) := by decide +kernel
theorem dX6_isDigit_7 : decode cX6_isDigit 7 = .ok (.bipush 57, 2) := by decide +kernel
theorem dX6_isDigit_9 : decode cX6_isDigit 9 = .ok (.if_icmp .gt 7, 3) := by decide +kernel
theorem dX6_isDigit_12 : decode cX6_isDigit 12 = .ok (.iconst 1, 1) := by decide +kernel
theorem dX6_isDigit_13 : decode cX6_isDigit 13 = .ok (.goto 4, 3) := by decide +kernel
theorem dX6_isDigit_16 : decode cX6_isDigit 16 = .ok (.iconst 0, 1) := by decide +kernel
theorem dX6_isDigit_17 : decode cX6_isDigit 17 = .ok (.ireturn, 1) := by decide +kernel
theorem dX7_init_0 : decode cX7_init 0 = .ok (.aload_n 0, 1) := by decide +kernel
theorem dX7_init_1 : decode cX7_init 1 = .ok (.invokespecial 3, 3) := by decide +kernel
theorem dX7_init_4 : decode cX7_init 4 = .ok (.aload_n 0, 1) := by decide +kernel
theorem dX7_init_5 : decode cX7_init 5 = .ok (.new 9, 3) := by decide +kernel
theorem dX7_init_8 : decode cX7_init 8 = .ok (.dup, 1) := by decide +kernel
theorem dX7_init_9 : decode cX7_init 9 = .ok (.invokespecial 11, 3) := by decide +kernel
theorem dX7_init_12 : decode cX7_init 12 = .ok (.putfield 12, 3) := by decide +kernel
theorem dX7_init_15 : decode cX7_init 15 = .ok (.aload_n 0, 1) := by decide +kernel
theorem dX7_init_16 : decode cX7_init 16 = .ok (.new 9, 3) := by decide +kernel
theorem dX7_init_19 : decode cX7_init 19 = .ok (.dup, 1) := by decide +kernel
theorem dX7_init_20 : decode cX7_init 20 = .ok (.invokespecial 11, 3) := by decide +kernel
theorem dX7_init_23 : decode cX7_init 23 = .ok (.putfield 16, 3) := by decide +kernel
theorem dX7_init_26 : decode cX7_init 26 = .ok (.aload_n 0, 1) := by decide +kernel
theorem dX7_init_27 : decode cX7_init 27 = .ok (.new 9, 3) := by decide +kernel
theorem dX7_init_30 : decode cX7_init 30 = .ok (.dup, 1) := by decide +kernel
theorem dX7_init_31 : decode cX7_init 31 = .ok (.invokespecial 11, 3) := by decide +kernel
theorem dX7_init_34 : decode cX7_init 34 = .ok (.putfield 19, 3) := by decide +kernel
theorem dX7_init_37 : decode cX7_init 37 = .ok (.aload_n 0, 1) := by decide +kernel
theorem dX7_init_38 : decode cX7_init 38 = .ok (.new 22, 3) := by decide +kernel
theorem dX7_init_41 : decode cX7_init 41 = .ok (.dup, 1) := by decide +kernel
theorem dX7_init_42 : decode cX7_init 42 = .ok (.invokespecial 24, 3) := by decide +kernel
theorem dX7_init_45 : decode cX7_init 45 = .ok (.putfield 25, 3) := by decide +kernel
theorem dX7_init_48 : decode cX7_init 48 = .ok (.aload_n 0, 1) := by decide +kernel
theorem dX7_init_49 : decode cX7_init 49 = .ok (.new 29, 3) := by decide +kernel
