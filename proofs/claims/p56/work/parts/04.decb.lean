theorem dX7_init_52 : decode cX7_init 52 = .ok (.dup, 1) := by decide +kernel
theorem dX7_init_53 : decode cX7_init 53 = .ok (.invokespecial 31, 3) := by decide +kernel
theorem dX7_init_56 : decode cX7_init 56 = .ok (.putfield 32, 3) := by decide +kernel
theorem dX7_init_59 : decode cX7_init 59 = .ok (.aload_n 0, 1) := by decide +kernel
theorem dX7_init_60 : decode cX7_init 60 = .ok (.iconst (-1), 1) := by decide +kernel
theorem dX7_init_61 : decode cX7_init 61 = .ok (.putfield 36, 3) := by decide +kernel
theorem dX7_init_64 : decode cX7_init 64 = .ok (.aload_n 0, 1) := by decide +kernel
theorem dX7_init_65 : decode cX7_init 65 = .ok (.new 40, 3) := by decide +kernel
theorem dX7_init_68 : decode cX7_init 68 = .ok (.dup, 1) := by decide +kernel
theorem dX7_init_69 : decode cX7_init 69 = .ok (.invokespecial 42, 3) := by decide +kernel
theorem dX7_init_72 : decode cX7_init 72 = .ok (.putfield 43, 3) := by decide +kernel
theorem dX7_init_75 : decode cX7_init 75 = .ok (.return_, 1) := by decide +kernel
theorem dX7_addPhase_0 : decode cX7_addPhase 0 = .ok (.aload_n 0, 1) := by decide +kernel
theorem dX7_addPhase_1 : decode cX7_addPhase 1 = .ok (.getfield 12, 3) := by decide +kernel
theorem dX7_addPhase_4 : decode cX7_addPhase 4 = .ok (.iload_n 1, 1) := by decide +kernel
theorem dX7_addPhase_5 : decode cX7_addPhase 5 = .ok (.iload_n 2, 1) := by decide +kernel
theorem dX7_addPhase_6 : decode cX7_addPhase 6 = .ok (.iload_n 3, 1) := by decide +kernel
theorem dX7_addPhase_7 : decode cX7_addPhase 7 = .ok (.invokevirtual 47, 3) := by decide +kernel
theorem dX7_addPhase_10 : decode cX7_addPhase 10 = .ok (.istore 4, 2) := by decide +kernel
theorem dX7_addPhase_12 : decode cX7_addPhase 12 = .ok (.aload_n 0, 1) := by decide +kernel
theorem dX7_addPhase_13 : decode cX7_addPhase 13 = .ok (.iload 4, 2) := by decide +kernel
theorem dX7_addPhase_15 : decode cX7_addPhase 15 = .ok (.invokevirtual 51, 3) := by decide +kernel
theorem dX7_addPhase_18 : decode cX7_addPhase 18 = .ok (.aload_n 0, 1) := by decide +kernel
theorem dX7_addPhase_19 : decode cX7_addPhase 19 = .ok (.iload 4, 2) := by decide +kernel
theorem dX7_addPhase_21 : decode cX7_addPhase 21 = .ok (.bipush 8, 2) := by decide +kernel
theorem dX7_addPhase_23 : decode cX7_addPhase 23 = .ok (.invokevirtual 55, 3) := by decide +kernel
theorem dX7_addPhase_26 : decode cX7_addPhase 26 = .ok (.aload_n 0, 1) := by decide +kernel
theorem dX7_addPhase_27 : decode cX7_addPhase 27 = .ok (.getfield 25, 3) := by decide +kernel
theorem dX7_addPhase_30 : decode cX7_addPhase 30 = .ok (.aload_n 0, 1) := by decide +kernel
theorem dX7_addPhase_31 : decode cX7_addPhase 31 = .ok (.getfield 12, 3) := by decide +kernel
theorem dX7_addPhase_34 : decode cX7_addPhase 34 = .ok (.invokevirtual 59, 3) := by decide +kernel
theorem dX7_addPhase_37 : decode cX7_addPhase 37 = .ok (.aload_n 0, 1) := by decide +kernel
theorem dX7_addPhase_38 : decode cX7_addPhase 38 = .ok (.getfield 12, 3) := by decide +kernel
theorem dX7_addPhase_41 : decode cX7_addPhase 41 = .ok (.iload_n 1, 1) := by decide +kernel
theorem dX7_addPhase_42 : decode cX7_addPhase 42 = .ok (.iload_n 2, 1) := by decide +kernel
theorem dX7_addPhase_43 : decode cX7_addPhase 43 = .ok (.iload_n 3, 1) := by decide +kernel
theorem dX7_addPhase_44 : decode cX7_addPhase 44 = .ok (.invokevirtual 63, 3) := by decide +kernel
theorem dX7_addPhase_47 : decode cX7_addPhase 47 = .ok (.ireturn, 1) := by decide +kernel
theorem dX7_removePhase_0 : decode cX7_removePhase 0 = .ok (.aload_n 0, 1) := by decide +kernel
theorem dX7_removePhase_1 : decode cX7_removePhase 1 = .ok (.getfield 12, 3) := by decide +kernel
theorem dX7_removePhase_4 : decode cX7_removePhase 4 = .ok (.iload_n 1, 1) := by decide +kernel
theorem dX7_removePhase_5 : decode cX7_removePhase 5 = .ok (.invokevirtual 66, 3) := by decide +kernel
theorem dX7_removePhase_8 : decode cX7_removePhase 8 = .ok (.istore_n 2, 1) := by decide +kernel
theorem dX7_removePhase_9 : decode cX7_removePhase 9 = .ok (.aload_n 0, 1) := by decide +kernel
theorem dX7_removePhase_10 : decode cX7_removePhase 10 = .ok (.iload_n 2, 1) := by decide +kernel
theorem dX7_removePhase_11 : decode cX7_removePhase 11 = .ok (.invokevirtual 70, 3) := by decide +kernel
theorem dX7_removePhase_14 : decode cX7_removePhase 14 = .ok (.aload_n 0, 1) := by decide +kernel
theorem dX7_removePhase_15 : decode cX7_removePhase 15 = .ok (.iload_n 2, 1) := by decide +kernel
theorem dX7_removePhase_16 : decode cX7_removePhase 16 = .ok (.iconst (-1), 1) := by decide +kernel
theorem dX7_removePhase_17 : decode cX7_removePhase 17 = .ok (.invokevirtual 55, 3) := by decide +kernel
theorem dX7_removePhase_20 : decode cX7_removePhase 20 = .ok (.aload_n 0, 1) := by decide +kernel
theorem dX7_removePhase_21 : decode cX7_removePhase 21 = .ok (.getfield 25, 3) := by decide +kernel
theorem dX7_removePhase_24 : decode cX7_removePhase 24 = .ok (.aload_n 0, 1) := by decide +kernel
theorem dX7_removePhase_25 : decode cX7_removePhase 25 = .ok (.getfield 12, 3) := by decide +kernel
theorem dX7_removePhase_28 : decode cX7_removePhase 28 = .ok (.invokevirtual 59, 3) := by decide +kernel
theorem dX7_removePhase_31 : decode cX7_removePhase 31 = .ok (.aload_n 0, 1) := by decide +kernel
theorem dX7_removePhase_32 : decode cX7_removePhase 32 = .ok (.getfield 12, 3) := by decide +kernel
theorem dX7_removePhase_35 : decode cX7_removePhase 35 = .ok (.iload_n 1, 1) := by decide +kernel
theorem dX7_removePhase_36 : decode cX7_removePhase 36 = .ok (.invokevirtual 73, 3) := by decide +kernel
theorem dX7_removePhase_39 : decode cX7_removePhase 39 = .ok (.ireturn, 1) := by decide +kernel
theorem dX7_start_0 : decode cX7_start 0 = .ok (.aload_n 0, 1) := by decide +kernel
theorem dX7_start_1 : decode cX7_start 1 = .ok (.aload_n 0, 1) := by decide +kernel
theorem dX7_start_2 : decode cX7_start 2 = .ok (.getfield 12, 3) := by decide +kernel
theorem dX7_start_5 : decode cX7_start 5 = .ok (.invokevirtual 76, 3) := by decide +kernel
theorem dX7_start_8 : decode cX7_start 8 = .ok (.iconst (-1), 1) := by decide +kernel
theorem dX7_start_9 : decode cX7_start 9 = .ok (.invokevirtual 55, 3) := by decide +kernel
theorem dX7_start_12 : decode cX7_start 12 = .ok (.aload_n 0, 1) := by decide +kernel
theorem dX7_start_13 : decode cX7_start 13 = .ok (.getfield 25, 3) := by decide +kernel
theorem dX7_start_16 : decode cX7_start 16 = .ok (.aload_n 0, 1) := by decide +kernel
theorem dX7_start_17 : decode cX7_start 17 = .ok (.getfield 12, 3) := by decide +kernel
theorem dX7_start_20 : decode cX7_start 20 = .ok (.invokevirtual 59, 3) := by decide +kernel
theorem dX7_start_23 : decode cX7_start 23 = .ok (.aload_n 0, 1) := by decide +kernel
theorem dX7_start_24 : decode cX7_start 24 = .ok (.getfield 12, 3) := by decide +kernel
theorem dX7_start_27 : decode cX7_start 27 = .ok (.invokevirtual 80, 3) := by decide +kernel
theorem dX7_start_30 : decode cX7_start 30 = .ok (.ireturn, 1) := by decide +kernel
theorem dX7_stop_0 : decode cX7_stop 0 = .ok (.aload_n 0, 1) := by decide +kernel
theorem dX7_stop_1 : decode cX7_stop 1 = .ok (.aload_n 0, 1) := by decide +kernel
theorem dX7_stop_2 : decode cX7_stop 2 = .ok (.getfield 12, 3) := by decide +kernel
theorem dX7_stop_5 : decode cX7_stop 5 = .ok (.invokevirtual 83, 3) := by decide +kernel
theorem dX7_stop_8 : decode cX7_stop 8 = .ok (.iconst (-1), 1) := by decide +kernel
theorem dX7_stop_9 : decode cX7_stop 9 = .ok (.invokevirtual 55, 3) := by decide +kernel
theorem dX7_stop_12 : decode cX7_stop 12 = .ok (.aload_n 0, 1) := by decide +kernel
theorem dX7_stop_13 : decode cX7_stop 13 = .ok (.getfield 25, 3) := by decide +kernel
theorem dX7_stop_16 : decode cX7_stop 16 = .ok (.aload_n 0, 1) := by decide +kernel
theorem dX7_stop_17 : decode cX7_stop 17 = .ok (.getfield 12, 3) := by decide +kernel
theorem dX7_stop_20 : decode cX7_stop 20 = .ok (.invokevirtual 59, 3) := by decide +kernel
theorem dX7_stop_23 : decode cX7_stop 23 = .ok (.aload_n 0, 1) := by decide +kernel
theorem dX7_stop_24 : decode cX7_stop 24 = .ok (.getfield 12, 3) := by decide +kernel
theorem dX7_stop_27 : decode cX7_stop 27 = .ok (.invokevirtual 86, 3) := by decide +kernel
theorem dX7_stop_30 : decode cX7_stop 30 = .ok (.ireturn, 1) := by decide +kernel
theorem dX7_run_0 : decode cX7_run 0 = .ok (.aload_n 0, 1) := by decide +kernel
theorem dX7_run_1 : decode cX7_run 1 = .ok (.aload_n 0, 1) := by decide +kernel
theorem dX7_run_2 : decode cX7_run 2 = .ok (.getfield 12, 3) := by decide +kernel
theorem dX7_run_5 : decode cX7_run 5 = .ok (.iload_n 1, 1) := by decide +kernel
theorem dX7_run_6 : decode cX7_run 6 = .ok (.invokevirtual 89, 3) := by decide +kernel
theorem dX7_run_9 : decode cX7_run 9 = .ok (.invokevirtual 51, 3) := by decide +kernel
theorem dX7_run_12 : decode cX7_run 12 = .ok (.aload_n 0, 1) := by decide +kernel
theorem dX7_run_13 : decode cX7_run 13 = .ok (.getfield 25, 3) := by decide +kernel
theorem dX7_run_16 : decode cX7_run 16 = .ok (.aload_n 0, 1) := by decide +kernel
theorem dX7_run_17 : decode cX7_run 17 = .ok (.getfield 12, 3) := by decide +kernel
theorem dX7_run_20 : decode cX7_run 20 = .ok (.invokevirtual 59, 3) := by decide +kernel
theorem dX7_run_23 : decode cX7_run 23 = .ok (.aload_n 0, 1) := by decide +kernel
theorem dX7_run_24 : decode cX7_run 24 = .ok (.getfield 12, 3) := by decide +kernel
theorem dX7_run_27 : decode cX7_run 27 = .ok (.iload_n 1, 1) := by decide +kernel
theorem dX7_run_28 : decode cX7_run 28 = .ok (.invokevirtual 92, 3) := by decide +kernel
theorem dX7_run_31 : decode cX7_run 31 = .ok (.ireturn, 1) := by decide +kernel
theorem dX7_phaseCount_0 : decode cX7_phaseCount 0 = .ok (.aload_n 0, 1) := by decide +kernel
theorem dX7_phaseCount_1 : decode cX7_phaseCount 1 = .ok (.getfield 12, 3) := by decide +kernel
theorem dX7_phaseCount_4 : decode cX7_phaseCount 4 = .ok (.getfield 95, 3) := by decide +kernel
theorem dX7_phaseCount_7 : decode cX7_phaseCount 7 = .ok (.getfield 99, 3) := by decide +kernel
theorem dX7_phaseCount_10 : decode cX7_phaseCount 10 = .ok (.ireturn, 1) := by decide +kernel
theorem dX7_phaseKind_0 : decode cX7_phaseKind 0 = .ok (.aload_n 0, 1) := by decide +kernel
theorem dX7_phaseKind_1 : decode cX7_phaseKind 1 = .ok (.iload_n 1, 1) := by decide +kernel
theorem dX7_phaseKind_2 : decode cX7_phaseKind 2 = .ok (.invokevirtual 104, 3) := by decide +kernel
theorem dX7_phaseKind_5 : decode cX7_phaseKind 5 = .ok (.aload_n 0, 1) := by decide +kernel
theorem dX7_phaseKind_6 : decode cX7_phaseKind 6 = .ok (.getfield 12, 3) := by decide +kernel
theorem dX7_phaseKind_9 : decode cX7_phaseKind 9 = .ok (.getfield 95, 3) := by decide +kernel
theorem dX7_phaseKind_12 : decode cX7_phaseKind 12 = .ok (.getfield 107, 3) := by decide +kernel
theorem dX7_phaseKind_15 : decode cX7_phaseKind 15 = .ok (.iload_n 1, 1) := by decide +kernel
theorem dX7_phaseKind_16 : decode cX7_phaseKind 16 = .ok (.caload, 1) := by decide +kernel
theorem dX7_phaseKind_17 : decode cX7_phaseKind 17 = .ok (.ireturn, 1) := by decide +kernel
theorem dX7_phaseMinutes_0 : decode cX7_phaseMinutes 0 = .ok (.aload_n 0, 1) := by decide +kernel
theorem dX7_phaseMinutes_1 : decode cX7_phaseMinutes 1 = .ok (.iload_n 1, 1) := by decide +kernel
theorem dX7_phaseMinutes_2 : decode cX7_phaseMinutes 2 = .ok (.invokevirtual 104, 3) := by decide +kernel
theorem dX7_phaseMinutes_5 : decode cX7_phaseMinutes 5 = .ok (.aload_n 0, 1) := by decide +kernel
theorem dX7_phaseMinutes_6 : decode cX7_phaseMinutes 6 = .ok (.getfield 12, 3) := by decide +kernel
theorem dX7_phaseMinutes_9 : decode cX7_phaseMinutes 9 = .ok (.getfield 95, 3) := by decide +kernel
theorem dX7_phaseMinutes_12 : decode cX7_phaseMinutes 12 = .ok (.getfield 111, 3) := by decide +kernel
theorem dX7_phaseMinutes_15 : decode cX7_phaseMinutes 15 = .ok (.iload_n 1, 1) := by decide +kernel
theorem dX7_phaseMinutes_16 : decode cX7_phaseMinutes 16 = .ok (.iaload, 1) := by decide +kernel
theorem dX7_phaseMinutes_17 : decode cX7_phaseMinutes 17 = .ok (.ireturn, 1) := by decide +kernel
theorem dX7_isRunning_0 : decode cX7_isRunning 0 = .ok (.aload_n 0, 1) := by decide +kernel
theorem dX7_isRunning_1 : decode cX7_isRunning 1 = .ok (.getfield 12, 3) := by decide +kernel
theorem dX7_isRunning_4 : decode cX7_isRunning 4 = .ok (.getfield 95, 3) := by decide +kernel
theorem dX7_isRunning_7 : decode cX7_isRunning 7 = .ok (.invokevirtual 115, 3) := by decide +kernel
theorem dX7_isRunning_10 : decode cX7_isRunning 10 = .ok (.ireturn, 1) := by decide +kernel
theorem dX7_presentPhase_0 : decode cX7_presentPhase 0 = .ok (.aload_n 0, 1) := by decide +kernel
theorem dX7_presentPhase_1 : decode cX7_presentPhase 1 = .ok (.getfield 12, 3) := by decide +kernel
theorem dX7_presentPhase_4 : decode cX7_presentPhase 4 = .ok (.getfield 95, 3) := by decide +kernel
theorem dX7_presentPhase_7 : decode cX7_presentPhase 7 = .ok (.invokevirtual 115, 3) := by decide +kernel
theorem dX7_presentPhase_10 : decode cX7_presentPhase 10 = .ok (.ifCond .ne 13, 3) := by decide +kernel
theorem dX7_presentPhase_13 : decode cX7_presentPhase 13 = .ok (.new 119, 3) := by decide +kernel
theorem dX7_presentPhase_16 : decode cX7_presentPhase 16 = .ok (.dup, 1) := by decide +kernel
theorem dX7_presentPhase_17 : decode cX7_presentPhase 17 = .ok (.ldc 121, 2) := by decide +kernel
theorem dX7_presentPhase_19 : decode cX7_presentPhase 19 = .ok (.invokespecial 123, 3) := by decide +kernel
theorem dX7_presentPhase_22 : decode cX7_presentPhase 22 = .ok (.athrow, 1) := by decide +kernel
theorem dX7_presentPhase_23 : decode cX7_presentPhase 23 = .ok (.aload_n 0, 1) := by decide +kernel
theorem dX7_presentPhase_24 : decode cX7_presentPhase 24 = .ok (.getfield 12, 3) := by decide +kernel
theorem dX7_presentPhase_27 : decode cX7_presentPhase 27 = .ok (.getfield 95, 3) := by decide +kernel
theorem dX7_presentPhase_30 : decode cX7_presentPhase 30 = .ok (.getfield 126, 3) := by decide +kernel
theorem dX7_presentPhase_33 : decode cX7_presentPhase 33 = .ok (.ireturn, 1) := by decide +kernel
theorem dX7_minutesLeft_0 : decode cX7_minutesLeft 0 = .ok (.aload_n 0, 1) := by decide +kernel
theorem dX7_minutesLeft_1 : decode cX7_minutesLeft 1 = .ok (.getfield 16, 3) := by decide +kernel
theorem dX7_minutesLeft_4 : decode cX7_minutesLeft 4 = .ok (.aload_n 0, 1) := by decide +kernel
theorem dX7_minutesLeft_5 : decode cX7_minutesLeft 5 = .ok (.getfield 12, 3) := by decide +kernel
theorem dX7_minutesLeft_8 : decode cX7_minutesLeft 8 = .ok (.invokevirtual 129, 3) := by decide +kernel
theorem dX7_minutesLeft_11 : decode cX7_minutesLeft 11 = .ok (.iconst 0, 1) := by decide +kernel
theorem dX7_minutesLeft_12 : decode cX7_minutesLeft 12 = .ok (.istore_n 1, 1) := by decide +kernel
theorem dX7_minutesLeft_13 : decode cX7_minutesLeft 13 = .ok (.iload_n 1, 1) := by decide +kernel
theorem dX7_minutesLeft_14 : decode cX7_minutesLeft 14 = .ok (.sipush 240, 3) := by decide +kernel
theorem dX7_minutesLeft_17 : decode cX7_minutesLeft 17 = .ok (.if_icmp .ge 29, 3) := by decide +kernel
theorem dX7_minutesLeft_20 : decode cX7_minutesLeft 20 = .ok (.aload_n 0, 1) := by decide +kernel
theorem dX7_minutesLeft_21 : decode cX7_minutesLeft 21 = .ok (.getfield 16, 3) := by decide +kernel
theorem dX7_minutesLeft_24 : decode cX7_minutesLeft 24 = .ok (.getfield 95, 3) := by decide +kernel
theorem dX7_minutesLeft_27 : decode cX7_minutesLeft 27 = .ok (.invokevirtual 115, 3) := by decide +kernel
theorem dX7_minutesLeft_30 : decode cX7_minutesLeft 30 = .ok (.ifCond .eq 16, 3) := by decide +kernel
theorem dX7_minutesLeft_33 : decode cX7_minutesLeft 33 = .ok (.aload_n 0, 1) := by decide +kernel
theorem dX7_minutesLeft_34 : decode cX7_minutesLeft 34 = .ok (.getfield 16, 3) := by decide +kernel
theorem dX7_minutesLeft_37 : decode cX7_minutesLeft 37 = .ok (.invokevirtual 132, 3) := by decide +kernel
theorem dX7_minutesLeft_40 : decode cX7_minutesLeft 40 = .ok (.iinc 1 1, 3) := by decide +kernel
theorem dX7_minutesLeft_43 : decode cX7_minutesLeft 43 = .ok (.goto (-30), 3) := by decide +kernel
theorem dX7_minutesLeft_46 : decode cX7_minutesLeft 46 = .ok (.iload_n 1, 1) := by decide +kernel
theorem dX7_minutesLeft_47 : decode cX7_minutesLeft 47 = .ok (.ireturn, 1) := by decide +kernel
theorem dX7_minutesLeftByPhases_0 : decode cX7_minutesLeftByPhases 0 = .ok (.aload_n 0, 1) := by decide +kernel
theorem dX7_minutesLeftByPhases_1 : decode cX7_minutesLeftByPhases 1 = .ok (.getfield 12, 3) := by decide +kernel
theorem dX7_minutesLeftByPhases_4 : decode cX7_minutesLeftByPhases 4 = .ok (.getfield 95, 3) := by decide +kernel
theorem dX7_minutesLeftByPhases_7 : decode cX7_minutesLeftByPhases 7 = .ok (.invokevirtual 135, 3) := by decide +kernel
theorem dX7_minutesLeftByPhases_10 : decode cX7_minutesLeftByPhases 10 = .ok (.ireturn, 1) := by decide +kernel
theorem dX7_finishedCycles_0 : decode cX7_finishedCycles 0 = .ok (.aload_n 0, 1) := by decide +kernel
theorem dX7_finishedCycles_1 : decode cX7_finishedCycles 1 = .ok (.getfield 12, 3) := by decide +kernel
theorem dX7_finishedCycles_4 : decode cX7_finishedCycles 4 = .ok (.getfield 95, 3) := by decide +kernel
theorem dX7_finishedCycles_7 : decode cX7_finishedCycles 7 = .ok (.getfield 138, 3) := by decide +kernel
theorem dX7_finishedCycles_10 : decode cX7_finishedCycles 10 = .ok (.ireturn, 1) := by decide +kernel
theorem dX7_load_0 : decode cX7_load 0 = .ok (.aload_n 0, 1) := by decide +kernel
theorem dX7_load_1 : decode cX7_load 1 = .ok (.getfield 12, 3) := by decide +kernel
theorem dX7_load_4 : decode cX7_load 4 = .ok (.iload_n 1, 1) := by decide +kernel
theorem dX7_load_5 : decode cX7_load 5 = .ok (.invokevirtual 141, 3) := by decide +kernel
theorem dX7_load_8 : decode cX7_load 8 = .ok (.istore_n 2, 1) := by decide +kernel
theorem dX7_load_9 : decode cX7_load 9 = .ok (.aload_n 0, 1) := by decide +kernel
theorem dX7_load_10 : decode cX7_load 10 = .ok (.iload_n 2, 1) := by decide +kernel
theorem dX7_load_11 : decode cX7_load 11 = .ok (.invokevirtual 51, 3) := by decide +kernel
theorem dX7_load_14 : decode cX7_load 14 = .ok (.aload_n 0, 1) := by decide +kernel
theorem dX7_load_15 : decode cX7_load 15 = .ok (.iload_n 2, 1) := by decide +kernel
theorem dX7_load_16 : decode cX7_load 16 = .ok (.bipush 100, 2) := by decide +kernel
theorem dX7_load_18 : decode cX7_load 18 = .ok (.invokevirtual 55, 3) := by decide +kernel
theorem dX7_load_21 : decode cX7_load 21 = .ok (.aload_n 0, 1) := by decide +kernel
theorem dX7_load_22 : decode cX7_load 22 = .ok (.getfield 25, 3) := by decide +kernel
theorem dX7_load_25 : decode cX7_load 25 = .ok (.aload_n 0, 1) := by decide +kernel
theorem dX7_load_26 : decode cX7_load 26 = .ok (.getfield 12, 3) := by decide +kernel
theorem dX7_load_29 : decode cX7_load 29 = .ok (.invokevirtual 59, 3) := by decide +kernel
theorem dX7_load_32 : decode cX7_load 32 = .ok (.aload_n 0, 1) := by decide +kernel
theorem dX7_load_33 : decode cX7_load 33 = .ok (.getfield 12, 3) := by decide +kernel
theorem dX7_load_36 : decode cX7_load 36 = .ok (.iload_n 1, 1) := by decide +kernel
theorem dX7_load_37 : decode cX7_load 37 = .ok (.invokevirtual 144, 3) := by decide +kernel
theorem dX7_load_40 : decode cX7_load 40 = .ok (.ireturn, 1) := by decide +kernel
theorem dX7_mass_0 : decode cX7_mass 0 = .ok (.aload_n 0, 1) := by decide +kernel
theorem dX7_mass_1 : decode cX7_mass 1 = .ok (.getfield 12, 3) := by decide +kernel
theorem dX7_mass_4 : decode cX7_mass 4 = .ok (.getfield 147, 3) := by decide +kernel
theorem dX7_mass_7 : decode cX7_mass 7 = .ok (.getfield 151, 3) := by decide +kernel
theorem dX7_mass_10 : decode cX7_mass 10 = .ok (.ireturn, 1) := by decide +kernel
theorem dX7_temperature_0 : decode cX7_temperature 0 = .ok (.aload_n 0, 1) := by decide +kernel
theorem dX7_temperature_1 : decode cX7_temperature 1 = .ok (.getfield 12, 3) := by decide +kernel
theorem dX7_temperature_4 : decode cX7_temperature 4 = .ok (.getfield 147, 3) := by decide +kernel
theorem dX7_temperature_7 : decode cX7_temperature 7 = .ok (.getfield 156, 3) := by decide +kernel
theorem dX7_temperature_10 : decode cX7_temperature 10 = .ok (.ireturn, 1) := by decide +kernel
theorem dX7_smoothness_0 : decode cX7_smoothness 0 = .ok (.aload_n 0, 1) := by decide +kernel
theorem dX7_smoothness_1 : decode cX7_smoothness 1 = .ok (.getfield 12, 3) := by decide +kernel
theorem dX7_smoothness_4 : decode cX7_smoothness 4 = .ok (.getfield 147, 3) := by decide +kernel
theorem dX7_smoothness_7 : decode cX7_smoothness 7 = .ok (.getfield 159, 3) := by decide +kernel
theorem dX7_smoothness_10 : decode cX7_smoothness 10 = .ok (.ireturn, 1) := by decide +kernel
theorem dX7_stress_0 : decode cX7_stress 0 = .ok (.aload_n 0, 1) := by decide +kernel
theorem dX7_stress_1 : decode cX7_stress 1 = .ok (.getfield 12, 3) := by decide +kernel
theorem dX7_stress_4 : decode cX7_stress 4 = .ok (.getfield 147, 3) := by decide +kernel
theorem dX7_stress_7 : decode cX7_stress 7 = .ok (.getfield 162, 3) := by decide +kernel
theorem dX7_stress_10 : decode cX7_stress 10 = .ok (.ireturn, 1) := by decide +kernel
theorem dX7_temperatureAfter_0 : decode cX7_temperatureAfter 0 = .ok (.aload_n 0, 1) := by decide +kernel
theorem dX7_temperatureAfter_1 : decode cX7_temperatureAfter 1 = .ok (.iload_n 1, 1) := by decide +kernel
theorem dX7_temperatureAfter_2 : decode cX7_temperatureAfter 2 = .ok (.invokevirtual 165, 3) := by decide +kernel
theorem dX7_temperatureAfter_5 : decode cX7_temperatureAfter 5 = .ok (.aload_n 0, 1) := by decide +kernel
theorem dX7_temperatureAfter_6 : decode cX7_temperatureAfter 6 = .ok (.getfield 16, 3) := by decide +kernel
theorem dX7_temperatureAfter_9 : decode cX7_temperatureAfter 9 = .ok (.getfield 147, 3) := by decide +kernel
theorem dX7_temperatureAfter_12 : decode cX7_temperatureAfter 12 = .ok (.getfield 156, 3) := by decide +kernel
theorem dX7_temperatureAfter_15 : decode cX7_temperatureAfter 15 = .ok (.ireturn, 1) := by decide +kernel
theorem dX7_smoothnessAfter_0 : decode cX7_smoothnessAfter 0 = .ok (.aload_n 0, 1) := by decide +kernel
theorem dX7_smoothnessAfter_1 : decode cX7_smoothnessAfter 1 = .ok (.iload_n 1, 1) := by decide +kernel
theorem dX7_smoothnessAfter_2 : decode cX7_smoothnessAfter 2 = .ok (.invokevirtual 165, 3) := by decide +kernel
theorem dX7_smoothnessAfter_5 : decode cX7_smoothnessAfter 5 = .ok (.aload_n 0, 1) := by decide +kernel
theorem dX7_smoothnessAfter_6 : decode cX7_smoothnessAfter 6 = .ok (.getfield 16, 3) := by decide +kernel
theorem dX7_smoothnessAfter_9 : decode cX7_smoothnessAfter 9 = .ok (.getfield 147, 3) := by decide +kernel
theorem dX7_smoothnessAfter_12 : decode cX7_smoothnessAfter 12 = .ok (.getfield 159, 3) := by decide +kernel
theorem dX7_smoothnessAfter_15 : decode cX7_smoothnessAfter 15 = .ok (.ireturn, 1) := by decide +kernel
theorem dX7_peakTemperature_0 : decode cX7_peakTemperature 0 = .ok (.aload_n 0, 1) := by decide +kernel
theorem dX7_peakTemperature_1 : decode cX7_peakTemperature 1 = .ok (.getfield 16, 3) := by decide +kernel
theorem dX7_peakTemperature_4 : decode cX7_peakTemperature 4 = .ok (.aload_n 0, 1) := by decide +kernel
theorem dX7_peakTemperature_5 : decode cX7_peakTemperature 5 = .ok (.getfield 12, 3) := by decide +kernel
theorem dX7_peakTemperature_8 : decode cX7_peakTemperature 8 = .ok (.invokevirtual 129, 3) := by decide +kernel
theorem dX7_peakTemperature_11 : decode cX7_peakTemperature 11 = .ok (.aload_n 0, 1) := by decide +kernel
theorem dX7_peakTemperature_12 : decode cX7_peakTemperature 12 = .ok (.getfield 16, 3) := by decide +kernel
theorem dX7_peakTemperature_15 : decode cX7_peakTemperature 15 = .ok (.getfield 147, 3) := by decide +kernel
theorem dX7_peakTemperature_18 : decode cX7_peakTemperature 18 = .ok (.getfield 156, 3) := by decide +kernel
theorem dX7_peakTemperature_21 : decode cX7_peakTemperature 21 = .ok (.istore_n 1, 1) := by decide +kernel
theorem dX7_peakTemperature_22 : decode cX7_peakTemperature 22 = .ok (.iconst 0, 1) := by decide +kernel
theorem dX7_peakTemperature_23 : decode cX7_peakTemperature 23 = .ok (.istore_n 2, 1) := by decide +kernel
theorem dX7_peakTemperature_24 : decode cX7_peakTemperature 24 = .ok (.iload_n 2, 1) := by decide +kernel
theorem dX7_peakTemperature_25 : decode cX7_peakTemperature 25 = .ok (.sipush 240, 3) := by decide +kernel
theorem dX7_peakTemperature_28 : decode cX7_peakTemperature 28 = .ok (.if_icmp .ge 44, 3) := by decide +kernel
theorem dX7_peakTemperature_31 : decode cX7_peakTemperature 31 = .ok (.aload_n 0, 1) := by decide +kernel
theorem dX7_peakTemperature_32 : decode cX7_peakTemperature 32 = .ok (.getfield 16, 3) := by decide +kernel
theorem dX7_peakTemperature_35 : decode cX7_peakTemperature 35 = .ok (.getfield 95, 3) := by decide +kernel
theorem dX7_peakTemperature_38 : decode cX7_peakTemperature 38 = .ok (.invokevirtual 115, 3) := by decide +kernel
theorem dX7_peakTemperature_41 : decode cX7_peakTemperature 41 = .ok (.ifCond .eq 31, 3) := by decide +kernel
theorem dX7_peakTemperature_44 : decode cX7_peakTemperature 44 = .ok (.aload_n 0, 1) := by decide +kernel
theorem dX7_peakTemperature_45 : decode cX7_peakTemperature 45 = .ok (.getfield 16, 3) := by decide +kernel
theorem dX7_peakTemperature_48 : decode cX7_peakTemperature 48 = .ok (.invokevirtual 132, 3) := by decide +kernel
theorem dX7_peakTemperature_51 : decode cX7_peakTemperature 51 = .ok (.iload_n 1, 1) := by decide +kernel
theorem dX7_peakTemperature_52 : decode cX7_peakTemperature 52 = .ok (.aload_n 0, 1) := by decide +kernel
theorem dX7_peakTemperature_53 : decode cX7_peakTemperature 53 = .ok (.getfield 16, 3) := by decide +kernel
theorem dX7_peakTemperature_56 : decode cX7_peakTemperature 56 = .ok (.getfield 147, 3) := by decide +kernel
theorem dX7_peakTemperature_59 : decode cX7_peakTemperature 59 = .ok (.getfield 156, 3) := by decide +kernel
theorem dX7_peakTemperature_62 : decode cX7_peakTemperature 62 = .ok (.invokestatic 168, 3) := by decide +kernel
theorem dX7_peakTemperature_65 : decode cX7_peakTemperature 65 = .ok (.istore_n 1, 1) := by decide +kernel
theorem dX7_peakTemperature_66 : decode cX7_peakTemperature 66 = .ok (.iinc 2 1, 3) := by decide +kernel
theorem dX7_peakTemperature_69 : decode cX7_peakTemperature 69 = .ok (.goto (-45), 3) := by decide +kernel
theorem dX7_peakTemperature_72 : decode cX7_peakTemperature 72 = .ok (.iload_n 1, 1) := by decide +kernel
theorem dX7_peakTemperature_73 : decode cX7_peakTemperature 73 = .ok (.ireturn, 1) := by decide +kernel
theorem dX7_press_0 : decode cX7_press 0 = .ok (.aload_n 0, 1) := by decide +kernel
theorem dX7_press_1 : decode cX7_press 1 = .ok (.getfield 12, 3) := by decide +kernel
theorem dX7_press_4 : decode cX7_press 4 = .ok (.iload_n 1, 1) := by decide +kernel
theorem dX7_press_5 : decode cX7_press 5 = .ok (.invokevirtual 174, 3) := by decide +kernel
theorem dX7_press_8 : decode cX7_press 8 = .ok (.istore_n 2, 1) := by decide +kernel
theorem dX7_press_9 : decode cX7_press 9 = .ok (.aload_n 0, 1) := by decide +kernel
theorem dX7_press_10 : decode cX7_press 10 = .ok (.iload_n 2, 1) := by decide +kernel
theorem dX7_press_11 : decode cX7_press 11 = .ok (.invokevirtual 51, 3) := by decide +kernel
theorem dX7_press_14 : decode cX7_press 14 = .ok (.aload_n 0, 1) := by decide +kernel
theorem dX7_press_15 : decode cX7_press 15 = .ok (.iload_n 2, 1) := by decide +kernel
theorem dX7_press_16 : decode cX7_press 16 = .ok (.bipush 12, 2) := by decide +kernel
theorem dX7_press_18 : decode cX7_press 18 = .ok (.invokevirtual 55, 3) := by decide +kernel
theorem dX7_press_21 : decode cX7_press 21 = .ok (.aload_n 0, 1) := by decide +kernel
theorem dX7_press_22 : decode cX7_press 22 = .ok (.getfield 25, 3) := by decide +kernel
theorem dX7_press_25 : decode cX7_press 25 = .ok (.aload_n 0, 1) := by decide +kernel
theorem dX7_press_26 : decode cX7_press 26 = .ok (.getfield 12, 3) := by decide +kernel
theorem dX7_press_29 : decode cX7_press 29 = .ok (.invokevirtual 59, 3) := by decide +kernel
theorem dX7_press_32 : decode cX7_press 32 = .ok (.aload_n 0, 1) := by decide +kernel
theorem dX7_press_33 : decode cX7_press 33 = .ok (.getfield 12, 3) := by decide +kernel
theorem dX7_press_36 : decode cX7_press 36 = .ok (.iload_n 1, 1) := by decide +kernel
theorem dX7_press_37 : decode cX7_press 37 = .ok (.invokevirtual 177, 3) := by decide +kernel
theorem dX7_press_40 : decode cX7_press 40 = .ok (.ireturn, 1) := by decide +kernel
theorem dX7_gradePat_0 : decode cX7_gradePat 0 = .ok (.aload_n 0, 1) := by decide +kernel
theorem dX7_gradePat_1 : decode cX7_gradePat 1 = .ok (.getfield 12, 3) := by decide +kernel
theorem dX7_gradePat_4 : decode cX7_gradePat 4 = .ok (.iload_n 1, 1) := by decide +kernel
theorem dX7_gradePat_5 : decode cX7_gradePat 5 = .ok (.invokevirtual 180, 3) := by decide +kernel
theorem dX7_gradePat_8 : decode cX7_gradePat 8 = .ok (.istore_n 2, 1) := by decide +kernel
theorem dX7_gradePat_9 : decode cX7_gradePat 9 = .ok (.aload_n 0, 1) := by decide +kernel
theorem dX7_gradePat_10 : decode cX7_gradePat 10 = .ok (.iload_n 2, 1) := by decide +kernel
theorem dX7_gradePat_11 : decode cX7_gradePat 11 = .ok (.invokevirtual 70, 3) := by decide +kernel
theorem dX7_gradePat_14 : decode cX7_gradePat 14 = .ok (.aload_n 0, 1) := by decide +kernel
theorem dX7_gradePat_15 : decode cX7_gradePat 15 = .ok (.iload_n 2, 1) := by decide +kernel
theorem dX7_gradePat_16 : decode cX7_gradePat 16 = .ok (.aload_n 0, 1) := by decide +kernel
theorem dX7_gradePat_17 : decode cX7_gradePat 17 = .ok (.getfield 12, 3) := by decide +kernel
theorem dX7_gradePat_20 : decode cX7_gradePat 20 = .ok (.getfield 183, 3) := by decide +kernel
theorem dX7_gradePat_23 : decode cX7_gradePat 23 = .ok (.iload_n 1, 1) := by decide +kernel
theorem dX7_gradePat_24 : decode cX7_gradePat 24 = .ok (.invokevirtual 187, 3) := by decide +kernel
theorem dX7_gradePat_27 : decode cX7_gradePat 27 = .ok (.invokevirtual 55, 3) := by decide +kernel
theorem dX7_gradePat_30 : decode cX7_gradePat 30 = .ok (.aload_n 0, 1) := by decide +kernel
theorem dX7_gradePat_31 : decode cX7_gradePat 31 = .ok (.getfield 25, 3) := by decide +kernel
theorem dX7_gradePat_34 : decode cX7_gradePat 34 = .ok (.aload_n 0, 1) := by decide +kernel
theorem dX7_gradePat_35 : decode cX7_gradePat 35 = .ok (.getfield 12, 3) := by decide +kernel
theorem dX7_gradePat_38 : decode cX7_gradePat 38 = .ok (.invokevirtual 59, 3) := by decide +kernel
theorem dX7_gradePat_41 : decode cX7_gradePat 41 = .ok (.aload_n 0, 1) := by decide +kernel
theorem dX7_gradePat_42 : decode cX7_gradePat 42 = .ok (.getfield 12, 3) := by decide +kernel
theorem dX7_gradePat_45 : decode cX7_gradePat 45 = .ok (.iload_n 1, 1) := by decide +kernel
theorem dX7_gradePat_46 : decode cX7_gradePat 46 = .ok (.invokevirtual 192, 3) := by decide +kernel
theorem dX7_gradePat_49 : decode cX7_gradePat 49 = .ok (.ireturn, 1) := by decide +kernel
theorem dX7_crush_0 : decode cX7_crush 0 = .ok (.aload_n 0, 1) := by decide +kernel
theorem dX7_crush_1 : decode cX7_crush 1 = .ok (.getfield 12, 3) := by decide +kernel
theorem dX7_crush_4 : decode cX7_crush 4 = .ok (.iload_n 1, 1) := by decide +kernel
theorem dX7_crush_5 : decode cX7_crush 5 = .ok (.invokevirtual 196, 3) := by decide +kernel
theorem dX7_crush_8 : decode cX7_crush 8 = .ok (.istore_n 2, 1) := by decide +kernel
theorem dX7_crush_9 : decode cX7_crush 9 = .ok (.aload_n 0, 1) := by decide +kernel
theorem dX7_crush_10 : decode cX7_crush 10 = .ok (.iload_n 2, 1) := by decide +kernel
theorem dX7_crush_11 : decode cX7_crush 11 = .ok (.invokevirtual 70, 3) := by decide +kernel
theorem dX7_crush_14 : decode cX7_crush 14 = .ok (.aload_n 0, 1) := by decide +kernel
theorem dX7_crush_15 : decode cX7_crush 15 = .ok (.iload_n 2, 1) := by decide +kernel
theorem dX7_crush_16 : decode cX7_crush 16 = .ok (.bipush 100, 2) := by decide +kernel
theorem dX7_crush_18 : decode cX7_crush 18 = .ok (.invokevirtual 55, 3) := by decide +kernel
theorem dX7_crush_21 : decode cX7_crush 21 = .ok (.aload_n 0, 1) := by decide +kernel
theorem dX7_crush_22 : decode cX7_crush 22 = .ok (.getfield 25, 3) := by decide +kernel
theorem dX7_crush_25 : decode cX7_crush 25 = .ok (.aload_n 0, 1) := by decide +kernel
theorem dX7_crush_26 : decode cX7_crush 26 = .ok (.getfield 12, 3) := by decide +kernel
theorem dX7_crush_29 : decode cX7_crush 29 = .ok (.invokevirtual 59, 3) := by decide +kernel
theorem dX7_crush_32 : decode cX7_crush 32 = .ok (.aload_n 0, 1) := by decide +kernel
theorem dX7_crush_33 : decode cX7_crush 33 = .ok (.getfield 12, 3) := by decide +kernel
theorem dX7_crush_36 : decode cX7_crush 36 = .ok (.iload_n 1, 1) := by decide +kernel
theorem dX7_crush_37 : decode cX7_crush 37 = .ok (.invokevirtual 199, 3) := by decide +kernel
theorem dX7_crush_40 : decode cX7_crush 40 = .ok (.ireturn, 1) := by decide +kernel
theorem dX7_patCount_0 : decode cX7_patCount 0 = .ok (.aload_n 0, 1) := by decide +kernel
theorem dX7_patCount_1 : decode cX7_patCount 1 = .ok (.getfield 12, 3) := by decide +kernel
theorem dX7_patCount_4 : decode cX7_patCount 4 = .ok (.getfield 183, 3) := by decide +kernel
theorem dX7_patCount_7 : decode cX7_patCount 7 = .ok (.getfield 202, 3) := by decide +kernel
theorem dX7_patCount_10 : decode cX7_patCount 10 = .ok (.ireturn, 1) := by decide +kernel
theorem dX7_patMass_0 : decode cX7_patMass 0 = .ok (.aload_n 0, 1) := by decide +kernel
theorem dX7_patMass_1 : decode cX7_patMass 1 = .ok (.iload_n 1, 1) := by decide +kernel
theorem dX7_patMass_2 : decode cX7_patMass 2 = .ok (.invokevirtual 203, 3) := by decide +kernel
theorem dX7_patMass_5 : decode cX7_patMass 5 = .ok (.aload_n 0, 1) := by decide +kernel
theorem dX7_patMass_6 : decode cX7_patMass 6 = .ok (.getfield 12, 3) := by decide +kernel
theorem dX7_patMass_9 : decode cX7_patMass 9 = .ok (.getfield 183, 3) := by decide +kernel
theorem dX7_patMass_12 : decode cX7_patMass 12 = .ok (.getfield 206, 3) := by decide +kernel
theorem dX7_patMass_15 : decode cX7_patMass 15 = .ok (.iload_n 1, 1) := by decide +kernel
theorem dX7_patMass_16 : decode cX7_patMass 16 = .ok (.iaload, 1) := by decide +kernel
theorem dX7_patMass_17 : decode cX7_patMass 17 = .ok (.ireturn, 1) := by decide +kernel
theorem dX7_patTemperature_0 : decode cX7_patTemperature 0 = .ok (.aload_n 0, 1) := by decide +kernel
theorem dX7_patTemperature_1 : decode cX7_patTemperature 1 = .ok (.iload_n 1, 1) := by decide +kernel
theorem dX7_patTemperature_2 : decode cX7_patTemperature 2 = .ok (.invokevirtual 203, 3) := by decide +kernel
theorem dX7_patTemperature_5 : decode cX7_patTemperature 5 = .ok (.aload_n 0, 1) := by decide +kernel
theorem dX7_patTemperature_6 : decode cX7_patTemperature 6 = .ok (.getfield 12, 3) := by decide +kernel
theorem dX7_patTemperature_9 : decode cX7_patTemperature 9 = .ok (.getfield 183, 3) := by decide +kernel
theorem dX7_patTemperature_12 : decode cX7_patTemperature 12 = .ok (.getfield 209, 3) := by decide +kernel
theorem dX7_patTemperature_15 : decode cX7_patTemperature 15 = .ok (.iload_n 1, 1) := by decide +kernel
theorem dX7_patTemperature_16 : decode cX7_patTemperature 16 = .ok (.iaload, 1) := by decide +kernel
theorem dX7_patTemperature_17 : decode cX7_patTemperature 17 = .ok (.ireturn, 1) := by decide +kernel
theorem dX7_cracks_0 : decode cX7_cracks 0 = .ok (.aload_n 0, 1) := by decide +kernel
theorem dX7_cracks_1 : decode cX7_cracks 1 = .ok (.iload_n 1, 1) := by decide +kernel
theorem dX7_cracks_2 : decode cX7_cracks 2 = .ok (.invokevirtual 203, 3) := by decide +kernel
theorem dX7_cracks_5 : decode cX7_cracks 5 = .ok (.aload_n 0, 1) := by decide +kernel
theorem dX7_cracks_6 : decode cX7_cracks 6 = .ok (.getfield 12, 3) := by decide +kernel
theorem dX7_cracks_9 : decode cX7_cracks 9 = .ok (.getfield 183, 3) := by decide +kernel
theorem dX7_cracks_12 : decode cX7_cracks 12 = .ok (.getfield 212, 3) := by decide +kernel
theorem dX7_cracks_15 : decode cX7_cracks 15 = .ok (.iload_n 1, 1) := by decide +kernel
theorem dX7_cracks_16 : decode cX7_cracks 16 = .ok (.iaload, 1) := by decide +kernel
theorem dX7_cracks_17 : decode cX7_cracks 17 = .ok (.ireturn, 1) := by decide +kernel
theorem dX7_firmness_0 : decode cX7_firmness 0 = .ok (.aload_n 0, 1) := by decide +kernel
theorem dX7_firmness_1 : decode cX7_firmness 1 = .ok (.iload_n 1, 1) := by decide +kernel
theorem dX7_firmness_2 : decode cX7_firmness 2 = .ok (.invokevirtual 203, 3) := by decide +kernel
theorem dX7_firmness_5 : decode cX7_firmness 5 = .ok (.aload_n 0, 1) := by decide +kernel
theorem dX7_firmness_6 : decode cX7_firmness 6 = .ok (.getfield 12, 3) := by decide +kernel
theorem dX7_firmness_9 : decode cX7_firmness 9 = .ok (.getfield 183, 3) := by decide +kernel
theorem dX7_firmness_12 : decode cX7_firmness 12 = .ok (.iload_n 1, 1) := by decide +kernel
theorem dX7_firmness_13 : decode cX7_firmness 13 = .ok (.invokevirtual 215, 3) := by decide +kernel
theorem dX7_firmness_16 : decode cX7_firmness 16 = .ok (.ireturn, 1) := by decide +kernel
theorem dX7_isCool_0 : decode cX7_isCool 0 = .ok (.aload_n 0, 1) := by decide +kernel
theorem dX7_isCool_1 : decode cX7_isCool 1 = .ok (.iload_n 1, 1) := by decide +kernel
theorem dX7_isCool_2 : decode cX7_isCool 2 = .ok (.invokevirtual 203, 3) := by decide +kernel
theorem dX7_isCool_5 : decode cX7_isCool 5 = .ok (.aload_n 0, 1) := by decide +kernel
theorem dX7_isCool_6 : decode cX7_isCool 6 = .ok (.getfield 12, 3) := by decide +kernel
theorem dX7_isCool_9 : decode cX7_isCool 9 = .ok (.getfield 183, 3) := by decide +kernel
theorem dX7_isCool_12 : decode cX7_isCool 12 = .ok (.iload_n 1, 1) := by decide +kernel
theorem dX7_isCool_13 : decode cX7_isCool 13 = .ok (.invokevirtual 218, 3) := by decide +kernel
theorem dX7_isCool_16 : decode cX7_isCool 16 = .ok (.ireturn, 1) := by decide +kernel
theorem dX7_minutesUntilCool_0 : decode cX7_minutesUntilCool 0 = .ok (.aload_n 0, 1) := by decide +kernel
theorem dX7_minutesUntilCool_1 : decode cX7_minutesUntilCool 1 = .ok (.iload_n 1, 1) := by decide +kernel
theorem dX7_minutesUntilCool_2 : decode cX7_minutesUntilCool 2 = .ok (.invokevirtual 203, 3) := by decide +kernel
theorem dX7_minutesUntilCool_5 : decode cX7_minutesUntilCool 5 = .ok (.aload_n 0, 1) := by decide +kernel
theorem dX7_minutesUntilCool_6 : decode cX7_minutesUntilCool 6 = .ok (.getfield 16, 3) := by decide +kernel
theorem dX7_minutesUntilCool_9 : decode cX7_minutesUntilCool 9 = .ok (.aload_n 0, 1) := by decide +kernel
theorem dX7_minutesUntilCool_10 : decode cX7_minutesUntilCool 10 = .ok (.getfield 12, 3) := by decide +kernel
theorem dX7_minutesUntilCool_13 : decode cX7_minutesUntilCool 13 = .ok (.invokevirtual 129, 3) := by decide +kernel
theorem dX7_minutesUntilCool_16 : decode cX7_minutesUntilCool 16 = .ok (.iconst 0, 1) := by decide +kernel
theorem dX7_minutesUntilCool_17 : decode cX7_minutesUntilCool 17 = .ok (.istore_n 2, 1) := by decide +kernel
theorem dX7_minutesUntilCool_18 : decode cX7_minutesUntilCool 18 = .ok (.iload_n 2, 1) := by decide +kernel
theorem dX7_minutesUntilCool_19 : decode cX7_minutesUntilCool 19 = .ok (.sipush 240, 3) := by decide +kernel
theorem dX7_minutesUntilCool_22 : decode cX7_minutesUntilCool 22 = .ok (.if_icmp .ge 30, 3) := by decide +kernel
theorem dX7_minutesUntilCool_25 : decode cX7_minutesUntilCool 25 = .ok (.aload_n 0, 1) := by decide +kernel
theorem dX7_minutesUntilCool_26 : decode cX7_minutesUntilCool 26 = .ok (.getfield 16, 3) := by decide +kernel
theorem dX7_minutesUntilCool_29 : decode cX7_minutesUntilCool 29 = .ok (.getfield 183, 3) := by decide +kernel
theorem dX7_minutesUntilCool_32 : decode cX7_minutesUntilCool 32 = .ok (.iload_n 1, 1) := by decide +kernel
theorem dX7_minutesUntilCool_33 : decode cX7_minutesUntilCool 33 = .ok (.invokevirtual 218, 3) := by decide +kernel
theorem dX7_minutesUntilCool_36 : decode cX7_minutesUntilCool 36 = .ok (.ifCond .ne 16, 3) := by decide +kernel
theorem dX7_minutesUntilCool_39 : decode cX7_minutesUntilCool 39 = .ok (.aload_n 0, 1) := by decide +kernel
theorem dX7_minutesUntilCool_40 : decode cX7_minutesUntilCool 40 = .ok (.getfield 16, 3) := by decide +kernel
theorem dX7_minutesUntilCool_43 : decode cX7_minutesUntilCool 43 = .ok (.invokevirtual 132, 3) := by decide +kernel
theorem dX7_minutesUntilCool_46 : decode cX7_minutesUntilCool 46 = .ok (.iinc 2 1, 3) := by decide +kernel
theorem dX7_minutesUntilCool_49 : decode cX7_minutesUntilCool 49 = .ok (.goto (-31), 3) := by decide +kernel
theorem dX7_minutesUntilCool_52 : decode cX7_minutesUntilCool 52 = .ok (.iload_n 2, 1) := by decide +kernel
theorem dX7_minutesUntilCool_53 : decode cX7_minutesUntilCool 53 = .ok (.ireturn, 1) := by decide +kernel
theorem dX7_minutesUntilCoolByDivision_0 : decode cX7_minutesUntilCoolByDivision 0 = .ok (.aload_n 0, 1) := by decide +kernel
theorem dX7_minutesUntilCoolByDivision_1 : decode cX7_minutesUntilCoolByDivision 1 = .ok (.iload_n 1, 1) := by decide +kernel
theorem dX7_minutesUntilCoolByDivision_2 : decode cX7_minutesUntilCoolByDivision 2 = .ok (.invokevirtual 203, 3) := by decide +kernel
theorem dX7_minutesUntilCoolByDivision_5 : decode cX7_minutesUntilCoolByDivision 5 = .ok (.iconst 0, 1) := by decide +kernel
theorem dX7_minutesUntilCoolByDivision_6 : decode cX7_minutesUntilCoolByDivision 6 = .ok (.aload_n 0, 1) := by decide +kernel
theorem dX7_minutesUntilCoolByDivision_7 : decode cX7_minutesUntilCoolByDivision 7 = .ok (.getfield 12, 3) := by decide +kernel
theorem dX7_minutesUntilCoolByDivision_10 : decode cX7_minutesUntilCoolByDivision 10 = .ok (.getfield 183, 3) := by decide +kernel
theorem dX7_minutesUntilCoolByDivision_13 : decode cX7_minutesUntilCoolByDivision 13 = .ok (.getfield 209, 3) := by decide +kernel
theorem dX7_minutesUntilCoolByDivision_16 : decode cX7_minutesUntilCoolByDivision 16 = .ok (.iload_n 1, 1) := by decide +kernel
theorem dX7_minutesUntilCoolByDivision_17 : decode cX7_minutesUntilCoolByDivision 17 = .ok (.iaload, 1) := by decide +kernel
theorem dX7_minutesUntilCoolByDivision_18 : decode cX7_minutesUntilCoolByDivision 18 = .ok (.bipush 30, 2) := by decide +kernel
theorem dX7_minutesUntilCoolByDivision_20 : decode cX7_minutesUntilCoolByDivision 20 = .ok (.isub, 1) := by decide +kernel
theorem dX7_minutesUntilCoolByDivision_21 : decode cX7_minutesUntilCoolByDivision 21 = .ok (.invokestatic 168, 3) := by decide +kernel
theorem dX7_minutesUntilCoolByDivision_24 : decode cX7_minutesUntilCoolByDivision 24 = .ok (.istore_n 2, 1) := by decide +kernel
theorem dX7_minutesUntilCoolByDivision_25 : decode cX7_minutesUntilCoolByDivision 25 = .ok (.iload_n 2, 1) := by decide +kernel
theorem dX7_minutesUntilCoolByDivision_26 : decode cX7_minutesUntilCoolByDivision 26 = .ok (.iconst 5, 1) := by decide +kernel
theorem dX7_minutesUntilCoolByDivision_27 : decode cX7_minutesUntilCoolByDivision 27 = .ok (.iadd, 1) := by decide +kernel
theorem dX7_minutesUntilCoolByDivision_28 : decode cX7_minutesUntilCoolByDivision 28 = .ok (.iconst 1, 1) := by decide +kernel
theorem dX7_minutesUntilCoolByDivision_29 : decode cX7_minutesUntilCoolByDivision 29 = .ok (.isub, 1) := by decide +kernel
theorem dX7_minutesUntilCoolByDivision_30 : decode cX7_minutesUntilCoolByDivision 30 = .ok (.iconst 5, 1) := by decide +kernel
theorem dX7_minutesUntilCoolByDivision_31 : decode cX7_minutesUntilCoolByDivision 31 = .ok (.idiv, 1) := by decide +kernel
theorem dX7_minutesUntilCoolByDivision_32 : decode cX7_minutesUntilCoolByDivision 32 = .ok (.ireturn, 1) := by decide +kernel
theorem dX7_patByFirmness_0 : decode cX7_patByFirmness 0 = .ok (.aload_n 0, 1) := by decide +kernel
theorem dX7_patByFirmness_1 : decode cX7_patByFirmness 1 = .ok (.getfield 12, 3) := by decide +kernel
theorem dX7_patByFirmness_4 : decode cX7_patByFirmness 4 = .ok (.getfield 183, 3) := by decide +kernel
theorem dX7_patByFirmness_7 : decode cX7_patByFirmness 7 = .ok (.iload_n 1, 1) := by decide +kernel
theorem dX7_patByFirmness_8 : decode cX7_patByFirmness 8 = .ok (.invokevirtual 222, 3) := by decide +kernel
theorem dX7_patByFirmness_11 : decode cX7_patByFirmness 11 = .ok (.istore_n 2, 1) := by decide +kernel
theorem dX7_patByFirmness_12 : decode cX7_patByFirmness 12 = .ok (.iload_n 2, 1) := by decide +kernel
theorem dX7_patByFirmness_13 : decode cX7_patByFirmness 13 = .ok (.iconst (-1), 1) := by decide +kernel
theorem dX7_patByFirmness_14 : decode cX7_patByFirmness 14 = .ok (.if_icmp .ne 13, 3) := by decide +kernel
theorem dX7_patByFirmness_17 : decode cX7_patByFirmness 17 = .ok (.new 119, 3) := by decide +kernel
theorem dX7_patByFirmness_20 : decode cX7_patByFirmness 20 = .ok (.dup, 1) := by decide +kernel
theorem dX7_patByFirmness_21 : decode cX7_patByFirmness 21 = .ok (.ldc 225, 2) := by decide +kernel
theorem dX7_patByFirmness_23 : decode cX7_patByFirmness 23 = .ok (.invokespecial 123, 3) := by decide +kernel
theorem dX7_patByFirmness_26 : decode cX7_patByFirmness 26 = .ok (.athrow, 1) := by decide +kernel
theorem dX7_patByFirmness_27 : decode cX7_patByFirmness 27 = .ok (.iload_n 2, 1) := by decide +kernel
theorem dX7_patByFirmness_28 : decode cX7_patByFirmness 28 = .ok (.ireturn, 1) := by decide +kernel
theorem dX7_nextCool_0 : decode cX7_nextCool 0 = .ok (.aload_n 0, 1) := by decide +kernel
theorem dX7_nextCool_1 : decode cX7_nextCool 1 = .ok (.iload_n 1, 1) := by decide +kernel
theorem dX7_nextCool_2 : decode cX7_nextCool 2 = .ok (.invokevirtual 203, 3) := by decide +kernel
theorem dX7_nextCool_5 : decode cX7_nextCool 5 = .ok (.aload_n 0, 1) := by decide +kernel
theorem dX7_nextCool_6 : decode cX7_nextCool 6 = .ok (.getfield 12, 3) := by decide +kernel
theorem dX7_nextCool_9 : decode cX7_nextCool 9 = .ok (.getfield 183, 3) := by decide +kernel
theorem dX7_nextCool_12 : decode cX7_nextCool 12 = .ok (.iload_n 1, 1) := by decide +kernel
theorem dX7_nextCool_13 : decode cX7_nextCool 13 = .ok (.invokevirtual 227, 3) := by decide +kernel
theorem dX7_nextCool_16 : decode cX7_nextCool 16 = .ok (.istore_n 2, 1) := by decide +kernel
theorem dX7_nextCool_17 : decode cX7_nextCool 17 = .ok (.iload_n 2, 1) := by decide +kernel
theorem dX7_nextCool_18 : decode cX7_nextCool 18 = .ok (.iconst (-1), 1) := by decide +kernel
theorem dX7_nextCool_19 : decode cX7_nextCool 19 = .ok (.if_icmp .ne 13, 3) := by decide +kernel
theorem dX7_nextCool_22 : decode cX7_nextCool 22 = .ok (.new 119, 3) := by decide +kernel
theorem dX7_nextCool_25 : decode cX7_nextCool 25 = .ok (.dup, 1) := by decide +kernel
theorem dX7_nextCool_26 : decode cX7_nextCool 26 = .ok (.ldc 230, 2) := by decide +kernel
theorem dX7_nextCool_28 : decode cX7_nextCool 28 = .ok (.invokespecial 123, 3) := by decide +kernel
theorem dX7_nextCool_31 : decode cX7_nextCool 31 = .ok (.athrow, 1) := by decide +kernel
theorem dX7_nextCool_32 : decode cX7_nextCool 32 = .ok (.iload_n 2, 1) := by decide +kernel
theorem dX7_nextCool_33 : decode cX7_nextCool 33 = .ok (.ireturn, 1) := by decide +kernel
theorem dX7_minute_0 : decode cX7_minute 0 = .ok (.aload_n 0, 1) := by decide +kernel
theorem dX7_minute_1 : decode cX7_minute 1 = .ok (.getfield 12, 3) := by decide +kernel
theorem dX7_minute_4 : decode cX7_minute 4 = .ok (.getfield 232, 3) := by decide +kernel
theorem dX7_minute_7 : decode cX7_minute 7 = .ok (.getfield 236, 3) := by decide +kernel
theorem dX7_minute_10 : decode cX7_minute 10 = .ok (.ireturn, 1) := by decide +kernel
theorem dX7_gradedCount_0 : decode cX7_gradedCount 0 = .ok (.iload_n 1, 1) := by decide +kernel
theorem dX7_gradedCount_1 : decode cX7_gradedCount 1 = .ok (.bipush 97, 2) := by decide +kernel
theorem dX7_gradedCount_3 : decode cX7_gradedCount 3 = .ok (.isub, 1) := by decide +kernel
theorem dX7_gradedCount_4 : decode cX7_gradedCount 4 = .ok (.istore_n 2, 1) := by decide +kernel
theorem dX7_gradedCount_5 : decode cX7_gradedCount 5 = .ok (.iload_n 2, 1) := by decide +kernel
theorem dX7_gradedCount_6 : decode cX7_gradedCount 6 = .ok (.iconst 0, 1) := by decide +kernel
theorem dX7_gradedCount_7 : decode cX7_gradedCount 7 = .ok (.iconst 4, 1) := by decide +kernel
theorem dX7_gradedCount_8 : decode cX7_gradedCount 8 = .ok (.invokestatic 240, 3) := by decide +kernel
theorem dX7_gradedCount_11 : decode cX7_gradedCount 11 = .ok (.ifCond .ne 13, 3) := by decide +kernel
theorem dX7_gradedCount_14 : decode cX7_gradedCount 14 = .ok (.new 244, 3) := by decide +kernel
theorem dX7_gradedCount_17 : decode cX7_gradedCount 17 = .ok (.dup, 1) := by decide +kernel
theorem dX7_gradedCount_18 : decode cX7_gradedCount 18 = .ok (.ldc 246, 2) := by decide +kernel
theorem dX7_gradedCount_20 : decode cX7_gradedCount 20 = .ok (.invokespecial 248, 3) := by decide +kernel
theorem dX7_gradedCount_23 : decode cX7_gradedCount 23 = .ok (.athrow, 1) := by decide +kernel
theorem dX7_gradedCount_24 : decode cX7_gradedCount 24 = .ok (.aload_n 0, 1) := by decide +kernel
theorem dX7_gradedCount_25 : decode cX7_gradedCount 25 = .ok (.getfield 12, 3) := by decide +kernel
theorem dX7_gradedCount_28 : decode cX7_gradedCount 28 = .ok (.getfield 232, 3) := by decide +kernel
theorem dX7_gradedCount_31 : decode cX7_gradedCount 31 = .ok (.getfield 249, 3) := by decide +kernel
theorem dX7_gradedCount_34 : decode cX7_gradedCount 34 = .ok (.iload_n 2, 1) := by decide +kernel
theorem dX7_gradedCount_35 : decode cX7_gradedCount 35 = .ok (.iaload, 1) := by decide +kernel
theorem dX7_gradedCount_36 : decode cX7_gradedCount 36 = .ok (.ireturn, 1) := by decide +kernel
theorem dX7_loadedMass_0 : decode cX7_loadedMass 0 = .ok (.aload_n 0, 1) := by decide +kernel
theorem dX7_loadedMass_1 : decode cX7_loadedMass 1 = .ok (.getfield 12, 3) := by decide +kernel
theorem dX7_loadedMass_4 : decode cX7_loadedMass 4 = .ok (.getfield 232, 3) := by decide +kernel
theorem dX7_loadedMass_7 : decode cX7_loadedMass 7 = .ok (.getfield 252, 3) := by decide +kernel
theorem dX7_loadedMass_10 : decode cX7_loadedMass 10 = .ok (.ireturn, 1) := by decide +kernel
theorem dX7_gradedMass_0 : decode cX7_gradedMass 0 = .ok (.aload_n 0, 1) := by decide +kernel
theorem dX7_gradedMass_1 : decode cX7_gradedMass 1 = .ok (.getfield 12, 3) := by decide +kernel
theorem dX7_gradedMass_4 : decode cX7_gradedMass 4 = .ok (.getfield 232, 3) := by decide +kernel
theorem dX7_gradedMass_7 : decode cX7_gradedMass 7 = .ok (.getfield 255, 3) := by decide +kernel
theorem dX7_gradedMass_10 : decode cX7_gradedMass 10 = .ok (.ireturn, 1) := by decide +kernel
theorem dX7_meanFirmness_0 : decode cX7_meanFirmness 0 = .ok (.aload_n 0, 1) := by decide +kernel
theorem dX7_meanFirmness_1 : decode cX7_meanFirmness 1 = .ok (.getfield 12, 3) := by decide +kernel
theorem dX7_meanFirmness_4 : decode cX7_meanFirmness 4 = .ok (.getfield 183, 3) := by decide +kernel
theorem dX7_meanFirmness_7 : decode cX7_meanFirmness 7 = .ok (.getfield 202, 3) := by decide +kernel
theorem dX7_meanFirmness_10 : decode cX7_meanFirmness 10 = .ok (.istore_n 1, 1) := by decide +kernel
theorem dX7_meanFirmness_11 : decode cX7_meanFirmness 11 = .ok (.iload_n 1, 1) := by decide +kernel
theorem dX7_meanFirmness_12 : decode cX7_meanFirmness 12 = .ok (.ifCond .ne 14, 3) := by decide +kernel
theorem dX7_meanFirmness_15 : decode cX7_meanFirmness 15 = .ok (.new 258, 3) := by decide +kernel
theorem dX7_meanFirmness_18 : decode cX7_meanFirmness 18 = .ok (.dup, 1) := by decide +kernel
theorem dX7_meanFirmness_19 : decode cX7_meanFirmness 19 = .ok (.ldc_w 260, 3) := by decide +kernel
theorem dX7_meanFirmness_22 : decode cX7_meanFirmness 22 = .ok (.invokespecial 262, 3) := by decide +kernel
theorem dX7_meanFirmness_25 : decode cX7_meanFirmness 25 = .ok (.athrow, 1) := by decide +kernel
theorem dX7_meanFirmness_26 : decode cX7_meanFirmness 26 = .ok (.aload_n 0, 1) := by decide +kernel
theorem dX7_meanFirmness_27 : decode cX7_meanFirmness 27 = .ok (.getfield 12, 3) := by decide +kernel
theorem dX7_meanFirmness_30 : decode cX7_meanFirmness 30 = .ok (.getfield 183, 3) := by decide +kernel
theorem dX7_meanFirmness_33 : decode cX7_meanFirmness 33 = .ok (.invokevirtual 263, 3) := by decide +kernel
theorem dX7_meanFirmness_36 : decode cX7_meanFirmness 36 = .ok (.i2d, 1) := by decide +kernel
theorem dX7_meanFirmness_37 : decode cX7_meanFirmness 37 = .ok (.iload_n 1, 1) := by decide +kernel
theorem dX7_meanFirmness_38 : decode cX7_meanFirmness 38 = .ok (.i2d, 1) := by decide +kernel
theorem dX7_meanFirmness_39 : decode cX7_meanFirmness 39 = .ok (.ddiv, 1) := by decide +kernel
theorem dX7_meanFirmness_40 : decode cX7_meanFirmness 40 = .ok (.dreturn, 1) := by decide +kernel
theorem dX7_coolShare_0 : decode cX7_coolShare 0 = .ok (.aload_n 0, 1) := by decide +kernel
theorem dX7_coolShare_1 : decode cX7_coolShare 1 = .ok (.getfield 12, 3) := by decide +kernel
theorem dX7_coolShare_4 : decode cX7_coolShare 4 = .ok (.getfield 183, 3) := by decide +kernel
theorem dX7_coolShare_7 : decode cX7_coolShare 7 = .ok (.getfield 202, 3) := by decide +kernel
theorem dX7_coolShare_10 : decode cX7_coolShare 10 = .ok (.istore_n 1, 1) := by decide +kernel
theorem dX7_coolShare_11 : decode cX7_coolShare 11 = .ok (.iload_n 1, 1) := by decide +kernel
theorem dX7_coolShare_12 : decode cX7_coolShare 12 = .ok (.ifCond .ne 14, 3) := by decide +kernel
theorem dX7_coolShare_15 : decode cX7_coolShare 15 = .ok (.new 258, 3) := by decide +kernel
theorem dX7_coolShare_18 : decode cX7_coolShare 18 = .ok (.dup, 1) := by decide +kernel
theorem dX7_coolShare_19 : decode cX7_coolShare 19 = .ok (.ldc_w 260, 3) := by decide +kernel
theorem dX7_coolShare_22 : decode cX7_coolShare 22 = .ok (.invokespecial 262, 3) := by decide +kernel
theorem dX7_coolShare_25 : decode cX7_coolShare 25 = .ok (.athrow, 1) := by decide +kernel
theorem dX7_coolShare_26 : decode cX7_coolShare 26 = .ok (.aload_n 0, 1) := by decide +kernel
theorem dX7_coolShare_27 : decode cX7_coolShare 27 = .ok (.getfield 12, 3) := by decide +kernel
theorem dX7_coolShare_30 : decode cX7_coolShare 30 = .ok (.getfield 183, 3) := by decide +kernel
theorem dX7_coolShare_33 : decode cX7_coolShare 33 = .ok (.invokevirtual 266, 3) := by decide +kernel
theorem dX7_coolShare_36 : decode cX7_coolShare 36 = .ok (.i2f, 1) := by decide +kernel
theorem dX7_coolShare_37 : decode cX7_coolShare 37 = .ok (.iload_n 1, 1) := by decide +kernel
theorem dX7_coolShare_38 : decode cX7_coolShare 38 = .ok (.i2f, 1) := by decide +kernel
theorem dX7_coolShare_39 : decode cX7_coolShare 39 = .ok (.fdiv, 1) := by decide +kernel
theorem dX7_coolShare_40 : decode cX7_coolShare 40 = .ok (.freturn, 1) := by decide +kernel
theorem dX7_feed_0 : decode cX7_feed 0 = .ok (.aload_n 0, 1) := by decide +kernel
theorem dX7_feed_1 : decode cX7_feed 1 = .ok (.getfield 32, 3) := by decide +kernel
theorem dX7_feed_4 : decode cX7_feed 4 = .ok (.invokevirtual 269, 3) := by decide +kernel
theorem dX7_feed_7 : decode cX7_feed 7 = .ok (.ifCond .eq 14, 3) := by decide +kernel
theorem dX7_feed_10 : decode cX7_feed 10 = .ok (.new 272, 3) := by decide +kernel
theorem dX7_feed_13 : decode cX7_feed 13 = .ok (.dup, 1) := by decide +kernel
theorem dX7_feed_14 : decode cX7_feed 14 = .ok (.ldc_w 274, 3) := by decide +kernel
theorem dX7_feed_17 : decode cX7_feed 17 = .ok (.invokespecial 276, 3) := by decide +kernel
theorem dX7_feed_20 : decode cX7_feed 20 = .ok (.athrow, 1) := by decide +kernel
theorem dX7_feed_21 : decode cX7_feed 21 = .ok (.aload_n 0, 1) := by decide +kernel
theorem dX7_feed_22 : decode cX7_feed 22 = .ok (.getfield 32, 3) := by decide +kernel
theorem dX7_feed_25 : decode cX7_feed 25 = .ok (.iload_n 1, 1) := by decide +kernel
theorem dX7_feed_26 : decode cX7_feed 26 = .ok (.invokevirtual 277, 3) := by decide +kernel
theorem dX7_feed_29 : decode cX7_feed 29 = .ok (.aload_n 0, 1) := by decide +kernel
theorem dX7_feed_30 : decode cX7_feed 30 = .ok (.getfield 32, 3) := by decide +kernel
theorem dX7_feed_33 : decode cX7_feed 33 = .ok (.getfield 281, 3) := by decide +kernel
theorem dX7_feed_36 : decode cX7_feed 36 = .ok (.ireturn, 1) := by decide +kernel
theorem dX7_execute_0 : decode cX7_execute 0 = .ok (.aload_n 0, 1) := by decide +kernel
theorem dX7_execute_1 : decode cX7_execute 1 = .ok (.getfield 32, 3) := by decide +kernel
theorem dX7_execute_4 : decode cX7_execute 4 = .ok (.invokevirtual 284, 3) := by decide +kernel
theorem dX7_execute_7 : decode cX7_execute 7 = .ok (.istore_n 1, 1) := by decide +kernel
theorem dX7_execute_8 : decode cX7_execute 8 = .ok (.aload_n 0, 1) := by decide +kernel
theorem dX7_execute_9 : decode cX7_execute 9 = .ok (.getfield 32, 3) := by decide +kernel
theorem dX7_execute_12 : decode cX7_execute 12 = .ok (.invokevirtual 287, 3) := by decide +kernel
theorem dX7_execute_15 : decode cX7_execute 15 = .ok (.iload_n 1, 1) := by decide +kernel
theorem dX7_execute_16 : decode cX7_execute 16 = .ok (.ifCond .ne 25, 3) := by decide +kernel
theorem dX7_execute_19 : decode cX7_execute 19 = .ok (.aload_n 0, 1) := by decide +kernel
theorem dX7_execute_20 : decode cX7_execute 20 = .ok (.aload_n 0, 1) := by decide +kernel
theorem dX7_execute_21 : decode cX7_execute 21 = .ok (.getfield 32, 3) := by decide +kernel
theorem dX7_execute_24 : decode cX7_execute 24 = .ok (.getfield 290, 3) := by decide +kernel
theorem dX7_execute_27 : decode cX7_execute 27 = .ok (.putfield 36, 3) := by decide +kernel
theorem dX7_execute_30 : decode cX7_execute 30 = .ok (.new 244, 3) := by decide +kernel
theorem dX7_execute_33 : decode cX7_execute 33 = .ok (.dup, 1) := by decide +kernel
theorem dX7_execute_34 : decode cX7_execute 34 = .ok (.ldc_w 293, 3) := by decide +kernel
theorem dX7_execute_37 : decode cX7_execute 37 = .ok (.invokespecial 248, 3) := by decide +kernel
theorem dX7_execute_40 : decode cX7_execute 40 = .ok (.athrow, 1) := by decide +kernel
theorem dX7_execute_41 : decode cX7_execute 41 = .ok (.aload_n 0, 1) := by decide +kernel
theorem dX7_execute_42 : decode cX7_execute 42 = .ok (.getfield 16, 3) := by decide +kernel
theorem dX7_execute_45 : decode cX7_execute 45 = .ok (.aload_n 0, 1) := by decide +kernel
theorem dX7_execute_46 : decode cX7_execute 46 = .ok (.getfield 12, 3) := by decide +kernel
theorem dX7_execute_49 : decode cX7_execute 49 = .ok (.invokevirtual 129, 3) := by decide +kernel
theorem dX7_execute_52 : decode cX7_execute 52 = .ok (.iconst 0, 1) := by decide +kernel
theorem dX7_execute_53 : decode cX7_execute 53 = .ok (.istore_n 2, 1) := by decide +kernel
theorem dX7_execute_54 : decode cX7_execute 54 = .ok (.iload_n 2, 1) := by decide +kernel
theorem dX7_execute_55 : decode cX7_execute 55 = .ok (.aload_n 0, 1) := by decide +kernel
theorem dX7_execute_56 : decode cX7_execute 56 = .ok (.getfield 32, 3) := by decide +kernel
theorem dX7_execute_59 : decode cX7_execute 59 = .ok (.getfield 295, 3) := by decide +kernel
theorem dX7_execute_62 : decode cX7_execute 62 = .ok (.if_icmp .ge 43, 3) := by decide +kernel
theorem dX7_execute_65 : decode cX7_execute 65 = .ok (.aload_n 0, 1) := by decide +kernel
theorem dX7_execute_66 : decode cX7_execute 66 = .ok (.iload_n 2, 1) := by decide +kernel
theorem dX7_execute_67 : decode cX7_execute 67 = .ok (.invokevirtual 298, 3) := by decide +kernel
theorem dX7_execute_70 : decode cX7_execute 70 = .ok (.istore_n 3, 1) := by decide +kernel
theorem dX7_execute_71 : decode cX7_execute 71 = .ok (.iload_n 3, 1) := by decide +kernel
theorem dX7_execute_72 : decode cX7_execute 72 = .ok (.ifCond .eq 22, 3) := by decide +kernel
theorem dX7_execute_75 : decode cX7_execute 75 = .ok (.aload_n 0, 1) := by decide +kernel
theorem dX7_execute_76 : decode cX7_execute 76 = .ok (.bipush 7, 2) := by decide +kernel
theorem dX7_execute_78 : decode cX7_execute 78 = .ok (.iload_n 2, 1) := by decide +kernel
theorem dX7_execute_79 : decode cX7_execute 79 = .ok (.iload_n 3, 1) := by decide +kernel
theorem dX7_execute_80 : decode cX7_execute 80 = .ok (.invokevirtual 301, 3) := by decide +kernel
theorem dX7_execute_83 : decode cX7_execute 83 = .ok (.new 305, 3) := by decide +kernel
theorem dX7_execute_86 : decode cX7_execute 86 = .ok (.dup, 1) := by decide +kernel
theorem dX7_execute_87 : decode cX7_execute 87 = .ok (.ldc_w 307, 3) := by decide +kernel
theorem dX7_execute_90 : decode cX7_execute 90 = .ok (.invokespecial 309, 3) := by decide +kernel
theorem dX7_execute_93 : decode cX7_execute 93 = .ok (.athrow, 1) := by decide +kernel
theorem dX7_execute_94 : decode cX7_execute 94 = .ok (.aload_n 0, 1) := by decide +kernel
theorem dX7_execute_95 : decode cX7_execute 95 = .ok (.iload_n 2, 1) := by decide +kernel
theorem dX7_execute_96 : decode cX7_execute 96 = .ok (.invokevirtual 310, 3) := by decide +kernel
theorem dX7_execute_99 : decode cX7_execute 99 = .ok (.iinc 2 1, 3) := by decide +kernel
theorem dX7_execute_102 : decode cX7_execute 102 = .ok (.goto (-48), 3) := by decide +kernel
theorem dX7_execute_105 : decode cX7_execute 105 = .ok (.aload_n 0, 1) := by decide +kernel
theorem dX7_execute_106 : decode cX7_execute 106 = .ok (.getfield 25, 3) := by decide +kernel
theorem dX7_execute_109 : decode cX7_execute 109 = .ok (.aload_n 0, 1) := by decide +kernel
theorem dX7_execute_110 : decode cX7_execute 110 = .ok (.getfield 12, 3) := by decide +kernel
theorem dX7_execute_113 : decode cX7_execute 113 = .ok (.invokevirtual 59, 3) := by decide +kernel
theorem dX7_execute_116 : decode cX7_execute 116 = .ok (.aload_n 0, 1) := by decide +kernel
theorem dX7_execute_117 : decode cX7_execute 117 = .ok (.getfield 12, 3) := by decide +kernel
theorem dX7_execute_120 : decode cX7_execute 120 = .ok (.aload_n 0, 1) := by decide +kernel
theorem dX7_execute_121 : decode cX7_execute 121 = .ok (.getfield 16, 3) := by decide +kernel
theorem dX7_execute_124 : decode cX7_execute 124 = .ok (.invokevirtual 129, 3) := by decide +kernel
theorem dX7_execute_127 : decode cX7_execute 127 = .ok (.aload_n 0, 1) := by decide +kernel
theorem dX7_execute_128 : decode cX7_execute 128 = .ok (.getfield 32, 3) := by decide +kernel
theorem dX7_execute_131 : decode cX7_execute 131 = .ok (.getfield 295, 3) := by decide +kernel
theorem dX7_execute_134 : decode cX7_execute 134 = .ok (.ireturn, 1) := by decide +kernel
theorem dX7_writeCycle_0 : decode cX7_writeCycle 0 = .ok (.aload_n 0, 1) := by decide +kernel
theorem dX7_writeCycle_1 : decode cX7_writeCycle 1 = .ok (.getfield 12, 3) := by decide +kernel
theorem dX7_writeCycle_4 : decode cX7_writeCycle 4 = .ok (.getfield 95, 3) := by decide +kernel
theorem dX7_writeCycle_7 : decode cX7_writeCycle 7 = .ok (.astore_n 1, 1) := by decide +kernel
theorem dX7_writeCycle_8 : decode cX7_writeCycle 8 = .ok (.aload_n 0, 1) := by decide +kernel
theorem dX7_writeCycle_9 : decode cX7_writeCycle 9 = .ok (.getfield 43, 3) := by decide +kernel
theorem dX7_writeCycle_12 : decode cX7_writeCycle 12 = .ok (.iconst 0, 1) := by decide +kernel
theorem dX7_writeCycle_13 : decode cX7_writeCycle 13 = .ok (.invokevirtual 315, 3) := by decide +kernel
theorem dX7_writeCycle_16 : decode cX7_writeCycle 16 = .ok (.iconst 0, 1) := by decide +kernel
theorem dX7_writeCycle_17 : decode cX7_writeCycle 17 = .ok (.istore_n 2, 1) := by decide +kernel
theorem dX7_writeCycle_18 : decode cX7_writeCycle 18 = .ok (.iload_n 2, 1) := by decide +kernel
theorem dX7_writeCycle_19 : decode cX7_writeCycle 19 = .ok (.aload_n 1, 1) := by decide +kernel
theorem dX7_writeCycle_20 : decode cX7_writeCycle 20 = .ok (.getfield 99, 3) := by decide +kernel
theorem dX7_writeCycle_23 : decode cX7_writeCycle 23 = .ok (.if_icmp .ge 93, 3) := by decide +kernel
theorem dX7_writeCycle_26 : decode cX7_writeCycle 26 = .ok (.iload_n 2, 1) := by decide +kernel
theorem dX7_writeCycle_27 : decode cX7_writeCycle 27 = .ok (.ifCond .le 13, 3) := by decide +kernel
theorem dX7_writeCycle_30 : decode cX7_writeCycle 30 = .ok (.aload_n 0, 1) := by decide +kernel
theorem dX7_writeCycle_31 : decode cX7_writeCycle 31 = .ok (.getfield 43, 3) := by decide +kernel
theorem dX7_writeCycle_34 : decode cX7_writeCycle 34 = .ok (.bipush 32, 2) := by decide +kernel
theorem dX7_writeCycle_36 : decode cX7_writeCycle 36 = .ok (.invokevirtual 318, 3) := by decide +kernel
theorem dX7_writeCycle_39 : decode cX7_writeCycle 39 = .ok (.pop, 1) := by decide +kernel
theorem dX7_writeCycle_40 : decode cX7_writeCycle 40 = .ok (.aload_n 0, 1) := by decide +kernel
theorem dX7_writeCycle_41 : decode cX7_writeCycle 41 = .ok (.getfield 43, 3) := by decide +kernel
theorem dX7_writeCycle_44 : decode cX7_writeCycle 44 = .ok (.aload_n 1, 1) := by decide +kernel
theorem dX7_writeCycle_45 : decode cX7_writeCycle 45 = .ok (.getfield 107, 3) := by decide +kernel
theorem dX7_writeCycle_48 : decode cX7_writeCycle 48 = .ok (.iload_n 2, 1) := by decide +kernel
theorem dX7_writeCycle_49 : decode cX7_writeCycle 49 = .ok (.caload, 1) := by decide +kernel
theorem dX7_writeCycle_50 : decode cX7_writeCycle 50 = .ok (.invokevirtual 318, 3) := by decide +kernel
theorem dX7_writeCycle_53 : decode cX7_writeCycle 53 = .ok (.pop, 1) := by decide +kernel
theorem dX7_writeCycle_54 : decode cX7_writeCycle 54 = .ok (.aload_n 0, 1) := by decide +kernel
theorem dX7_writeCycle_55 : decode cX7_writeCycle 55 = .ok (.getfield 43, 3) := by decide +kernel
theorem dX7_writeCycle_58 : decode cX7_writeCycle 58 = .ok (.aload_n 1, 1) := by decide +kernel
theorem dX7_writeCycle_59 : decode cX7_writeCycle 59 = .ok (.getfield 111, 3) := by decide +kernel
theorem dX7_writeCycle_62 : decode cX7_writeCycle 62 = .ok (.iload_n 2, 1) := by decide +kernel
theorem dX7_writeCycle_63 : decode cX7_writeCycle 63 = .ok (.iaload, 1) := by decide +kernel
theorem dX7_writeCycle_64 : decode cX7_writeCycle 64 = .ok (.invokevirtual 321, 3) := by decide +kernel
theorem dX7_writeCycle_67 : decode cX7_writeCycle 67 = .ok (.pop, 1) := by decide +kernel
theorem dX7_writeCycle_68 : decode cX7_writeCycle 68 = .ok (.aload_n 0, 1) := by decide +kernel
theorem dX7_writeCycle_69 : decode cX7_writeCycle 69 = .ok (.getfield 43, 3) := by decide +kernel
theorem dX7_writeCycle_72 : decode cX7_writeCycle 72 = .ok (.bipush 58, 2) := by decide +kernel
theorem dX7_writeCycle_74 : decode cX7_writeCycle 74 = .ok (.invokevirtual 318, 3) := by decide +kernel
theorem dX7_writeCycle_77 : decode cX7_writeCycle 77 = .ok (.pop, 1) := by decide +kernel
theorem dX7_writeCycle_78 : decode cX7_writeCycle 78 = .ok (.aload_n 0, 1) := by decide +kernel
theorem dX7_writeCycle_79 : decode cX7_writeCycle 79 = .ok (.getfield 43, 3) := by decide +kernel
theorem dX7_writeCycle_82 : decode cX7_writeCycle 82 = .ok (.aload_n 1, 1) := by decide +kernel
theorem dX7_writeCycle_83 : decode cX7_writeCycle 83 = .ok (.getfield 324, 3) := by decide +kernel
theorem dX7_writeCycle_86 : decode cX7_writeCycle 86 = .ok (.iload_n 2, 1) := by decide +kernel
theorem dX7_writeCycle_87 : decode cX7_writeCycle 87 = .ok (.iaload, 1) := by decide +kernel
theorem dX7_writeCycle_88 : decode cX7_writeCycle 88 = .ok (.invokevirtual 321, 3) := by decide +kernel
theorem dX7_writeCycle_91 : decode cX7_writeCycle 91 = .ok (.pop, 1) := by decide +kernel
theorem dX7_writeCycle_92 : decode cX7_writeCycle 92 = .ok (.iload_n 2, 1) := by decide +kernel
theorem dX7_writeCycle_93 : decode cX7_writeCycle 93 = .ok (.aload_n 1, 1) := by decide +kernel
theorem dX7_writeCycle_94 : decode cX7_writeCycle 94 = .ok (.getfield 126, 3) := by decide +kernel
theorem dX7_writeCycle_97 : decode cX7_writeCycle 97 = .ok (.if_icmp .ne 13, 3) := by decide +kernel
theorem dX7_writeCycle_100 : decode cX7_writeCycle 100 = .ok (.aload_n 0, 1) := by decide +kernel
theorem dX7_writeCycle_101 : decode cX7_writeCycle 101 = .ok (.getfield 43, 3) := by decide +kernel
theorem dX7_writeCycle_104 : decode cX7_writeCycle 104 = .ok (.bipush 42, 2) := by decide +kernel
theorem dX7_writeCycle_106 : decode cX7_writeCycle 106 = .ok (.invokevirtual 318, 3) := by decide +kernel
theorem dX7_writeCycle_109 : decode cX7_writeCycle 109 = .ok (.pop, 1) := by decide +kernel
theorem dX7_writeCycle_110 : decode cX7_writeCycle 110 = .ok (.iinc 2 1, 3) := by decide +kernel
theorem dX7_writeCycle_113 : decode cX7_writeCycle 113 = .ok (.goto (-95), 3) := by decide +kernel
theorem dX7_writeCycle_116 : decode cX7_writeCycle 116 = .ok (.aload_n 0, 1) := by decide +kernel
theorem dX7_writeCycle_117 : decode cX7_writeCycle 117 = .ok (.getfield 43, 3) := by decide +kernel
theorem dX7_writeCycle_120 : decode cX7_writeCycle 120 = .ok (.invokevirtual 327, 3) := by decide +kernel
theorem dX7_writeCycle_123 : decode cX7_writeCycle 123 = .ok (.ireturn, 1) := by decide +kernel
theorem dX7_writePat_0 : decode cX7_writePat 0 = .ok (.aload_n 0, 1) := by decide +kernel
theorem dX7_writePat_1 : decode cX7_writePat 1 = .ok (.iload_n 1, 1) := by decide +kernel
theorem dX7_writePat_2 : decode cX7_writePat 2 = .ok (.invokevirtual 203, 3) := by decide +kernel
theorem dX7_writePat_5 : decode cX7_writePat 5 = .ok (.aload_n 0, 1) := by decide +kernel
theorem dX7_writePat_6 : decode cX7_writePat 6 = .ok (.getfield 12, 3) := by decide +kernel
theorem dX7_writePat_9 : decode cX7_writePat 9 = .ok (.getfield 183, 3) := by decide +kernel
theorem dX7_writePat_12 : decode cX7_writePat 12 = .ok (.astore_n 2, 1) := by decide +kernel
theorem dX7_writePat_13 : decode cX7_writePat 13 = .ok (.aload_n 0, 1) := by decide +kernel
theorem dX7_writePat_14 : decode cX7_writePat 14 = .ok (.getfield 43, 3) := by decide +kernel
theorem dX7_writePat_17 : decode cX7_writePat 17 = .ok (.iconst 0, 1) := by decide +kernel
theorem dX7_writePat_18 : decode cX7_writePat 18 = .ok (.invokevirtual 315, 3) := by decide +kernel
theorem dX7_writePat_21 : decode cX7_writePat 21 = .ok (.aload_n 0, 1) := by decide +kernel
theorem dX7_writePat_22 : decode cX7_writePat 22 = .ok (.getfield 43, 3) := by decide +kernel
theorem dX7_writePat_25 : decode cX7_writePat 25 = .ok (.aload_n 2, 1) := by decide +kernel
theorem dX7_writePat_26 : decode cX7_writePat 26 = .ok (.getfield 206, 3) := by decide +kernel
theorem dX7_writePat_29 : decode cX7_writePat 29 = .ok (.iload_n 1, 1) := by decide +kernel
theorem dX7_writePat_30 : decode cX7_writePat 30 = .ok (.iaload, 1) := by decide +kernel
theorem dX7_writePat_31 : decode cX7_writePat 31 = .ok (.invokevirtual 321, 3) := by decide +kernel
theorem dX7_writePat_34 : decode cX7_writePat 34 = .ok (.pop, 1) := by decide +kernel
theorem dX7_writePat_35 : decode cX7_writePat 35 = .ok (.aload_n 0, 1) := by decide +kernel
theorem dX7_writePat_36 : decode cX7_writePat 36 = .ok (.getfield 43, 3) := by decide +kernel
theorem dX7_writePat_39 : decode cX7_writePat 39 = .ok (.bipush 64, 2) := by decide +kernel
theorem dX7_writePat_41 : decode cX7_writePat 41 = .ok (.invokevirtual 318, 3) := by decide +kernel
theorem dX7_writePat_44 : decode cX7_writePat 44 = .ok (.pop, 1) := by decide +kernel
theorem dX7_writePat_45 : decode cX7_writePat 45 = .ok (.aload_n 0, 1) := by decide +kernel
theorem dX7_writePat_46 : decode cX7_writePat 46 = .ok (.getfield 43, 3) := by decide +kernel
theorem dX7_writePat_49 : decode cX7_writePat 49 = .ok (.aload_n 2, 1) := by decide +kernel
theorem dX7_writePat_50 : decode cX7_writePat 50 = .ok (.getfield 209, 3) := by decide +kernel
theorem dX7_writePat_53 : decode cX7_writePat 53 = .ok (.iload_n 1, 1) := by decide +kernel
theorem dX7_writePat_54 : decode cX7_writePat 54 = .ok (.iaload, 1) := by decide +kernel
theorem dX7_writePat_55 : decode cX7_writePat 55 = .ok (.invokevirtual 321, 3) := by decide +kernel
theorem dX7_writePat_58 : decode cX7_writePat 58 = .ok (.pop, 1) := by decide +kernel
theorem dX7_writePat_59 : decode cX7_writePat 59 = .ok (.aload_n 0, 1) := by decide +kernel
theorem dX7_writePat_60 : decode cX7_writePat 60 = .ok (.getfield 43, 3) := by decide +kernel
theorem dX7_writePat_63 : decode cX7_writePat 63 = .ok (.bipush 35, 2) := by decide +kernel
theorem dX7_writePat_65 : decode cX7_writePat 65 = .ok (.invokevirtual 318, 3) := by decide +kernel
theorem dX7_writePat_68 : decode cX7_writePat 68 = .ok (.pop, 1) := by decide +kernel
theorem dX7_writePat_69 : decode cX7_writePat 69 = .ok (.aload_n 0, 1) := by decide +kernel
theorem dX7_writePat_70 : decode cX7_writePat 70 = .ok (.getfield 43, 3) := by decide +kernel
theorem dX7_writePat_73 : decode cX7_writePat 73 = .ok (.aload_n 2, 1) := by decide +kernel
theorem dX7_writePat_74 : decode cX7_writePat 74 = .ok (.getfield 329, 3) := by decide +kernel
theorem dX7_writePat_77 : decode cX7_writePat 77 = .ok (.iload_n 1, 1) := by decide +kernel
theorem dX7_writePat_78 : decode cX7_writePat 78 = .ok (.iaload, 1) := by decide +kernel
theorem dX7_writePat_79 : decode cX7_writePat 79 = .ok (.invokevirtual 321, 3) := by decide +kernel
theorem dX7_writePat_82 : decode cX7_writePat 82 = .ok (.pop, 1) := by decide +kernel
theorem dX7_writePat_83 : decode cX7_writePat 83 = .ok (.iconst 0, 1) := by decide +kernel
theorem dX7_writePat_84 : decode cX7_writePat 84 = .ok (.istore_n 3, 1) := by decide +kernel
theorem dX7_writePat_85 : decode cX7_writePat 85 = .ok (.iload_n 3, 1) := by decide +kernel
theorem dX7_writePat_86 : decode cX7_writePat 86 = .ok (.aload_n 2, 1) := by decide +kernel
theorem dX7_writePat_87 : decode cX7_writePat 87 = .ok (.getfield 212, 3) := by decide +kernel
theorem dX7_writePat_90 : decode cX7_writePat 90 = .ok (.iload_n 1, 1) := by decide +kernel
theorem dX7_writePat_91 : decode cX7_writePat 91 = .ok (.iaload, 1) := by decide +kernel
theorem dX7_writePat_92 : decode cX7_writePat 92 = .ok (.if_icmp .ge 19, 3) := by decide +kernel
theorem dX7_writePat_95 : decode cX7_writePat 95 = .ok (.aload_n 0, 1) := by decide +kernel
theorem dX7_writePat_96 : decode cX7_writePat 96 = .ok (.getfield 43, 3) := by decide +kernel
theorem dX7_writePat_99 : decode cX7_writePat 99 = .ok (.bipush 47, 2) := by decide +kernel
theorem dX7_writePat_101 : decode cX7_writePat 101 = .ok (.invokevirtual 318, 3) := by decide +kernel
theorem dX7_writePat_104 : decode cX7_writePat 104 = .ok (.pop, 1) := by decide +kernel
theorem dX7_writePat_105 : decode cX7_writePat 105 = .ok (.iinc 3 1, 3) := by decide +kernel
theorem dX7_writePat_108 : decode cX7_writePat 108 = .ok (.goto (-23), 3) := by decide +kernel
theorem dX7_writePat_111 : decode cX7_writePat 111 = .ok (.aload_n 0, 1) := by decide +kernel
theorem dX7_writePat_112 : decode cX7_writePat 112 = .ok (.getfield 43, 3) := by decide +kernel
theorem dX7_writePat_115 : decode cX7_writePat 115 = .ok (.invokevirtual 327, 3) := by decide +kernel
theorem dX7_writePat_118 : decode cX7_writePat 118 = .ok (.ireturn, 1) := by decide +kernel
theorem dX7_denial_0 : decode cX7_denial 0 = .ok (.aload_n 0, 1) := by decide +kernel
theorem dX7_denial_1 : decode cX7_denial 1 = .ok (.invokevirtual 340, 3) := by decide +kernel
theorem dX7_denial_4 : decode cX7_denial 4 = .ok (.aload_n 0, 1) := by decide +kernel
theorem dX7_denial_5 : decode cX7_denial 5 = .ok (.getfield 343, 3) := by decide +kernel
theorem dX7_denial_8 : decode cX7_denial 8 = .ok (.ireturn, 1) := by decide +kernel
theorem dX7_denialCause_0 : decode cX7_denialCause 0 = .ok (.aload_n 0, 1) := by decide +kernel
theorem dX7_denialCause_1 : decode cX7_denialCause 1 = .ok (.getfield 349, 3) := by decide +kernel
theorem dX7_denialCause_4 : decode cX7_denialCause 4 = .ok (.ifCond .ne 14, 3) := by decide +kernel
theorem dX7_denialCause_7 : decode cX7_denialCause 7 = .ok (.new 119, 3) := by decide +kernel
theorem dX7_denialCause_10 : decode cX7_denialCause 10 = .ok (.dup, 1) := by decide +kernel
theorem dX7_denialCause_11 : decode cX7_denialCause 11 = .ok (.ldc_w 352, 3) := by decide +kernel
theorem dX7_denialCause_14 : decode cX7_denialCause 14 = .ok (.invokespecial 123, 3) := by decide +kernel
theorem dX7_denialCause_17 : decode cX7_denialCause 17 = .ok (.athrow, 1) := by decide +kernel
theorem dX7_denialCause_18 : decode cX7_denialCause 18 = .ok (.aload_n 0, 1) := by decide +kernel
theorem dX7_denialCause_19 : decode cX7_denialCause 19 = .ok (.getfield 349, 3) := by decide +kernel
theorem dX7_denialCause_22 : decode cX7_denialCause 22 = .ok (.ireturn, 1) := by decide +kernel
theorem dX7_undo_0 : decode cX7_undo 0 = .ok (.aload_n 0, 1) := by decide +kernel
theorem dX7_undo_1 : decode cX7_undo 1 = .ok (.getfield 25, 3) := by decide +kernel
theorem dX7_undo_4 : decode cX7_undo 4 = .ok (.getfield 354, 3) := by decide +kernel
theorem dX7_undo_7 : decode cX7_undo 7 = .ok (.ifCond .ne 14, 3) := by decide +kernel
theorem dX7_undo_10 : decode cX7_undo 10 = .ok (.new 272, 3) := by decide +kernel
theorem dX7_undo_13 : decode cX7_undo 13 = .ok (.dup, 1) := by decide +kernel
theorem dX7_undo_14 : decode cX7_undo 14 = .ok (.ldc_w 355, 3) := by decide +kernel
theorem dX7_undo_17 : decode cX7_undo 17 = .ok (.invokespecial 276, 3) := by decide +kernel
theorem dX7_undo_20 : decode cX7_undo 20 = .ok (.athrow, 1) := by decide +kernel
theorem dX7_undo_21 : decode cX7_undo 21 = .ok (.aload_n 0, 1) := by decide +kernel
theorem dX7_undo_22 : decode cX7_undo 22 = .ok (.getfield 25, 3) := by decide +kernel
theorem dX7_undo_25 : decode cX7_undo 25 = .ok (.aload_n 0, 1) := by decide +kernel
theorem dX7_undo_26 : decode cX7_undo 26 = .ok (.getfield 12, 3) := by decide +kernel
theorem dX7_undo_29 : decode cX7_undo 29 = .ok (.invokevirtual 357, 3) := by decide +kernel
theorem dX7_undo_32 : decode cX7_undo 32 = .ok (.aload_n 0, 1) := by decide +kernel
theorem dX7_undo_33 : decode cX7_undo 33 = .ok (.getfield 25, 3) := by decide +kernel
theorem dX7_undo_36 : decode cX7_undo 36 = .ok (.getfield 354, 3) := by decide +kernel
theorem dX7_undo_39 : decode cX7_undo 39 = .ok (.ireturn, 1) := by decide +kernel
theorem dX7_undoCount_0 : decode cX7_undoCount 0 = .ok (.aload_n 0, 1) := by decide +kernel
theorem dX7_undoCount_1 : decode cX7_undoCount 1 = .ok (.getfield 25, 3) := by decide +kernel
theorem dX7_undoCount_4 : decode cX7_undoCount 4 = .ok (.getfield 354, 3) := by decide +kernel
theorem dX7_undoCount_7 : decode cX7_undoCount 7 = .ok (.ireturn, 1) := by decide +kernel
theorem dX7_saveSnapshot_0 : decode cX7_saveSnapshot 0 = .ok (.aload_n 0, 1) := by decide +kernel
theorem dX7_saveSnapshot_1 : decode cX7_saveSnapshot 1 = .ok (.getfield 19, 3) := by decide +kernel
theorem dX7_saveSnapshot_4 : decode cX7_saveSnapshot 4 = .ok (.aload_n 0, 1) := by decide +kernel
theorem dX7_saveSnapshot_5 : decode cX7_saveSnapshot 5 = .ok (.getfield 12, 3) := by decide +kernel
theorem dX7_saveSnapshot_8 : decode cX7_saveSnapshot 8 = .ok (.invokevirtual 129, 3) := by decide +kernel
theorem dX7_saveSnapshot_11 : decode cX7_saveSnapshot 11 = .ok (.aload_n 0, 1) := by decide +kernel
theorem dX7_saveSnapshot_12 : decode cX7_saveSnapshot 12 = .ok (.iconst 1, 1) := by decide +kernel
theorem dX7_saveSnapshot_13 : decode cX7_saveSnapshot 13 = .ok (.putfield 360, 3) := by decide +kernel
theorem dX7_saveSnapshot_16 : decode cX7_saveSnapshot 16 = .ok (.aload_n 0, 1) := by decide +kernel
theorem dX7_saveSnapshot_17 : decode cX7_saveSnapshot 17 = .ok (.getfield 12, 3) := by decide +kernel
theorem dX7_saveSnapshot_20 : decode cX7_saveSnapshot 20 = .ok (.getfield 183, 3) := by decide +kernel
theorem dX7_saveSnapshot_23 : decode cX7_saveSnapshot 23 = .ok (.getfield 202, 3) := by decide +kernel
theorem dX7_saveSnapshot_26 : decode cX7_saveSnapshot 26 = .ok (.ireturn, 1) := by decide +kernel
theorem dX7_restoreSnapshot_0 : decode cX7_restoreSnapshot 0 = .ok (.aload_n 0, 1) := by decide +kernel
theorem dX7_restoreSnapshot_1 : decode cX7_restoreSnapshot 1 = .ok (.getfield 360, 3) := by decide +kernel
theorem dX7_restoreSnapshot_4 : decode cX7_restoreSnapshot 4 = .ok (.ifCond .ne 14, 3) := by decide +kernel
theorem dX7_restoreSnapshot_7 : decode cX7_restoreSnapshot 7 = .ok (.new 272, 3) := by decide +kernel
theorem dX7_restoreSnapshot_10 : decode cX7_restoreSnapshot 10 = .ok (.dup, 1) := by decide +kernel
theorem dX7_restoreSnapshot_11 : decode cX7_restoreSnapshot 11 = .ok (.ldc_w 364, 3) := by decide +kernel
theorem dX7_restoreSnapshot_14 : decode cX7_restoreSnapshot 14 = .ok (.invokespecial 276, 3) := by decide +kernel
theorem dX7_restoreSnapshot_17 : decode cX7_restoreSnapshot 17 = .ok (.athrow, 1) := by decide +kernel
theorem dX7_restoreSnapshot_18 : decode cX7_restoreSnapshot 18 = .ok (.aload_n 0, 1) := by decide +kernel
theorem dX7_restoreSnapshot_19 : decode cX7_restoreSnapshot 19 = .ok (.getfield 12, 3) := by decide +kernel
theorem dX7_restoreSnapshot_22 : decode cX7_restoreSnapshot 22 = .ok (.aload_n 0, 1) := by decide +kernel
theorem dX7_restoreSnapshot_23 : decode cX7_restoreSnapshot 23 = .ok (.getfield 19, 3) := by decide +kernel
theorem dX7_restoreSnapshot_26 : decode cX7_restoreSnapshot 26 = .ok (.invokevirtual 129, 3) := by decide +kernel
theorem dX7_restoreSnapshot_29 : decode cX7_restoreSnapshot 29 = .ok (.aload_n 0, 1) := by decide +kernel
theorem dX7_restoreSnapshot_30 : decode cX7_restoreSnapshot 30 = .ok (.getfield 25, 3) := by decide +kernel
theorem dX7_restoreSnapshot_33 : decode cX7_restoreSnapshot 33 = .ok (.invokevirtual 366, 3) := by decide +kernel
theorem dX7_restoreSnapshot_36 : decode cX7_restoreSnapshot 36 = .ok (.aload_n 0, 1) := by decide +kernel
theorem dX7_restoreSnapshot_37 : decode cX7_restoreSnapshot 37 = .ok (.getfield 12, 3) := by decide +kernel
theorem dX7_restoreSnapshot_40 : decode cX7_restoreSnapshot 40 = .ok (.getfield 183, 3) := by decide +kernel
theorem dX7_restoreSnapshot_43 : decode cX7_restoreSnapshot 43 = .ok (.getfield 202, 3) := by decide +kernel
theorem dX7_restoreSnapshot_46 : decode cX7_restoreSnapshot 46 = .ok (.ireturn, 1) := by decide +kernel
theorem dX7_isWithin_0 : decode cX7_isWithin 0 = .ok (.iload_n 0, 1) := by decide +kernel
theorem dX7_isWithin_1 : decode cX7_isWithin 1 = .ok (.iload_n 1, 1) := by decide +kernel
theorem dX7_isWithin_2 : decode cX7_isWithin 2 = .ok (.if_icmp .lt 12, 3) := by decide +kernel
theorem dX7_isWithin_5 : decode cX7_isWithin 5 = .ok (.iload_n 0, 1) := by decide +kernel
theorem dX7_isWithin_6 : decode cX7_isWithin 6 = .ok (.iload_n 2, 1) := by decide +kernel
theorem dX7_isWithin_7 : decode cX7_isWithin 7 = .ok (.if_icmp .gt 7, 3) := by decide +kernel
theorem dX7_isWithin_10 : decode cX7_isWithin 10 = .ok (.iconst 1, 1) := by decide +kernel
theorem dX7_isWithin_11 : decode cX7_isWithin 11 = .ok (.goto 4, 3) := by decide +kernel
theorem dX7_isWithin_14 : decode cX7_isWithin 14 = .ok (.iconst 0, 1) := by decide +kernel
theorem dX7_isWithin_15 : decode cX7_isWithin 15 = .ok (.ireturn, 1) := by decide +kernel
theorem dX7_requirePhase_0 : decode cX7_requirePhase 0 = .ok (.aload_n 0, 1) := by decide +kernel
theorem dX7_requirePhase_1 : decode cX7_requirePhase 1 = .ok (.getfield 12, 3) := by decide +kernel
theorem dX7_requirePhase_4 : decode cX7_requirePhase 4 = .ok (.getfield 95, 3) := by decide +kernel
theorem dX7_requirePhase_7 : decode cX7_requirePhase 7 = .ok (.iload_n 1, 1) := by decide +kernel
theorem dX7_requirePhase_8 : decode cX7_requirePhase 8 = .ok (.invokevirtual 369, 3) := by decide +kernel
theorem dX7_requirePhase_11 : decode cX7_requirePhase 11 = .ok (.ifCond .ne 14, 3) := by decide +kernel
theorem dX7_requirePhase_14 : decode cX7_requirePhase 14 = .ok (.new 332, 3) := by decide +kernel
theorem dX7_requirePhase_17 : decode cX7_requirePhase 17 = .ok (.dup, 1) := by decide +kernel
theorem dX7_requirePhase_18 : decode cX7_requirePhase 18 = .ok (.ldc_w 372, 3) := by decide +kernel
theorem dX7_requirePhase_21 : decode cX7_requirePhase 21 = .ok (.invokespecial 336, 3) := by decide +kernel
theorem dX7_requirePhase_24 : decode cX7_requirePhase 24 = .ok (.athrow, 1) := by decide +kernel
theorem dX7_requirePhase_25 : decode cX7_requirePhase 25 = .ok (.return_, 1) := by decide +kernel
theorem dX7_requirePat_0 : decode cX7_requirePat 0 = .ok (.aload_n 0, 1) := by decide +kernel
theorem dX7_requirePat_1 : decode cX7_requirePat 1 = .ok (.getfield 12, 3) := by decide +kernel
theorem dX7_requirePat_4 : decode cX7_requirePat 4 = .ok (.getfield 183, 3) := by decide +kernel
theorem dX7_requirePat_7 : decode cX7_requirePat 7 = .ok (.iload_n 1, 1) := by decide +kernel
theorem dX7_requirePat_8 : decode cX7_requirePat 8 = .ok (.invokevirtual 374, 3) := by decide +kernel
theorem dX7_requirePat_11 : decode cX7_requirePat 11 = .ok (.ifCond .ne 14, 3) := by decide +kernel
theorem dX7_requirePat_14 : decode cX7_requirePat 14 = .ok (.new 332, 3) := by decide +kernel
theorem dX7_requirePat_17 : decode cX7_requirePat 17 = .ok (.dup, 1) := by decide +kernel
theorem dX7_requirePat_18 : decode cX7_requirePat 18 = .ok (.ldc_w 375, 3) := by decide +kernel
theorem dX7_requirePat_21 : decode cX7_requirePat 21 = .ok (.invokespecial 336, 3) := by decide +kernel
theorem dX7_requirePat_24 : decode cX7_requirePat 24 = .ok (.athrow, 1) := by decide +kernel
theorem dX7_requirePat_25 : decode cX7_requirePat 25 = .ok (.return_, 1) := by decide +kernel
theorem dX7_requireDenial_0 : decode cX7_requireDenial 0 = .ok (.aload_n 0, 1) := by decide +kernel
theorem dX7_requireDenial_1 : decode cX7_requireDenial 1 = .ok (.getfield 343, 3) := by decide +kernel
theorem dX7_requireDenial_4 : decode cX7_requireDenial 4 = .ok (.ifCond .ne 14, 3) := by decide +kernel
theorem dX7_requireDenial_7 : decode cX7_requireDenial 7 = .ok (.new 119, 3) := by decide +kernel
theorem dX7_requireDenial_10 : decode cX7_requireDenial 10 = .ok (.dup, 1) := by decide +kernel
theorem dX7_requireDenial_11 : decode cX7_requireDenial 11 = .ok (.ldc_w 377, 3) := by decide +kernel
theorem dX7_requireDenial_14 : decode cX7_requireDenial 14 = .ok (.invokespecial 123, 3) := by decide +kernel
theorem dX7_requireDenial_17 : decode cX7_requireDenial 17 = .ok (.athrow, 1) := by decide +kernel
theorem dX7_requireDenial_18 : decode cX7_requireDenial 18 = .ok (.return_, 1) := by decide +kernel
theorem dX7_requireRightNumbers_0 : decode cX7_requireRightNumbers 0 = .ok (.iload_n 1, 1) := by decide +kernel
theorem dX7_requireRightNumbers_1 : decode cX7_requireRightNumbers 1 = .ok (.bipush 8, 2) := by decide +kernel
theorem dX7_requireRightNumbers_3 : decode cX7_requireRightNumbers 3 = .ok (.if_icmp .ne 14, 3) := by decide +kernel
theorem dX7_requireRightNumbers_6 : decode cX7_requireRightNumbers 6 = .ok (.new 244, 3) := by decide +kernel
theorem dX7_requireRightNumbers_9 : decode cX7_requireRightNumbers 9 = .ok (.dup, 1) := by decide +kernel
theorem dX7_requireRightNumbers_10 : decode cX7_requireRightNumbers 10 = .ok (.ldc_w 379, 3) := by decide +kernel
theorem dX7_requireRightNumbers_13 : decode cX7_requireRightNumbers 13 = .ok (.invokespecial 248, 3) := by decide +kernel
theorem dX7_requireRightNumbers_16 : decode cX7_requireRightNumbers 16 = .ok (.athrow, 1) := by decide +kernel
theorem dX7_requireRightNumbers_17 : decode cX7_requireRightNumbers 17 = .ok (.return_, 1) := by decide +kernel
theorem dX7_requireRightIndex_0 : decode cX7_requireRightIndex 0 = .ok (.iload_n 1, 1) := by decide +kernel
theorem dX7_requireRightIndex_1 : decode cX7_requireRightIndex 1 = .ok (.bipush 8, 2) := by decide +kernel
theorem dX7_requireRightIndex_3 : decode cX7_requireRightIndex 3 = .ok (.if_icmp .ne 14, 3) := by decide +kernel
theorem dX7_requireRightIndex_6 : decode cX7_requireRightIndex 6 = .ok (.new 332, 3) := by decide +kernel
theorem dX7_requireRightIndex_9 : decode cX7_requireRightIndex 9 = .ok (.dup, 1) := by decide +kernel
theorem dX7_requireRightIndex_10 : decode cX7_requireRightIndex 10 = .ok (.ldc_w 381, 3) := by decide +kernel
theorem dX7_requireRightIndex_13 : decode cX7_requireRightIndex 13 = .ok (.invokespecial 336, 3) := by decide +kernel
theorem dX7_requireRightIndex_16 : decode cX7_requireRightIndex 16 = .ok (.athrow, 1) := by decide +kernel
theorem dX7_requireRightIndex_17 : decode cX7_requireRightIndex 17 = .ok (.return_, 1) := by decide +kernel
theorem dX7_requireAllowed_0 : decode cX7_requireAllowed 0 = .ok (.iload_n 1, 1) := by decide +kernel
theorem dX7_requireAllowed_1 : decode cX7_requireAllowed 1 = .ok (.ifCond .eq 29, 3) := by decide +kernel
theorem dX7_requireAllowed_4 : decode cX7_requireAllowed 4 = .ok (.aload_n 0, 1) := by decide +kernel
theorem dX7_requireAllowed_5 : decode cX7_requireAllowed 5 = .ok (.iload_n 1, 1) := by decide +kernel
theorem dX7_requireAllowed_6 : decode cX7_requireAllowed 6 = .ok (.aload_n 0, 1) := by decide +kernel
theorem dX7_requireAllowed_7 : decode cX7_requireAllowed 7 = .ok (.getfield 12, 3) := by decide +kernel
theorem dX7_requireAllowed_10 : decode cX7_requireAllowed 10 = .ok (.iload_n 1, 1) := by decide +kernel
theorem dX7_requireAllowed_11 : decode cX7_requireAllowed 11 = .ok (.iload_n 2, 1) := by decide +kernel
theorem dX7_requireAllowed_12 : decode cX7_requireAllowed 12 = .ok (.invokevirtual 383, 3) := by decide +kernel
theorem dX7_requireAllowed_15 : decode cX7_requireAllowed 15 = .ok (.iconst 0, 1) := by decide +kernel
theorem dX7_requireAllowed_16 : decode cX7_requireAllowed 16 = .ok (.invokevirtual 301, 3) := by decide +kernel
theorem dX7_requireAllowed_19 : decode cX7_requireAllowed 19 = .ok (.new 305, 3) := by decide +kernel
theorem dX7_requireAllowed_22 : decode cX7_requireAllowed 22 = .ok (.dup, 1) := by decide +kernel
theorem dX7_requireAllowed_23 : decode cX7_requireAllowed 23 = .ok (.ldc_w 386, 3) := by decide +kernel
theorem dX7_requireAllowed_26 : decode cX7_requireAllowed 26 = .ok (.invokespecial 309, 3) := by decide +kernel
theorem dX7_requireAllowed_29 : decode cX7_requireAllowed 29 = .ok (.athrow, 1) := by decide +kernel
theorem dX7_requireAllowed_30 : decode cX7_requireAllowed 30 = .ok (.return_, 1) := by decide +kernel
theorem dX7_keepDenial_0 : decode cX7_keepDenial 0 = .ok (.aload_n 0, 1) := by decide +kernel
theorem dX7_keepDenial_1 : decode cX7_keepDenial 1 = .ok (.iload_n 1, 1) := by decide +kernel
theorem dX7_keepDenial_2 : decode cX7_keepDenial 2 = .ok (.putfield 343, 3) := by decide +kernel
theorem dX7_keepDenial_5 : decode cX7_keepDenial 5 = .ok (.aload_n 0, 1) := by decide +kernel
theorem dX7_keepDenial_6 : decode cX7_keepDenial 6 = .ok (.iload_n 2, 1) := by decide +kernel
theorem dX7_keepDenial_7 : decode cX7_keepDenial 7 = .ok (.putfield 346, 3) := by decide +kernel
theorem dX7_keepDenial_10 : decode cX7_keepDenial 10 = .ok (.aload_n 0, 1) := by decide +kernel
theorem dX7_keepDenial_11 : decode cX7_keepDenial 11 = .ok (.iload_n 3, 1) := by decide +kernel
theorem dX7_keepDenial_12 : decode cX7_keepDenial 12 = .ok (.putfield 349, 3) := by decide +kernel
theorem dX7_keepDenial_15 : decode cX7_keepDenial 15 = .ok (.return_, 1) := by decide +kernel
theorem dX7_tryMinutes_0 : decode cX7_tryMinutes 0 = .ok (.iload_n 1, 1) := by decide +kernel
theorem dX7_tryMinutes_1 : decode cX7_tryMinutes 1 = .ok (.iconst 0, 1) := by decide +kernel
theorem dX7_tryMinutes_2 : decode cX7_tryMinutes 2 = .ok (.sipush 240, 3) := by decide +kernel
theorem dX7_tryMinutes_5 : decode cX7_tryMinutes 5 = .ok (.invokestatic 240, 3) := by decide +kernel
theorem dX7_tryMinutes_8 : decode cX7_tryMinutes 8 = .ok (.ifCond .ne 14, 3) := by decide +kernel
theorem dX7_tryMinutes_11 : decode cX7_tryMinutes 11 = .ok (.new 244, 3) := by decide +kernel
theorem dX7_tryMinutes_14 : decode cX7_tryMinutes 14 = .ok (.dup, 1) := by decide +kernel
theorem dX7_tryMinutes_15 : decode cX7_tryMinutes 15 = .ok (.ldc_w 388, 3) := by decide +kernel
theorem dX7_tryMinutes_18 : decode cX7_tryMinutes 18 = .ok (.invokespecial 248, 3) := by decide +kernel
theorem dX7_tryMinutes_21 : decode cX7_tryMinutes 21 = .ok (.athrow, 1) := by decide +kernel
theorem dX7_tryMinutes_22 : decode cX7_tryMinutes 22 = .ok (.aload_n 0, 1) := by decide +kernel
theorem dX7_tryMinutes_23 : decode cX7_tryMinutes 23 = .ok (.getfield 16, 3) := by decide +kernel
theorem dX7_tryMinutes_26 : decode cX7_tryMinutes 26 = .ok (.aload_n 0, 1) := by decide +kernel
theorem dX7_tryMinutes_27 : decode cX7_tryMinutes 27 = .ok (.getfield 12, 3) := by decide +kernel
theorem dX7_tryMinutes_30 : decode cX7_tryMinutes 30 = .ok (.invokevirtual 129, 3) := by decide +kernel
theorem dX7_tryMinutes_33 : decode cX7_tryMinutes 33 = .ok (.aload_n 0, 1) := by decide +kernel
theorem dX7_tryMinutes_34 : decode cX7_tryMinutes 34 = .ok (.getfield 16, 3) := by decide +kernel
theorem dX7_tryMinutes_37 : decode cX7_tryMinutes 37 = .ok (.iload_n 1, 1) := by decide +kernel
theorem dX7_tryMinutes_38 : decode cX7_tryMinutes 38 = .ok (.invokevirtual 92, 3) := by decide +kernel
theorem dX7_tryMinutes_41 : decode cX7_tryMinutes 41 = .ok (.pop, 1) := by decide +kernel
theorem dX7_tryMinutes_42 : decode cX7_tryMinutes 42 = .ok (.return_, 1) := by decide +kernel
theorem dX7_judgeCommand_0 : decode cX7_judgeCommand 0 = .ok (.aload_n 0, 1) := by decide +kernel
theorem dX7_judgeCommand_1 : decode cX7_judgeCommand 1 = .ok (.getfield 32, 3) := by decide +kernel
theorem dX7_judgeCommand_4 : decode cX7_judgeCommand 4 = .ok (.getfield 390, 3) := by decide +kernel
theorem dX7_judgeCommand_7 : decode cX7_judgeCommand 7 = .ok (.iload_n 1, 1) := by decide +kernel
theorem dX7_judgeCommand_8 : decode cX7_judgeCommand 8 = .ok (.iaload, 1) := by decide +kernel
theorem dX7_judgeCommand_9 : decode cX7_judgeCommand 9 = .ok (.istore_n 2, 1) := by decide +kernel
theorem dX7_judgeCommand_10 : decode cX7_judgeCommand 10 = .ok (.aload_n 0, 1) := by decide +kernel
theorem dX7_judgeCommand_11 : decode cX7_judgeCommand 11 = .ok (.getfield 32, 3) := by decide +kernel
theorem dX7_judgeCommand_14 : decode cX7_judgeCommand 14 = .ok (.getfield 393, 3) := by decide +kernel
theorem dX7_judgeCommand_17 : decode cX7_judgeCommand 17 = .ok (.iload_n 1, 1) := by decide +kernel
theorem dX7_judgeCommand_18 : decode cX7_judgeCommand 18 = .ok (.iaload, 1) := by decide +kernel
theorem dX7_judgeCommand_19 : decode cX7_judgeCommand 19 = .ok (.tableswitch 133 0 7 #[45, 72, 81, 90, 98, 106, 115, 124], 45) := by decide +kernel
theorem dX7_judgeCommand_64 : decode cX7_judgeCommand 64 = .ok (.aload_n 0, 1) := by decide +kernel
theorem dX7_judgeCommand_65 : decode cX7_judgeCommand 65 = .ok (.getfield 16, 3) := by decide +kernel
theorem dX7_judgeCommand_68 : decode cX7_judgeCommand 68 = .ok (.aload_n 0, 1) := by decide +kernel
theorem dX7_judgeCommand_69 : decode cX7_judgeCommand 69 = .ok (.getfield 32, 3) := by decide +kernel
theorem dX7_judgeCommand_72 : decode cX7_judgeCommand 72 = .ok (.getfield 396, 3) := by decide +kernel
theorem dX7_judgeCommand_75 : decode cX7_judgeCommand 75 = .ok (.iload_n 1, 1) := by decide +kernel
theorem dX7_judgeCommand_76 : decode cX7_judgeCommand 76 = .ok (.caload, 1) := by decide +kernel
theorem dX7_judgeCommand_77 : decode cX7_judgeCommand 77 = .ok (.iload_n 2, 1) := by decide +kernel
theorem dX7_judgeCommand_78 : decode cX7_judgeCommand 78 = .ok (.aload_n 0, 1) := by decide +kernel
theorem dX7_judgeCommand_79 : decode cX7_judgeCommand 79 = .ok (.getfield 32, 3) := by decide +kernel
theorem dX7_judgeCommand_82 : decode cX7_judgeCommand 82 = .ok (.getfield 397, 3) := by decide +kernel
theorem dX7_judgeCommand_85 : decode cX7_judgeCommand 85 = .ok (.iload_n 1, 1) := by decide +kernel
theorem dX7_judgeCommand_86 : decode cX7_judgeCommand 86 = .ok (.iaload, 1) := by decide +kernel
theorem dX7_judgeCommand_87 : decode cX7_judgeCommand 87 = .ok (.invokevirtual 47, 3) := by decide +kernel
theorem dX7_judgeCommand_90 : decode cX7_judgeCommand 90 = .ok (.ireturn, 1) := by decide +kernel
theorem dX7_judgeCommand_91 : decode cX7_judgeCommand 91 = .ok (.aload_n 0, 1) := by decide +kernel
theorem dX7_judgeCommand_92 : decode cX7_judgeCommand 92 = .ok (.getfield 16, 3) := by decide +kernel
theorem dX7_judgeCommand_95 : decode cX7_judgeCommand 95 = .ok (.iload_n 2, 1) := by decide +kernel
theorem dX7_judgeCommand_96 : decode cX7_judgeCommand 96 = .ok (.invokevirtual 66, 3) := by decide +kernel
theorem dX7_judgeCommand_99 : decode cX7_judgeCommand 99 = .ok (.ireturn, 1) := by decide +kernel
theorem dX7_judgeCommand_100 : decode cX7_judgeCommand 100 = .ok (.aload_n 0, 1) := by decide +kernel
theorem dX7_judgeCommand_101 : decode cX7_judgeCommand 101 = .ok (.getfield 16, 3) := by decide +kernel
theorem dX7_judgeCommand_104 : decode cX7_judgeCommand 104 = .ok (.iload_n 2, 1) := by decide +kernel
theorem dX7_judgeCommand_105 : decode cX7_judgeCommand 105 = .ok (.invokevirtual 141, 3) := by decide +kernel
theorem dX7_judgeCommand_108 : decode cX7_judgeCommand 108 = .ok (.ireturn, 1) := by decide +kernel
theorem dX7_judgeCommand_109 : decode cX7_judgeCommand 109 = .ok (.aload_n 0, 1) := by decide +kernel
theorem dX7_judgeCommand_110 : decode cX7_judgeCommand 110 = .ok (.getfield 16, 3) := by decide +kernel
theorem dX7_judgeCommand_113 : decode cX7_judgeCommand 113 = .ok (.invokevirtual 76, 3) := by decide +kernel
theorem dX7_judgeCommand_116 : decode cX7_judgeCommand 116 = .ok (.ireturn, 1) := by decide +kernel
theorem dX7_judgeCommand_117 : decode cX7_judgeCommand 117 = .ok (.aload_n 0, 1) := by decide +kernel
theorem dX7_judgeCommand_118 : decode cX7_judgeCommand 118 = .ok (.getfield 16, 3) := by decide +kernel
theorem dX7_judgeCommand_121 : decode cX7_judgeCommand 121 = .ok (.invokevirtual 83, 3) := by decide +kernel
theorem dX7_judgeCommand_124 : decode cX7_judgeCommand 124 = .ok (.ireturn, 1) := by decide +kernel
theorem dX7_judgeCommand_125 : decode cX7_judgeCommand 125 = .ok (.aload_n 0, 1) := by decide +kernel
theorem dX7_judgeCommand_126 : decode cX7_judgeCommand 126 = .ok (.getfield 16, 3) := by decide +kernel
theorem dX7_judgeCommand_129 : decode cX7_judgeCommand 129 = .ok (.iload_n 2, 1) := by decide +kernel
theorem dX7_judgeCommand_130 : decode cX7_judgeCommand 130 = .ok (.invokevirtual 89, 3) := by decide +kernel
theorem dX7_judgeCommand_133 : decode cX7_judgeCommand 133 = .ok (.ireturn, 1) := by decide +kernel
theorem dX7_judgeCommand_134 : decode cX7_judgeCommand 134 = .ok (.aload_n 0, 1) := by decide +kernel
theorem dX7_judgeCommand_135 : decode cX7_judgeCommand 135 = .ok (.getfield 16, 3) := by decide +kernel
theorem dX7_judgeCommand_138 : decode cX7_judgeCommand 138 = .ok (.iload_n 2, 1) := by decide +kernel
theorem dX7_judgeCommand_139 : decode cX7_judgeCommand 139 = .ok (.invokevirtual 174, 3) := by decide +kernel
theorem dX7_judgeCommand_142 : decode cX7_judgeCommand 142 = .ok (.ireturn, 1) := by decide +kernel
theorem dX7_judgeCommand_143 : decode cX7_judgeCommand 143 = .ok (.aload_n 0, 1) := by decide +kernel
theorem dX7_judgeCommand_144 : decode cX7_judgeCommand 144 = .ok (.getfield 16, 3) := by decide +kernel
theorem dX7_judgeCommand_147 : decode cX7_judgeCommand 147 = .ok (.iload_n 2, 1) := by decide +kernel
theorem dX7_judgeCommand_148 : decode cX7_judgeCommand 148 = .ok (.invokevirtual 180, 3) := by decide +kernel
theorem dX7_judgeCommand_151 : decode cX7_judgeCommand 151 = .ok (.ireturn, 1) := by decide +kernel
theorem dX7_judgeCommand_152 : decode cX7_judgeCommand 152 = .ok (.aload_n 0, 1) := by decide +kernel
theorem dX7_judgeCommand_153 : decode cX7_judgeCommand 153 = .ok (.getfield 16, 3) := by decide +kernel
theorem dX7_judgeCommand_156 : decode cX7_judgeCommand 156 = .ok (.iload_n 2, 1) := by decide +kernel
theorem dX7_judgeCommand_157 : decode cX7_judgeCommand 157 = .ok (.invokevirtual 196, 3) := by decide +kernel
theorem dX7_judgeCommand_160 : decode cX7_judgeCommand 160 = .ok (.ireturn, 1) := by decide +kernel
theorem dX7_carryOutCommand_0 : decode cX7_carryOutCommand 0 = .ok (.aload_n 0, 1) := by decide +kernel
theorem dX7_carryOutCommand_1 : decode cX7_carryOutCommand 1 = .ok (.getfield 32, 3) := by decide +kernel
theorem dX7_carryOutCommand_4 : decode cX7_carryOutCommand 4 = .ok (.getfield 390, 3) := by decide +kernel
theorem dX7_carryOutCommand_7 : decode cX7_carryOutCommand 7 = .ok (.iload_n 1, 1) := by decide +kernel
theorem dX7_carryOutCommand_8 : decode cX7_carryOutCommand 8 = .ok (.iaload, 1) := by decide +kernel
theorem dX7_carryOutCommand_9 : decode cX7_carryOutCommand 9 = .ok (.istore_n 2, 1) := by decide +kernel
theorem dX7_carryOutCommand_10 : decode cX7_carryOutCommand 10 = .ok (.aload_n 0, 1) := by decide +kernel
theorem dX7_carryOutCommand_11 : decode cX7_carryOutCommand 11 = .ok (.getfield 32, 3) := by decide +kernel
theorem dX7_carryOutCommand_14 : decode cX7_carryOutCommand 14 = .ok (.getfield 393, 3) := by decide +kernel
theorem dX7_carryOutCommand_17 : decode cX7_carryOutCommand 17 = .ok (.iload_n 1, 1) := by decide +kernel
theorem dX7_carryOutCommand_18 : decode cX7_carryOutCommand 18 = .ok (.iaload, 1) := by decide +kernel
theorem dX7_carryOutCommand_19 : decode cX7_carryOutCommand 19 = .ok (.tableswitch 157 0 7 #[45, 75, 87, 99, 110, 121, 133, 145], 45) := by decide +kernel
theorem dX7_carryOutCommand_64 : decode cX7_carryOutCommand 64 = .ok (.aload_n 0, 1) := by decide +kernel
theorem dX7_carryOutCommand_65 : decode cX7_carryOutCommand 65 = .ok (.getfield 16, 3) := by decide +kernel
theorem dX7_carryOutCommand_68 : decode cX7_carryOutCommand 68 = .ok (.aload_n 0, 1) := by decide +kernel
theorem dX7_carryOutCommand_69 : decode cX7_carryOutCommand 69 = .ok (.getfield 32, 3) := by decide +kernel
theorem dX7_carryOutCommand_72 : decode cX7_carryOutCommand 72 = .ok (.getfield 396, 3) := by decide +kernel
theorem dX7_carryOutCommand_75 : decode cX7_carryOutCommand 75 = .ok (.iload_n 1, 1) := by decide +kernel
theorem dX7_carryOutCommand_76 : decode cX7_carryOutCommand 76 = .ok (.caload, 1) := by decide +kernel
theorem dX7_carryOutCommand_77 : decode cX7_carryOutCommand 77 = .ok (.iload_n 2, 1) := by decide +kernel
theorem dX7_carryOutCommand_78 : decode cX7_carryOutCommand 78 = .ok (.aload_n 0, 1) := by decide +kernel
theorem dX7_carryOutCommand_79 : decode cX7_carryOutCommand 79 = .ok (.getfield 32, 3) := by decide +kernel
theorem dX7_carryOutCommand_82 : decode cX7_carryOutCommand 82 = .ok (.getfield 397, 3) := by decide +kernel
theorem dX7_carryOutCommand_85 : decode cX7_carryOutCommand 85 = .ok (.iload_n 1, 1) := by decide +kernel
theorem dX7_carryOutCommand_86 : decode cX7_carryOutCommand 86 = .ok (.iaload, 1) := by decide +kernel
theorem dX7_carryOutCommand_87 : decode cX7_carryOutCommand 87 = .ok (.invokevirtual 63, 3) := by decide +kernel
theorem dX7_carryOutCommand_90 : decode cX7_carryOutCommand 90 = .ok (.pop, 1) := by decide +kernel
theorem dX7_carryOutCommand_91 : decode cX7_carryOutCommand 91 = .ok (.goto 94, 3) := by decide +kernel
theorem dX7_carryOutCommand_94 : decode cX7_carryOutCommand 94 = .ok (.aload_n 0, 1) := by decide +kernel
theorem dX7_carryOutCommand_95 : decode cX7_carryOutCommand 95 = .ok (.getfield 16, 3) := by decide +kernel
theorem dX7_carryOutCommand_98 : decode cX7_carryOutCommand 98 = .ok (.iload_n 2, 1) := by decide +kernel
theorem dX7_carryOutCommand_99 : decode cX7_carryOutCommand 99 = .ok (.invokevirtual 73, 3) := by decide +kernel
theorem dX7_carryOutCommand_102 : decode cX7_carryOutCommand 102 = .ok (.pop, 1) := by decide +kernel
theorem dX7_carryOutCommand_103 : decode cX7_carryOutCommand 103 = .ok (.goto 82, 3) := by decide +kernel
theorem dX7_carryOutCommand_106 : decode cX7_carryOutCommand 106 = .ok (.aload_n 0, 1) := by decide +kernel
theorem dX7_carryOutCommand_107 : decode cX7_carryOutCommand 107 = .ok (.getfield 16, 3) := by decide +kernel
theorem dX7_carryOutCommand_110 : decode cX7_carryOutCommand 110 = .ok (.iload_n 2, 1) := by decide +kernel
theorem dX7_carryOutCommand_111 : decode cX7_carryOutCommand 111 = .ok (.invokevirtual 144, 3) := by decide +kernel
theorem dX7_carryOutCommand_114 : decode cX7_carryOutCommand 114 = .ok (.pop, 1) := by decide +kernel
theorem dX7_carryOutCommand_115 : decode cX7_carryOutCommand 115 = .ok (.goto 70, 3) := by decide +kernel
theorem dX7_carryOutCommand_118 : decode cX7_carryOutCommand 118 = .ok (.aload_n 0, 1) := by decide +kernel
theorem dX7_carryOutCommand_119 : decode cX7_carryOutCommand 119 = .ok (.getfield 16, 3) := by decide +kernel
theorem dX7_carryOutCommand_122 : decode cX7_carryOutCommand 122 = .ok (.invokevirtual 80, 3) := by decide +kernel
theorem dX7_carryOutCommand_125 : decode cX7_carryOutCommand 125 = .ok (.pop, 1) := by decide +kernel
theorem dX7_carryOutCommand_126 : decode cX7_carryOutCommand 126 = .ok (.goto 59, 3) := by decide +kernel
theorem dX7_carryOutCommand_129 : decode cX7_carryOutCommand 129 = .ok (.aload_n 0, 1) := by decide +kernel
theorem dX7_carryOutCommand_130 : decode cX7_carryOutCommand 130 = .ok (.getfield 16, 3) := by decide +kernel
theorem dX7_carryOutCommand_133 : decode cX7_carryOutCommand 133 = .ok (.invokevirtual 86, 3) := by decide +kernel
theorem dX7_carryOutCommand_136 : decode cX7_carryOutCommand 136 = .ok (.pop, 1) := by decide +kernel
theorem dX7_carryOutCommand_137 : decode cX7_carryOutCommand 137 = .ok (.goto 48, 3) := by decide +kernel
theorem dX7_carryOutCommand_140 : decode cX7_carryOutCommand 140 = .ok (.aload_n 0, 1) := by decide +kernel
theorem dX7_carryOutCommand_141 : decode cX7_carryOutCommand 141 = .ok (.getfield 16, 3) := by decide +kernel
theorem dX7_carryOutCommand_144 : decode cX7_carryOutCommand 144 = .ok (.iload_n 2, 1) := by decide +kernel
theorem dX7_carryOutCommand_145 : decode cX7_carryOutCommand 145 = .ok (.invokevirtual 92, 3) := by decide +kernel
theorem dX7_carryOutCommand_148 : decode cX7_carryOutCommand 148 = .ok (.pop, 1) := by decide +kernel
theorem dX7_carryOutCommand_149 : decode cX7_carryOutCommand 149 = .ok (.goto 36, 3) := by decide +kernel
theorem dX7_carryOutCommand_152 : decode cX7_carryOutCommand 152 = .ok (.aload_n 0, 1) := by decide +kernel
theorem dX7_carryOutCommand_153 : decode cX7_carryOutCommand 153 = .ok (.getfield 16, 3) := by decide +kernel
theorem dX7_carryOutCommand_156 : decode cX7_carryOutCommand 156 = .ok (.iload_n 2, 1) := by decide +kernel
theorem dX7_carryOutCommand_157 : decode cX7_carryOutCommand 157 = .ok (.invokevirtual 177, 3) := by decide +kernel
theorem dX7_carryOutCommand_160 : decode cX7_carryOutCommand 160 = .ok (.pop, 1) := by decide +kernel
theorem dX7_carryOutCommand_161 : decode cX7_carryOutCommand 161 = .ok (.goto 24, 3) := by decide +kernel
theorem dX7_carryOutCommand_164 : decode cX7_carryOutCommand 164 = .ok (.aload_n 0, 1) := by decide +kernel
theorem dX7_carryOutCommand_165 : decode cX7_carryOutCommand 165 = .ok (.getfield 16, 3) := by decide +kernel
theorem dX7_carryOutCommand_168 : decode cX7_carryOutCommand 168 = .ok (.iload_n 2, 1) := by decide +kernel
theorem dX7_carryOutCommand_169 : decode cX7_carryOutCommand 169 = .ok (.invokevirtual 192, 3) := by decide +kernel
theorem dX7_carryOutCommand_172 : decode cX7_carryOutCommand 172 = .ok (.pop, 1) := by decide +kernel
theorem dX7_carryOutCommand_173 : decode cX7_carryOutCommand 173 = .ok (.goto 12, 3) := by decide +kernel
theorem dX7_carryOutCommand_176 : decode cX7_carryOutCommand 176 = .ok (.aload_n 0, 1) := by decide +kernel
theorem dX7_carryOutCommand_177 : decode cX7_carryOutCommand 177 = .ok (.getfield 16, 3) := by decide +kernel
theorem dX7_carryOutCommand_180 : decode cX7_carryOutCommand 180 = .ok (.iload_n 2, 1) := by decide +kernel
theorem dX7_carryOutCommand_181 : decode cX7_carryOutCommand 181 = .ok (.invokevirtual 199, 3) := by decide +kernel
theorem dX7_carryOutCommand_184 : decode cX7_carryOutCommand 184 = .ok (.pop, 1) := by decide +kernel
theorem dX7_carryOutCommand_185 : decode cX7_carryOutCommand 185 = .ok (.return_, 1) := by decide +kernel
theorem dJ5_init_d00df_0 : decode cJ5_init_d00df 0 = .ok (.aload_n 0, 1) := by decide +kernel
theorem dJ5_init_d00df_1 : decode cJ5_init_d00df 1 = .ok (.invokespecial 3, 3) := by decide +kernel
theorem dJ5_init_d00df_4 : decode cJ5_init_d00df 4 = .ok (.getstatic 18, 3) := by decide +kernel
theorem dJ5_init_d00df_7 : decode cJ5_init_d00df 7 = .ok (.ifCond .eq 18, 3) := by decide +kernel
theorem dJ5_init_d00df_10 : decode cJ5_init_d00df 10 = .ok (.aload_n 0, 1) := by decide +kernel
theorem dJ5_init_d00df_11 : decode cJ5_init_d00df 11 = .ok (.iload_n 1, 1) := by decide +kernel
theorem dJ5_init_d00df_12 : decode cJ5_init_d00df 12 = .ok (.newarray .byte, 2) := by decide +kernel
theorem dJ5_init_d00df_14 : decode cJ5_init_d00df 14 = .ok (.putfield 15, 3) := by decide +kernel
theorem dJ5_init_d00df_17 : decode cJ5_init_d00df 17 = .ok (.aload_n 0, 1) := by decide +kernel
theorem dJ5_init_d00df_18 : decode cJ5_init_d00df 18 = .ok (.iconst 0, 1) := by decide +kernel
theorem dJ5_init_d00df_19 : decode cJ5_init_d00df 19 = .ok (.putfield 22, 3) := by decide +kernel
theorem dJ5_init_d00df_22 : decode cJ5_init_d00df 22 = .ok (.goto 16, 3) := by decide +kernel
theorem dJ5_init_d00df_25 : decode cJ5_init_d00df 25 = .ok (.aload_n 0, 1) := by decide +kernel
theorem dJ5_init_d00df_26 : decode cJ5_init_d00df 26 = .ok (.iload_n 1, 1) := by decide +kernel
theorem dJ5_init_d00df_27 : decode cJ5_init_d00df 27 = .ok (.invokestatic 26, 3) := by decide +kernel
theorem dJ5_init_d00df_30 : decode cJ5_init_d00df 30 = .ok (.putfield 15, 3) := by decide +kernel
theorem dJ5_init_d00df_33 : decode cJ5_init_d00df 33 = .ok (.aload_n 0, 1) := by decide +kernel
theorem dJ5_init_d00df_34 : decode cJ5_init_d00df 34 = .ok (.iconst 1, 1) := by decide +kernel
theorem dJ5_init_d00df_35 : decode cJ5_init_d00df 35 = .ok (.putfield 22, 3) := by decide +kernel
theorem dJ5_init_d00df_38 : decode cJ5_init_d00df 38 = .ok (.return_, 1) := by decide +kernel
theorem dJ5_length_8abf5_0 : decode cJ5_length_8abf5 0 = .ok (.aload_n 0, 1) := by decide +kernel
theorem dJ5_length_8abf5_1 : decode cJ5_length_8abf5 1 = .ok (.getfield 79, 3) := by decide +kernel
theorem dJ5_length_8abf5_4 : decode cJ5_length_8abf5 4 = .ok (.ireturn, 1) := by decide +kernel
theorem dJ5_ensureCapacityInternal_d00df_0 : decode cJ5_ensureCapacityInternal_d00df 0 = .ok (.aload_n 0, 1) := by decide +kernel
theorem dJ5_ensureCapacityInternal_d00df_1 : decode cJ5_ensureCapacityInternal_d00df 1 = .ok (.getfield 15, 3) := by decide +kernel
theorem dJ5_ensureCapacityInternal_d00df_4 : decode cJ5_ensureCapacityInternal_d00df 4 = .ok (.arraylength, 1) := by decide +kernel
theorem dJ5_ensureCapacityInternal_d00df_5 : decode cJ5_ensureCapacityInternal_d00df 5 = .ok (.aload_n 0, 1) := by decide +kernel
theorem dJ5_ensureCapacityInternal_d00df_6 : decode cJ5_ensureCapacityInternal_d00df 6 = .ok (.getfield 22, 3) := by decide +kernel
theorem dJ5_ensureCapacityInternal_d00df_9 : decode cJ5_ensureCapacityInternal_d00df 9 = .ok (.ishr, 1) := by decide +kernel
theorem dJ5_ensureCapacityInternal_d00df_10 : decode cJ5_ensureCapacityInternal_d00df 10 = .ok (.istore_n 2, 1) := by decide +kernel
theorem dJ5_ensureCapacityInternal_d00df_11 : decode cJ5_ensureCapacityInternal_d00df 11 = .ok (.iload_n 1, 1) := by decide +kernel
theorem dJ5_ensureCapacityInternal_d00df_12 : decode cJ5_ensureCapacityInternal_d00df 12 = .ok (.iload_n 2, 1) := by decide +kernel
theorem dJ5_ensureCapacityInternal_d00df_13 : decode cJ5_ensureCapacityInternal_d00df 13 = .ok (.isub, 1) := by decide +kernel
theorem dJ5_ensureCapacityInternal_d00df_14 : decode cJ5_ensureCapacityInternal_d00df 14 = .ok (.ifCond .le 24, 3) := by decide +kernel
theorem dJ5_ensureCapacityInternal_d00df_17 : decode cJ5_ensureCapacityInternal_d00df 17 = .ok (.aload_n 0, 1) := by decide +kernel
theorem dJ5_ensureCapacityInternal_d00df_18 : decode cJ5_ensureCapacityInternal_d00df 18 = .ok (.aload_n 0, 1) := by decide +kernel
theorem dJ5_ensureCapacityInternal_d00df_19 : decode cJ5_ensureCapacityInternal_d00df 19 = .ok (.getfield 15, 3) := by decide +kernel
theorem dJ5_ensureCapacityInternal_d00df_22 : decode cJ5_ensureCapacityInternal_d00df 22 = .ok (.aload_n 0, 1) := by decide +kernel
theorem dJ5_ensureCapacityInternal_d00df_23 : decode cJ5_ensureCapacityInternal_d00df 23 = .ok (.iload_n 1, 1) := by decide +kernel
theorem dJ5_ensureCapacityInternal_d00df_24 : decode cJ5_ensureCapacityInternal_d00df 24 = .ok (.invokevirtual 104, 3) := by decide +kernel
theorem dJ5_ensureCapacityInternal_d00df_27 : decode cJ5_ensureCapacityInternal_d00df 27 = .ok (.aload_n 0, 1) := by decide +kernel
theorem dJ5_ensureCapacityInternal_d00df_28 : decode cJ5_ensureCapacityInternal_d00df 28 = .ok (.getfield 22, 3) := by decide +kernel
theorem dJ5_ensureCapacityInternal_d00df_31 : decode cJ5_ensureCapacityInternal_d00df 31 = .ok (.ishl, 1) := by decide +kernel
theorem dJ5_ensureCapacityInternal_d00df_32 : decode cJ5_ensureCapacityInternal_d00df 32 = .ok (.invokestatic 108, 3) := by decide +kernel
theorem dJ5_ensureCapacityInternal_d00df_35 : decode cJ5_ensureCapacityInternal_d00df 35 = .ok (.putfield 15, 3) := by decide +kernel
theorem dJ5_ensureCapacityInternal_d00df_38 : decode cJ5_ensureCapacityInternal_d00df 38 = .ok (.return_, 1) := by decide +kernel
theorem dJ5_newCapacity_0f7a4_0 : decode cJ5_newCapacity_0f7a4 0 = .ok (.aload_n 0, 1) := by decide +kernel
theorem dJ5_newCapacity_0f7a4_1 : decode cJ5_newCapacity_0f7a4 1 = .ok (.getfield 15, 3) := by decide +kernel
theorem dJ5_newCapacity_0f7a4_4 : decode cJ5_newCapacity_0f7a4 4 = .ok (.arraylength, 1) := by decide +kernel
theorem dJ5_newCapacity_0f7a4_5 : decode cJ5_newCapacity_0f7a4 5 = .ok (.istore_n 2, 1) := by decide +kernel
theorem dJ5_newCapacity_0f7a4_6 : decode cJ5_newCapacity_0f7a4 6 = .ok (.iload_n 1, 1) := by decide +kernel
theorem dJ5_newCapacity_0f7a4_7 : decode cJ5_newCapacity_0f7a4 7 = .ok (.aload_n 0, 1) := by decide +kernel
theorem dJ5_newCapacity_0f7a4_8 : decode cJ5_newCapacity_0f7a4 8 = .ok (.getfield 22, 3) := by decide +kernel
theorem dJ5_newCapacity_0f7a4_11 : decode cJ5_newCapacity_0f7a4 11 = .ok (.ishl, 1) := by decide +kernel
theorem dJ5_newCapacity_0f7a4_12 : decode cJ5_newCapacity_0f7a4 12 = .ok (.istore_n 3, 1) := by decide +kernel
theorem dJ5_newCapacity_0f7a4_13 : decode cJ5_newCapacity_0f7a4 13 = .ok (.iload_n 3, 1) := by decide +kernel
theorem dJ5_newCapacity_0f7a4_14 : decode cJ5_newCapacity_0f7a4 14 = .ok (.iload_n 2, 1) := by decide +kernel
theorem dJ5_newCapacity_0f7a4_15 : decode cJ5_newCapacity_0f7a4 15 = .ok (.isub, 1) := by decide +kernel
theorem dJ5_newCapacity_0f7a4_16 : decode cJ5_newCapacity_0f7a4 16 = .ok (.istore 4, 2) := by decide +kernel
theorem dJ5_newCapacity_0f7a4_18 : decode cJ5_newCapacity_0f7a4 18 = .ok (.iload_n 2, 1) := by decide +kernel
theorem dJ5_newCapacity_0f7a4_19 : decode cJ5_newCapacity_0f7a4 19 = .ok (.iload 4, 2) := by decide +kernel
theorem dJ5_newCapacity_0f7a4_21 : decode cJ5_newCapacity_0f7a4 21 = .ok (.iload_n 2, 1) := by decide +kernel
theorem dJ5_newCapacity_0f7a4_22 : decode cJ5_newCapacity_0f7a4 22 = .ok (.iconst 2, 1) := by decide +kernel
theorem dJ5_newCapacity_0f7a4_23 : decode cJ5_newCapacity_0f7a4 23 = .ok (.aload_n 0, 1) := by decide +kernel
theorem dJ5_newCapacity_0f7a4_24 : decode cJ5_newCapacity_0f7a4 24 = .ok (.getfield 22, 3) := by decide +kernel
theorem dJ5_newCapacity_0f7a4_27 : decode cJ5_newCapacity_0f7a4 27 = .ok (.ishl, 1) := by decide +kernel
theorem dJ5_newCapacity_0f7a4_28 : decode cJ5_newCapacity_0f7a4 28 = .ok (.iadd, 1) := by decide +kernel
theorem dJ5_newCapacity_0f7a4_29 : decode cJ5_newCapacity_0f7a4 29 = .ok (.invokestatic 114, 3) := by decide +kernel
theorem dJ5_newCapacity_0f7a4_32 : decode cJ5_newCapacity_0f7a4 32 = .ok (.istore 5, 2) := by decide +kernel
theorem dJ5_newCapacity_0f7a4_34 : decode cJ5_newCapacity_0f7a4 34 = .ok (.iload 5, 2) := by decide +kernel
theorem dJ5_newCapacity_0f7a4_36 : decode cJ5_newCapacity_0f7a4 36 = .ok (.ldc 39, 2) := by decide +kernel
theorem dJ5_newCapacity_0f7a4_38 : decode cJ5_newCapacity_0f7a4 38 = .ok (.if_icmp .ne 13, 3) := by decide +kernel
theorem dJ5_newCapacity_0f7a4_41 : decode cJ5_newCapacity_0f7a4 41 = .ok (.new 120, 3) := by decide +kernel
theorem dJ5_newCapacity_0f7a4_44 : decode cJ5_newCapacity_0f7a4 44 = .ok (.dup, 1) := by decide +kernel
theorem dJ5_newCapacity_0f7a4_45 : decode cJ5_newCapacity_0f7a4 45 = .ok (.ldc 122, 2) := by decide +kernel
theorem dJ5_newCapacity_0f7a4_47 : decode cJ5_newCapacity_0f7a4 47 = .ok (.invokespecial 124, 3) := by decide +kernel
theorem dJ5_newCapacity_0f7a4_50 : decode cJ5_newCapacity_0f7a4 50 = .ok (.athrow, 1) := by decide +kernel
theorem dJ5_newCapacity_0f7a4_51 : decode cJ5_newCapacity_0f7a4 51 = .ok (.iload 5, 2) := by decide +kernel
theorem dJ5_newCapacity_0f7a4_53 : decode cJ5_newCapacity_0f7a4 53 = .ok (.aload_n 0, 1) := by decide +kernel
theorem dJ5_newCapacity_0f7a4_54 : decode cJ5_newCapacity_0f7a4 54 = .ok (.getfield 22, 3) := by decide +kernel
theorem dJ5_newCapacity_0f7a4_57 : decode cJ5_newCapacity_0f7a4 57 = .ok (.ishr, 1) := by decide +kernel
theorem dJ5_newCapacity_0f7a4_58 : decode cJ5_newCapacity_0f7a4 58 = .ok (.ireturn, 1) := by decide +kernel
theorem dJ5_inflate_da8c8_0 : decode cJ5_inflate_da8c8 0 = .ok (.aload_n 0, 1) := by decide +kernel
theorem dJ5_inflate_da8c8_1 : decode cJ5_inflate_da8c8 1 = .ok (.invokevirtual 83, 3) := by decide +kernel
theorem dJ5_inflate_da8c8_4 : decode cJ5_inflate_da8c8 4 = .ok (.ifCond .ne 4, 3) := by decide +kernel
theorem dJ5_inflate_da8c8_7 : decode cJ5_inflate_da8c8 7 = .ok (.return_, 1) := by decide +kernel
theorem dJ5_inflate_da8c8_8 : decode cJ5_inflate_da8c8 8 = .ok (.aload_n 0, 1) := by decide +kernel
theorem dJ5_inflate_da8c8_9 : decode cJ5_inflate_da8c8 9 = .ok (.getfield 15, 3) := by decide +kernel
theorem dJ5_inflate_da8c8_12 : decode cJ5_inflate_da8c8 12 = .ok (.arraylength, 1) := by decide +kernel
theorem dJ5_inflate_da8c8_13 : decode cJ5_inflate_da8c8 13 = .ok (.invokestatic 26, 3) := by decide +kernel
theorem dJ5_inflate_da8c8_16 : decode cJ5_inflate_da8c8 16 = .ok (.astore_n 1, 1) := by decide +kernel
theorem dJ5_inflate_da8c8_17 : decode cJ5_inflate_da8c8 17 = .ok (.aload_n 0, 1) := by decide +kernel
theorem dJ5_inflate_da8c8_18 : decode cJ5_inflate_da8c8 18 = .ok (.getfield 15, 3) := by decide +kernel
theorem dJ5_inflate_da8c8_21 : decode cJ5_inflate_da8c8 21 = .ok (.iconst 0, 1) := by decide +kernel
theorem dJ5_inflate_da8c8_22 : decode cJ5_inflate_da8c8 22 = .ok (.aload_n 1, 1) := by decide +kernel
theorem dJ5_inflate_da8c8_23 : decode cJ5_inflate_da8c8 23 = .ok (.iconst 0, 1) := by decide +kernel
theorem dJ5_inflate_da8c8_24 : decode cJ5_inflate_da8c8 24 = .ok (.aload_n 0, 1) := by decide +kernel
theorem dJ5_inflate_da8c8_25 : decode cJ5_inflate_da8c8 25 = .ok (.getfield 79, 3) := by decide +kernel
theorem dJ5_inflate_da8c8_28 : decode cJ5_inflate_da8c8 28 = .ok (.invokestatic 125, 3) := by decide +kernel
theorem dJ5_inflate_da8c8_31 : decode cJ5_inflate_da8c8 31 = .ok (.aload_n 0, 1) := by decide +kernel
theorem dJ5_inflate_da8c8_32 : decode cJ5_inflate_da8c8 32 = .ok (.aload_n 1, 1) := by decide +kernel
theorem dJ5_inflate_da8c8_33 : decode cJ5_inflate_da8c8 33 = .ok (.putfield 15, 3) := by decide +kernel
theorem dJ5_inflate_da8c8_36 : decode cJ5_inflate_da8c8 36 = .ok (.aload_n 0, 1) := by decide +kernel
theorem dJ5_inflate_da8c8_37 : decode cJ5_inflate_da8c8 37 = .ok (.iconst 1, 1) := by decide +kernel
theorem dJ5_inflate_da8c8_38 : decode cJ5_inflate_da8c8 38 = .ok (.putfield 22, 3) := by decide +kernel
theorem dJ5_inflate_da8c8_41 : decode cJ5_inflate_da8c8 41 = .ok (.return_, 1) := by decide +kernel
theorem dJ5_setLength_d00df_0 : decode cJ5_setLength_d00df 0 = .ok (.iload_n 1, 1) := by decide +kernel
theorem dJ5_setLength_d00df_1 : decode cJ5_setLength_d00df 1 = .ok (.ifCond .ge 12, 3) := by decide +kernel
theorem dJ5_setLength_d00df_4 : decode cJ5_setLength_d00df 4 = .ok (.new 129, 3) := by decide +kernel
theorem dJ5_setLength_d00df_7 : decode cJ5_setLength_d00df 7 = .ok (.dup, 1) := by decide +kernel
theorem dJ5_setLength_d00df_8 : decode cJ5_setLength_d00df 8 = .ok (.iload_n 1, 1) := by decide +kernel
theorem dJ5_setLength_d00df_9 : decode cJ5_setLength_d00df 9 = .ok (.invokespecial 131, 3) := by decide +kernel
theorem dJ5_setLength_d00df_12 : decode cJ5_setLength_d00df 12 = .ok (.athrow, 1) := by decide +kernel
theorem dJ5_setLength_d00df_13 : decode cJ5_setLength_d00df 13 = .ok (.aload_n 0, 1) := by decide +kernel
theorem dJ5_setLength_d00df_14 : decode cJ5_setLength_d00df 14 = .ok (.iload_n 1, 1) := by decide +kernel
theorem dJ5_setLength_d00df_15 : decode cJ5_setLength_d00df 15 = .ok (.invokevirtual 100, 3) := by decide +kernel
theorem dJ5_setLength_d00df_18 : decode cJ5_setLength_d00df 18 = .ok (.aload_n 0, 1) := by decide +kernel
theorem dJ5_setLength_d00df_19 : decode cJ5_setLength_d00df 19 = .ok (.getfield 79, 3) := by decide +kernel
theorem dJ5_setLength_d00df_22 : decode cJ5_setLength_d00df 22 = .ok (.iload_n 1, 1) := by decide +kernel
theorem dJ5_setLength_d00df_23 : decode cJ5_setLength_d00df 23 = .ok (.if_icmp .ge 40, 3) := by decide +kernel
theorem dJ5_setLength_d00df_26 : decode cJ5_setLength_d00df 26 = .ok (.aload_n 0, 1) := by decide +kernel
theorem dJ5_setLength_d00df_27 : decode cJ5_setLength_d00df 27 = .ok (.invokevirtual 83, 3) := by decide +kernel
theorem dJ5_setLength_d00df_30 : decode cJ5_setLength_d00df 30 = .ok (.ifCond .eq 18, 3) := by decide +kernel
theorem dJ5_setLength_d00df_33 : decode cJ5_setLength_d00df 33 = .ok (.aload_n 0, 1) := by decide +kernel
theorem dJ5_setLength_d00df_34 : decode cJ5_setLength_d00df 34 = .ok (.getfield 15, 3) := by decide +kernel
theorem dJ5_setLength_d00df_37 : decode cJ5_setLength_d00df 37 = .ok (.aload_n 0, 1) := by decide +kernel
theorem dJ5_setLength_d00df_38 : decode cJ5_setLength_d00df 38 = .ok (.getfield 79, 3) := by decide +kernel
theorem dJ5_setLength_d00df_41 : decode cJ5_setLength_d00df 41 = .ok (.iload_n 1, 1) := by decide +kernel
theorem dJ5_setLength_d00df_42 : decode cJ5_setLength_d00df 42 = .ok (.invokestatic 133, 3) := by decide +kernel
theorem dJ5_setLength_d00df_45 : decode cJ5_setLength_d00df 45 = .ok (.goto 31, 3) := by decide +kernel
theorem dJ5_setLength_d00df_48 : decode cJ5_setLength_d00df 48 = .ok (.aload_n 0, 1) := by decide +kernel
theorem dJ5_setLength_d00df_49 : decode cJ5_setLength_d00df 49 = .ok (.getfield 15, 3) := by decide +kernel
theorem dJ5_setLength_d00df_52 : decode cJ5_setLength_d00df 52 = .ok (.aload_n 0, 1) := by decide +kernel
theorem dJ5_setLength_d00df_53 : decode cJ5_setLength_d00df 53 = .ok (.getfield 79, 3) := by decide +kernel
theorem dJ5_setLength_d00df_56 : decode cJ5_setLength_d00df 56 = .ok (.iload_n 1, 1) := by decide +kernel
theorem dJ5_setLength_d00df_57 : decode cJ5_setLength_d00df 57 = .ok (.invokestatic 137, 3) := by decide +kernel
theorem dJ5_setLength_d00df_60 : decode cJ5_setLength_d00df 60 = .ok (.goto 16, 3) := by decide +kernel
theorem dJ5_setLength_d00df_63 : decode cJ5_setLength_d00df 63 = .ok (.aload_n 0, 1) := by decide +kernel
theorem dJ5_setLength_d00df_64 : decode cJ5_setLength_d00df 64 = .ok (.getfield 79, 3) := by decide +kernel
theorem dJ5_setLength_d00df_67 : decode cJ5_setLength_d00df 67 = .ok (.iload_n 1, 1) := by decide +kernel
theorem dJ5_setLength_d00df_68 : decode cJ5_setLength_d00df 68 = .ok (.if_icmp .le 8, 3) := by decide +kernel
theorem dJ5_setLength_d00df_71 : decode cJ5_setLength_d00df 71 = .ok (.aload_n 0, 1) := by decide +kernel
theorem dJ5_setLength_d00df_72 : decode cJ5_setLength_d00df 72 = .ok (.iconst 1, 1) := by decide +kernel
theorem dJ5_setLength_d00df_73 : decode cJ5_setLength_d00df 73 = .ok (.putfield 73, 3) := by decide +kernel
theorem dJ5_setLength_d00df_76 : decode cJ5_setLength_d00df 76 = .ok (.aload_n 0, 1) := by decide +kernel
theorem dJ5_setLength_d00df_77 : decode cJ5_setLength_d00df 77 = .ok (.iload_n 1, 1) := by decide +kernel
theorem dJ5_setLength_d00df_78 : decode cJ5_setLength_d00df 78 = .ok (.putfield 79, 3) := by decide +kernel
theorem dJ5_setLength_d00df_81 : decode cJ5_setLength_d00df 81 = .ok (.return_, 1) := by decide +kernel
theorem dJ5_append_cf1ce_0 : decode cJ5_append_cf1ce 0 = .ok (.aload_n 1, 1) := by decide +kernel
theorem dJ5_append_cf1ce_1 : decode cJ5_append_cf1ce 1 = .ok (.ifnonnull 8, 3) := by decide +kernel
theorem dJ5_append_cf1ce_4 : decode cJ5_append_cf1ce 4 = .ok (.aload_n 0, 1) := by decide +kernel
theorem dJ5_append_cf1ce_5 : decode cJ5_append_cf1ce 5 = .ok (.invokevirtual 204, 3) := by decide +kernel
theorem dJ5_append_cf1ce_8 : decode cJ5_append_cf1ce 8 = .ok (.areturn, 1) := by decide +kernel
theorem dJ5_append_cf1ce_9 : decode cJ5_append_cf1ce 9 = .ok (.aload_n 1, 1) := by decide +kernel
theorem dJ5_append_cf1ce_10 : decode cJ5_append_cf1ce 10 = .ok (.invokevirtual 32, 3) := by decide +kernel
theorem dJ5_append_cf1ce_13 : decode cJ5_append_cf1ce 13 = .ok (.istore_n 2, 1) := by decide +kernel
theorem dJ5_append_cf1ce_14 : decode cJ5_append_cf1ce 14 = .ok (.aload_n 0, 1) := by decide +kernel
theorem dJ5_append_cf1ce_15 : decode cJ5_append_cf1ce 15 = .ok (.aload_n 0, 1) := by decide +kernel
theorem dJ5_append_cf1ce_16 : decode cJ5_append_cf1ce 16 = .ok (.getfield 79, 3) := by decide +kernel
theorem dJ5_append_cf1ce_19 : decode cJ5_append_cf1ce 19 = .ok (.iload_n 2, 1) := by decide +kernel
theorem dJ5_append_cf1ce_20 : decode cJ5_append_cf1ce 20 = .ok (.iadd, 1) := by decide +kernel
theorem dJ5_append_cf1ce_21 : decode cJ5_append_cf1ce 21 = .ok (.invokevirtual 100, 3) := by decide +kernel
theorem dJ5_append_cf1ce_24 : decode cJ5_append_cf1ce 24 = .ok (.aload_n 0, 1) := by decide +kernel
theorem dJ5_append_cf1ce_25 : decode cJ5_append_cf1ce 25 = .ok (.aload_n 0, 1) := by decide +kernel
theorem dJ5_append_cf1ce_26 : decode cJ5_append_cf1ce 26 = .ok (.getfield 79, 3) := by decide +kernel
theorem dJ5_append_cf1ce_29 : decode cJ5_append_cf1ce 29 = .ok (.aload_n 1, 1) := by decide +kernel
theorem dJ5_append_cf1ce_30 : decode cJ5_append_cf1ce 30 = .ok (.invokevirtual 208, 3) := by decide +kernel
theorem dJ5_append_cf1ce_33 : decode cJ5_append_cf1ce 33 = .ok (.aload_n 0, 1) := by decide +kernel
theorem dJ5_append_cf1ce_34 : decode cJ5_append_cf1ce 34 = .ok (.dup, 1) := by decide +kernel
theorem dJ5_append_cf1ce_35 : decode cJ5_append_cf1ce 35 = .ok (.getfield 79, 3) := by decide +kernel
theorem dJ5_append_cf1ce_38 : decode cJ5_append_cf1ce 38 = .ok (.iload_n 2, 1) := by decide +kernel
theorem dJ5_append_cf1ce_39 : decode cJ5_append_cf1ce 39 = .ok (.iadd, 1) := by decide +kernel
theorem dJ5_append_cf1ce_40 : decode cJ5_append_cf1ce 40 = .ok (.putfield 79, 3) := by decide +kernel
theorem dJ5_append_cf1ce_43 : decode cJ5_append_cf1ce 43 = .ok (.aload_n 0, 1) := by decide +kernel
theorem dJ5_append_cf1ce_44 : decode cJ5_append_cf1ce 44 = .ok (.areturn, 1) := by decide +kernel
theorem dJ5_appendNull_278bc_0 : decode cJ5_appendNull_278bc 0 = .ok (.aload_n 0, 1) := by decide +kernel
theorem dJ5_appendNull_278bc_1 : decode cJ5_appendNull_278bc 1 = .ok (.aload_n 0, 1) := by decide +kernel
theorem dJ5_appendNull_278bc_2 : decode cJ5_appendNull_278bc 2 = .ok (.getfield 79, 3) := by decide +kernel
theorem dJ5_appendNull_278bc_5 : decode cJ5_appendNull_278bc 5 = .ok (.iconst 4, 1) := by decide +kernel
theorem dJ5_appendNull_278bc_6 : decode cJ5_appendNull_278bc 6 = .ok (.iadd, 1) := by decide +kernel
theorem dJ5_appendNull_278bc_7 : decode cJ5_appendNull_278bc 7 = .ok (.invokevirtual 100, 3) := by decide +kernel
theorem dJ5_appendNull_278bc_10 : decode cJ5_appendNull_278bc 10 = .ok (.aload_n 0, 1) := by decide +kernel
theorem dJ5_appendNull_278bc_11 : decode cJ5_appendNull_278bc 11 = .ok (.getfield 79, 3) := by decide +kernel
theorem dJ5_appendNull_278bc_14 : decode cJ5_appendNull_278bc 14 = .ok (.istore_n 1, 1) := by decide +kernel
theorem dJ5_appendNull_278bc_15 : decode cJ5_appendNull_278bc 15 = .ok (.aload_n 0, 1) := by decide +kernel
theorem dJ5_appendNull_278bc_16 : decode cJ5_appendNull_278bc 16 = .ok (.getfield 15, 3) := by decide +kernel
theorem dJ5_appendNull_278bc_19 : decode cJ5_appendNull_278bc 19 = .ok (.astore_n 2, 1) := by decide +kernel
theorem dJ5_appendNull_278bc_20 : decode cJ5_appendNull_278bc 20 = .ok (.aload_n 0, 1) := by decide +kernel
theorem dJ5_appendNull_278bc_21 : decode cJ5_appendNull_278bc 21 = .ok (.invokevirtual 83, 3) := by decide +kernel
theorem dJ5_appendNull_278bc_24 : decode cJ5_appendNull_278bc 24 = .ok (.ifCond .eq 38, 3) := by decide +kernel
theorem dJ5_appendNull_278bc_27 : decode cJ5_appendNull_278bc 27 = .ok (.aload_n 2, 1) := by decide +kernel
theorem dJ5_appendNull_278bc_28 : decode cJ5_appendNull_278bc 28 = .ok (.iload_n 1, 1) := by decide +kernel
theorem dJ5_appendNull_278bc_29 : decode cJ5_appendNull_278bc 29 = .ok (.iinc 1 1, 3) := by decide +kernel
theorem dJ5_appendNull_278bc_32 : decode cJ5_appendNull_278bc 32 = .ok (.bipush 110, 2) := by decide +kernel
theorem dJ5_appendNull_278bc_34 : decode cJ5_appendNull_278bc 34 = .ok (.bastore, 1) := by decide +kernel
theorem dJ5_appendNull_278bc_35 : decode cJ5_appendNull_278bc 35 = .ok (.aload_n 2, 1) := by decide +kernel
theorem dJ5_appendNull_278bc_36 : decode cJ5_appendNull_278bc 36 = .ok (.iload_n 1, 1) := by decide +kernel
theorem dJ5_appendNull_278bc_37 : decode cJ5_appendNull_278bc 37 = .ok (.iinc 1 1, 3) := by decide +kernel
theorem dJ5_appendNull_278bc_40 : decode cJ5_appendNull_278bc 40 = .ok (.bipush 117, 2) := by decide +kernel
theorem dJ5_appendNull_278bc_42 : decode cJ5_appendNull_278bc 42 = .ok (.bastore, 1) := by decide +kernel
theorem dJ5_appendNull_278bc_43 : decode cJ5_appendNull_278bc 43 = .ok (.aload_n 2, 1) := by decide +kernel
theorem dJ5_appendNull_278bc_44 : decode cJ5_appendNull_278bc 44 = .ok (.iload_n 1, 1) := by decide +kernel
theorem dJ5_appendNull_278bc_45 : decode cJ5_appendNull_278bc 45 = .ok (.iinc 1 1, 3) := by decide +kernel
theorem dJ5_appendNull_278bc_48 : decode cJ5_appendNull_278bc 48 = .ok (.bipush 108, 2) := by decide +kernel
theorem dJ5_appendNull_278bc_50 : decode cJ5_appendNull_278bc 50 = .ok (.bastore, 1) := by decide +kernel
theorem dJ5_appendNull_278bc_51 : decode cJ5_appendNull_278bc 51 = .ok (.aload_n 2, 1) := by decide +kernel
theorem dJ5_appendNull_278bc_52 : decode cJ5_appendNull_278bc 52 = .ok (.iload_n 1, 1) := by decide +kernel
theorem dJ5_appendNull_278bc_53 : decode cJ5_appendNull_278bc 53 = .ok (.iinc 1 1, 3) := by decide +kernel
theorem dJ5_appendNull_278bc_56 : decode cJ5_appendNull_278bc 56 = .ok (.bipush 108, 2) := by decide +kernel
theorem dJ5_appendNull_278bc_58 : decode cJ5_appendNull_278bc 58 = .ok (.bastore, 1) := by decide +kernel
theorem dJ5_appendNull_278bc_59 : decode cJ5_appendNull_278bc 59 = .ok (.goto 17, 3) := by decide +kernel
theorem dJ5_appendNull_278bc_62 : decode cJ5_appendNull_278bc 62 = .ok (.aload_n 2, 1) := by decide +kernel
theorem dJ5_appendNull_278bc_63 : decode cJ5_appendNull_278bc 63 = .ok (.iload_n 1, 1) := by decide +kernel
theorem dJ5_appendNull_278bc_64 : decode cJ5_appendNull_278bc 64 = .ok (.bipush 110, 2) := by decide +kernel
theorem dJ5_appendNull_278bc_66 : decode cJ5_appendNull_278bc 66 = .ok (.bipush 117, 2) := by decide +kernel
theorem dJ5_appendNull_278bc_68 : decode cJ5_appendNull_278bc 68 = .ok (.bipush 108, 2) := by decide +kernel
theorem dJ5_appendNull_278bc_70 : decode cJ5_appendNull_278bc 70 = .ok (.bipush 108, 2) := by decide +kernel
theorem dJ5_appendNull_278bc_72 : decode cJ5_appendNull_278bc 72 = .ok (.invokestatic 226, 3) := by decide +kernel
theorem dJ5_appendNull_278bc_75 : decode cJ5_appendNull_278bc 75 = .ok (.istore_n 1, 1) := by decide +kernel
theorem dJ5_appendNull_278bc_76 : decode cJ5_appendNull_278bc 76 = .ok (.aload_n 0, 1) := by decide +kernel
theorem dJ5_appendNull_278bc_77 : decode cJ5_appendNull_278bc 77 = .ok (.iload_n 1, 1) := by decide +kernel
theorem dJ5_appendNull_278bc_78 : decode cJ5_appendNull_278bc 78 = .ok (.putfield 79, 3) := by decide +kernel
theorem dJ5_appendNull_278bc_81 : decode cJ5_appendNull_278bc 81 = .ok (.aload_n 0, 1) := by decide +kernel
theorem dJ5_appendNull_278bc_82 : decode cJ5_appendNull_278bc 82 = .ok (.areturn, 1) := by decide +kernel
theorem dJ5_append_3fe6f_0 : decode cJ5_append_3fe6f 0 = .ok (.aload_n 0, 1) := by decide +kernel
theorem dJ5_append_3fe6f_1 : decode cJ5_append_3fe6f 1 = .ok (.aload_n 0, 1) := by decide +kernel
theorem dJ5_append_3fe6f_2 : decode cJ5_append_3fe6f 2 = .ok (.getfield 79, 3) := by decide +kernel
theorem dJ5_append_3fe6f_5 : decode cJ5_append_3fe6f 5 = .ok (.iconst 1, 1) := by decide +kernel
theorem dJ5_append_3fe6f_6 : decode cJ5_append_3fe6f 6 = .ok (.iadd, 1) := by decide +kernel
theorem dJ5_append_3fe6f_7 : decode cJ5_append_3fe6f 7 = .ok (.invokevirtual 100, 3) := by decide +kernel
theorem dJ5_append_3fe6f_10 : decode cJ5_append_3fe6f 10 = .ok (.aload_n 0, 1) := by decide +kernel
theorem dJ5_append_3fe6f_11 : decode cJ5_append_3fe6f 11 = .ok (.invokevirtual 83, 3) := by decide +kernel
theorem dJ5_append_3fe6f_14 : decode cJ5_append_3fe6f 14 = .ok (.ifCond .eq 31, 3) := by decide +kernel
theorem dJ5_append_3fe6f_17 : decode cJ5_append_3fe6f 17 = .ok (.iload_n 1, 1) := by decide +kernel
theorem dJ5_append_3fe6f_18 : decode cJ5_append_3fe6f 18 = .ok (.invokestatic 191, 3) := by decide +kernel
theorem dJ5_append_3fe6f_21 : decode cJ5_append_3fe6f 21 = .ok (.ifCond .eq 24, 3) := by decide +kernel
theorem dJ5_append_3fe6f_24 : decode cJ5_append_3fe6f 24 = .ok (.aload_n 0, 1) := by decide +kernel
theorem dJ5_append_3fe6f_25 : decode cJ5_append_3fe6f 25 = .ok (.getfield 15, 3) := by decide +kernel
theorem dJ5_append_3fe6f_28 : decode cJ5_append_3fe6f 28 = .ok (.aload_n 0, 1) := by decide +kernel
theorem dJ5_append_3fe6f_29 : decode cJ5_append_3fe6f 29 = .ok (.dup, 1) := by decide +kernel
theorem dJ5_append_3fe6f_30 : decode cJ5_append_3fe6f 30 = .ok (.getfield 79, 3) := by decide +kernel
theorem dJ5_append_3fe6f_33 : decode cJ5_append_3fe6f 33 = .ok (.dup_x1, 1) := by decide +kernel
theorem dJ5_append_3fe6f_34 : decode cJ5_append_3fe6f 34 = .ok (.iconst 1, 1) := by decide +kernel
theorem dJ5_append_3fe6f_35 : decode cJ5_append_3fe6f 35 = .ok (.iadd, 1) := by decide +kernel
theorem dJ5_append_3fe6f_36 : decode cJ5_append_3fe6f 36 = .ok (.putfield 79, 3) := by decide +kernel
theorem dJ5_append_3fe6f_39 : decode cJ5_append_3fe6f 39 = .ok (.iload_n 1, 1) := by decide +kernel
theorem dJ5_append_3fe6f_40 : decode cJ5_append_3fe6f 40 = .ok (.i2b, 1) := by decide +kernel
theorem dJ5_append_3fe6f_41 : decode cJ5_append_3fe6f 41 = .ok (.bastore, 1) := by decide +kernel
theorem dJ5_append_3fe6f_42 : decode cJ5_append_3fe6f 42 = .ok (.goto 33, 3) := by decide +kernel
theorem dJ5_append_3fe6f_45 : decode cJ5_append_3fe6f 45 = .ok (.aload_n 0, 1) := by decide +kernel
theorem dJ5_append_3fe6f_46 : decode cJ5_append_3fe6f 46 = .ok (.invokevirtual 83, 3) := by decide +kernel
theorem dJ5_append_3fe6f_49 : decode cJ5_append_3fe6f 49 = .ok (.ifCond .eq 7, 3) := by decide +kernel
theorem dJ5_append_3fe6f_52 : decode cJ5_append_3fe6f 52 = .ok (.aload_n 0, 1) := by decide +kernel
theorem dJ5_append_3fe6f_53 : decode cJ5_append_3fe6f 53 = .ok (.invokevirtual 195, 3) := by decide +kernel
theorem dJ5_append_3fe6f_56 : decode cJ5_append_3fe6f 56 = .ok (.aload_n 0, 1) := by decide +kernel
theorem dJ5_append_3fe6f_57 : decode cJ5_append_3fe6f 57 = .ok (.getfield 15, 3) := by decide +kernel
theorem dJ5_append_3fe6f_60 : decode cJ5_append_3fe6f 60 = .ok (.aload_n 0, 1) := by decide +kernel
theorem dJ5_append_3fe6f_61 : decode cJ5_append_3fe6f 61 = .ok (.dup, 1) := by decide +kernel
theorem dJ5_append_3fe6f_62 : decode cJ5_append_3fe6f 62 = .ok (.getfield 79, 3) := by decide +kernel
theorem dJ5_append_3fe6f_65 : decode cJ5_append_3fe6f 65 = .ok (.dup_x1, 1) := by decide +kernel
theorem dJ5_append_3fe6f_66 : decode cJ5_append_3fe6f 66 = .ok (.iconst 1, 1) := by decide +kernel
theorem dJ5_append_3fe6f_67 : decode cJ5_append_3fe6f 67 = .ok (.iadd, 1) := by decide +kernel
theorem dJ5_append_3fe6f_68 : decode cJ5_append_3fe6f 68 = .ok (.putfield 79, 3) := by decide +kernel
theorem dJ5_append_3fe6f_71 : decode cJ5_append_3fe6f 71 = .ok (.iload_n 1, 1) := by decide +kernel
theorem dJ5_append_3fe6f_72 : decode cJ5_append_3fe6f 72 = .ok (.invokestatic 197, 3) := by decide +kernel
theorem dJ5_append_3fe6f_75 : decode cJ5_append_3fe6f 75 = .ok (.aload_n 0, 1) := by decide +kernel
theorem dJ5_append_3fe6f_76 : decode cJ5_append_3fe6f 76 = .ok (.areturn, 1) := by decide +kernel
theorem dJ5_append_c97b9_0 : decode cJ5_append_c97b9 0 = .ok (.aload_n 0, 1) := by decide +kernel
theorem dJ5_append_c97b9_1 : decode cJ5_append_c97b9 1 = .ok (.getfield 79, 3) := by decide +kernel
theorem dJ5_append_c97b9_4 : decode cJ5_append_c97b9 4 = .ok (.istore_n 2, 1) := by decide +kernel
theorem dJ5_append_c97b9_5 : decode cJ5_append_c97b9 5 = .ok (.iload_n 2, 1) := by decide +kernel
theorem dJ5_append_c97b9_6 : decode cJ5_append_c97b9 6 = .ok (.iload_n 1, 1) := by decide +kernel
theorem dJ5_append_c97b9_7 : decode cJ5_append_c97b9 7 = .ok (.invokestatic 245, 3) := by decide +kernel
theorem dJ5_append_c97b9_10 : decode cJ5_append_c97b9 10 = .ok (.iadd, 1) := by decide +kernel
theorem dJ5_append_c97b9_11 : decode cJ5_append_c97b9 11 = .ok (.istore_n 3, 1) := by decide +kernel
theorem dJ5_append_c97b9_12 : decode cJ5_append_c97b9 12 = .ok (.aload_n 0, 1) := by decide +kernel
theorem dJ5_append_c97b9_13 : decode cJ5_append_c97b9 13 = .ok (.iload_n 3, 1) := by decide +kernel
theorem dJ5_append_c97b9_14 : decode cJ5_append_c97b9 14 = .ok (.invokevirtual 100, 3) := by decide +kernel
theorem dJ5_append_c97b9_17 : decode cJ5_append_c97b9 17 = .ok (.aload_n 0, 1) := by decide +kernel
theorem dJ5_append_c97b9_18 : decode cJ5_append_c97b9 18 = .ok (.invokevirtual 83, 3) := by decide +kernel
theorem dJ5_append_c97b9_21 : decode cJ5_append_c97b9 21 = .ok (.ifCond .eq 16, 3) := by decide +kernel
theorem dJ5_append_c97b9_24 : decode cJ5_append_c97b9 24 = .ok (.iload_n 1, 1) := by decide +kernel
theorem dJ5_append_c97b9_25 : decode cJ5_append_c97b9 25 = .ok (.iload_n 3, 1) := by decide +kernel
theorem dJ5_append_c97b9_26 : decode cJ5_append_c97b9 26 = .ok (.aload_n 0, 1) := by decide +kernel
theorem dJ5_append_c97b9_27 : decode cJ5_append_c97b9 27 = .ok (.getfield 15, 3) := by decide +kernel
theorem dJ5_append_c97b9_30 : decode cJ5_append_c97b9 30 = .ok (.invokestatic 248, 3) := by decide +kernel
theorem dJ5_append_c97b9_33 : decode cJ5_append_c97b9 33 = .ok (.pop, 1) := by decide +kernel
theorem dJ5_append_c97b9_34 : decode cJ5_append_c97b9 34 = .ok (.goto 14, 3) := by decide +kernel
theorem dJ5_append_c97b9_37 : decode cJ5_append_c97b9 37 = .ok (.iload_n 1, 1) := by decide +kernel
theorem dJ5_append_c97b9_38 : decode cJ5_append_c97b9 38 = .ok (.iload_n 2, 1) := by decide +kernel
theorem dJ5_append_c97b9_39 : decode cJ5_append_c97b9 39 = .ok (.iload_n 3, 1) := by decide +kernel
theorem dJ5_append_c97b9_40 : decode cJ5_append_c97b9 40 = .ok (.aload_n 0, 1) := by decide +kernel
theorem dJ5_append_c97b9_41 : decode cJ5_append_c97b9 41 = .ok (.getfield 15, 3) := by decide +kernel
theorem dJ5_append_c97b9_44 : decode cJ5_append_c97b9 44 = .ok (.invokestatic 251, 3) := by decide +kernel
theorem dJ5_append_c97b9_47 : decode cJ5_append_c97b9 47 = .ok (.pop, 1) := by decide +kernel
theorem dJ5_append_c97b9_48 : decode cJ5_append_c97b9 48 = .ok (.aload_n 0, 1) := by decide +kernel
theorem dJ5_append_c97b9_49 : decode cJ5_append_c97b9 49 = .ok (.iload_n 3, 1) := by decide +kernel
theorem dJ5_append_c97b9_50 : decode cJ5_append_c97b9 50 = .ok (.putfield 79, 3) := by decide +kernel
theorem dJ5_append_c97b9_53 : decode cJ5_append_c97b9 53 = .ok (.aload_n 0, 1) := by decide +kernel
theorem dJ5_append_c97b9_54 : decode cJ5_append_c97b9 54 = .ok (.areturn, 1) := by decide +kernel
theorem dJ5_getValue_6d5f1_0 : decode cJ5_getValue_6d5f1 0 = .ok (.aload_n 0, 1) := by decide +kernel
theorem dJ5_getValue_6d5f1_1 : decode cJ5_getValue_6d5f1 1 = .ok (.getfield 15, 3) := by decide +kernel
theorem dJ5_getValue_6d5f1_4 : decode cJ5_getValue_6d5f1 4 = .ok (.areturn, 1) := by decide +kernel
theorem dJ5_isLatin1_aae02_0 : decode cJ5_isLatin1_aae02 0 = .ok (.getstatic 18, 3) := by decide +kernel
theorem dJ5_isLatin1_aae02_3 : decode cJ5_isLatin1_aae02 3 = .ok (.ifCond .eq 14, 3) := by decide +kernel
theorem dJ5_isLatin1_aae02_6 : decode cJ5_isLatin1_aae02 6 = .ok (.aload_n 0, 1) := by decide +kernel
theorem dJ5_isLatin1_aae02_7 : decode cJ5_isLatin1_aae02 7 = .ok (.getfield 22, 3) := by decide +kernel
theorem dJ5_isLatin1_aae02_10 : decode cJ5_isLatin1_aae02 10 = .ok (.ifCond .ne 7, 3) := by decide +kernel
theorem dJ5_isLatin1_aae02_13 : decode cJ5_isLatin1_aae02 13 = .ok (.iconst 1, 1) := by decide +kernel
theorem dJ5_isLatin1_aae02_14 : decode cJ5_isLatin1_aae02 14 = .ok (.goto 4, 3) := by decide +kernel
theorem dJ5_isLatin1_aae02_17 : decode cJ5_isLatin1_aae02 17 = .ok (.iconst 0, 1) := by decide +kernel
theorem dJ5_isLatin1_aae02_18 : decode cJ5_isLatin1_aae02 18 = .ok (.ireturn, 1) := by decide +kernel
theorem dJ5_inflateIfNeededFor_a7421_0 : decode cJ5_inflateIfNeededFor_a7421 0 = .ok (.getstatic 18, 3) := by decide +kernel
theorem dJ5_inflateIfNeededFor_a7421_3 : decode cJ5_inflateIfNeededFor_a7421 3 = .ok (.ifCond .eq 18, 3) := by decide +kernel
theorem dJ5_inflateIfNeededFor_a7421_6 : decode cJ5_inflateIfNeededFor_a7421 6 = .ok (.aload_n 0, 1) := by decide +kernel
theorem dJ5_inflateIfNeededFor_a7421_7 : decode cJ5_inflateIfNeededFor_a7421 7 = .ok (.getfield 22, 3) := by decide +kernel
theorem dJ5_inflateIfNeededFor_a7421_10 : decode cJ5_inflateIfNeededFor_a7421 10 = .ok (.aload_n 1, 1) := by decide +kernel
theorem dJ5_inflateIfNeededFor_a7421_11 : decode cJ5_inflateIfNeededFor_a7421 11 = .ok (.invokevirtual 40, 3) := by decide +kernel
theorem dJ5_inflateIfNeededFor_a7421_14 : decode cJ5_inflateIfNeededFor_a7421 14 = .ok (.if_icmp .eq 7, 3) := by decide +kernel
theorem dJ5_inflateIfNeededFor_a7421_17 : decode cJ5_inflateIfNeededFor_a7421 17 = .ok (.aload_n 0, 1) := by decide +kernel
theorem dJ5_inflateIfNeededFor_a7421_18 : decode cJ5_inflateIfNeededFor_a7421 18 = .ok (.invokevirtual 195, 3) := by decide +kernel
theorem dJ5_inflateIfNeededFor_a7421_21 : decode cJ5_inflateIfNeededFor_a7421 21 = .ok (.return_, 1) := by decide +kernel
theorem dJ5_putStringAt_47b60_0 : decode cJ5_putStringAt_47b60 0 = .ok (.aload_n 0, 1) := by decide +kernel
theorem dJ5_putStringAt_47b60_1 : decode cJ5_putStringAt_47b60 1 = .ok (.aload_n 2, 1) := by decide +kernel
theorem dJ5_putStringAt_47b60_2 : decode cJ5_putStringAt_47b60 2 = .ok (.invokevirtual 397, 3) := by decide +kernel
theorem dJ5_putStringAt_47b60_5 : decode cJ5_putStringAt_47b60 5 = .ok (.aload_n 2, 1) := by decide +kernel
theorem dJ5_putStringAt_47b60_6 : decode cJ5_putStringAt_47b60 6 = .ok (.aload_n 0, 1) := by decide +kernel
theorem dJ5_putStringAt_47b60_7 : decode cJ5_putStringAt_47b60 7 = .ok (.getfield 15, 3) := by decide +kernel
theorem dJ5_putStringAt_47b60_10 : decode cJ5_putStringAt_47b60 10 = .ok (.iload_n 1, 1) := by decide +kernel
theorem dJ5_putStringAt_47b60_11 : decode cJ5_putStringAt_47b60 11 = .ok (.aload_n 0, 1) := by decide +kernel
theorem dJ5_putStringAt_47b60_12 : decode cJ5_putStringAt_47b60 12 = .ok (.getfield 22, 3) := by decide +kernel
theorem dJ5_putStringAt_47b60_15 : decode cJ5_putStringAt_47b60 15 = .ok (.invokevirtual 399, 3) := by decide +kernel
theorem dJ5_putStringAt_47b60_18 : decode cJ5_putStringAt_47b60 18 = .ok (.return_, 1) := by decide +kernel
theorem dJx00060_init_a7421_0 : decode cJx00060_init_a7421 0 = .ok (.aload_n 0, 1) := by decide +kernel
theorem dJx00060_init_a7421_1 : decode cJx00060_init_a7421 1 = .ok (.aload_n 1, 1) := by decide +kernel
theorem dJx00060_init_a7421_2 : decode cJx00060_init_a7421 2 = .ok (.invokespecial 7, 3) := by decide +kernel
theorem dJx00060_init_a7421_5 : decode cJx00060_init_a7421 5 = .ok (.return_, 1) := by decide +kernel
theorem dJx00060_init_d00df_0 : decode cJx00060_init_d00df 0 = .ok (.aload_n 0, 1) := by decide +kernel
theorem dJx00060_init_d00df_1 : decode cJx00060_init_d00df 1 = .ok (.new 10, 3) := by decide +kernel
theorem dJx00060_init_d00df_4 : decode cJx00060_init_d00df 4 = .ok (.dup, 1) := by decide +kernel
theorem dJx00060_init_d00df_5 : decode cJx00060_init_d00df 5 = .ok (.invokespecial 12, 3) := by decide +kernel
theorem dJx00060_init_d00df_8 : decode cJx00060_init_d00df 8 = .ok (.ldc 13, 2) := by decide +kernel
theorem dJx00060_init_d00df_10 : decode cJx00060_init_d00df 10 = .ok (.invokevirtual 15, 3) := by decide +kernel
theorem dJx00060_init_d00df_13 : decode cJx00060_init_d00df 13 = .ok (.iload_n 1, 1) := by decide +kernel
theorem dJx00060_init_d00df_14 : decode cJx00060_init_d00df 14 = .ok (.invokevirtual 19, 3) := by decide +kernel
theorem dJx00060_init_d00df_17 : decode cJx00060_init_d00df 17 = .ok (.invokevirtual 22, 3) := by decide +kernel
theorem dJx00060_init_d00df_20 : decode cJx00060_init_d00df 20 = .ok (.invokespecial 7, 3) := by decide +kernel
theorem dJx00060_init_d00df_23 : decode cJx00060_init_d00df 23 = .ok (.return_, 1) := by decide +kernel
theorem dJ6_getChars_ba4f3_0 : decode cJ6_getChars_ba4f3 0 = .ok (.iload_n 1, 1) := by decide +kernel
theorem dJ6_getChars_ba4f3_1 : decode cJ6_getChars_ba4f3 1 = .ok (.istore 5, 2) := by decide +kernel
theorem dJ6_getChars_ba4f3_3 : decode cJ6_getChars_ba4f3 3 = .ok (.iload_n 0, 1) := by decide +kernel
theorem dJ6_getChars_ba4f3_4 : decode cJ6_getChars_ba4f3 4 = .ok (.ifCond .ge 7, 3) := by decide +kernel
theorem dJ6_getChars_ba4f3_7 : decode cJ6_getChars_ba4f3 7 = .ok (.iconst 1, 1) := by decide +kernel
theorem dJ6_getChars_ba4f3_8 : decode cJ6_getChars_ba4f3 8 = .ok (.goto 4, 3) := by decide +kernel
theorem dJ6_getChars_ba4f3_11 : decode cJ6_getChars_ba4f3 11 = .ok (.iconst 0, 1) := by decide +kernel
theorem dJ6_getChars_ba4f3_12 : decode cJ6_getChars_ba4f3 12 = .ok (.istore 6, 2) := by decide +kernel
theorem dJ6_getChars_ba4f3_14 : decode cJ6_getChars_ba4f3 14 = .ok (.iload 6, 2) := by decide +kernel
theorem dJ6_getChars_ba4f3_16 : decode cJ6_getChars_ba4f3 16 = .ok (.ifCond .ne 6, 3) := by decide +kernel
theorem dJ6_getChars_ba4f3_19 : decode cJ6_getChars_ba4f3 19 = .ok (.iload_n 0, 1) := by decide +kernel
theorem dJ6_getChars_ba4f3_20 : decode cJ6_getChars_ba4f3 20 = .ok (.ineg, 1) := by decide +kernel
theorem dJ6_getChars_ba4f3_21 : decode cJ6_getChars_ba4f3 21 = .ok (.istore_n 0, 1) := by decide +kernel
theorem dJ6_getChars_ba4f3_22 : decode cJ6_getChars_ba4f3 22 = .ok (.iload_n 0, 1) := by decide +kernel
theorem dJ6_getChars_ba4f3_23 : decode cJ6_getChars_ba4f3 23 = .ok (.bipush (-100), 2) := by decide +kernel
theorem dJ6_getChars_ba4f3_25 : decode cJ6_getChars_ba4f3 25 = .ok (.if_icmp .gt 47, 3) := by decide +kernel
theorem dJ6_getChars_ba4f3_28 : decode cJ6_getChars_ba4f3 28 = .ok (.iload_n 0, 1) := by decide +kernel
theorem dJ6_getChars_ba4f3_29 : decode cJ6_getChars_ba4f3 29 = .ok (.bipush 100, 2) := by decide +kernel
theorem dJ6_getChars_ba4f3_31 : decode cJ6_getChars_ba4f3 31 = .ok (.idiv, 1) := by decide +kernel
theorem dJ6_getChars_ba4f3_32 : decode cJ6_getChars_ba4f3 32 = .ok (.istore_n 3, 1) := by decide +kernel
theorem dJ6_getChars_ba4f3_33 : decode cJ6_getChars_ba4f3 33 = .ok (.iload_n 3, 1) := by decide +kernel
theorem dJ6_getChars_ba4f3_34 : decode cJ6_getChars_ba4f3 34 = .ok (.bipush 100, 2) := by decide +kernel
theorem dJ6_getChars_ba4f3_36 : decode cJ6_getChars_ba4f3 36 = .ok (.imul, 1) := by decide +kernel
theorem dJ6_getChars_ba4f3_37 : decode cJ6_getChars_ba4f3 37 = .ok (.iload_n 0, 1) := by decide +kernel
theorem dJ6_getChars_ba4f3_38 : decode cJ6_getChars_ba4f3 38 = .ok (.isub, 1) := by decide +kernel
theorem dJ6_getChars_ba4f3_39 : decode cJ6_getChars_ba4f3 39 = .ok (.istore 4, 2) := by decide +kernel
theorem dJ6_getChars_ba4f3_41 : decode cJ6_getChars_ba4f3 41 = .ok (.iload_n 3, 1) := by decide +kernel
theorem dJ6_getChars_ba4f3_42 : decode cJ6_getChars_ba4f3 42 = .ok (.istore_n 0, 1) := by decide +kernel
theorem dJ6_getChars_ba4f3_43 : decode cJ6_getChars_ba4f3 43 = .ok (.aload_n 2, 1) := by decide +kernel
theorem dJ6_getChars_ba4f3_44 : decode cJ6_getChars_ba4f3 44 = .ok (.iinc 5 (-1), 3) := by decide +kernel
theorem dJ6_getChars_ba4f3_47 : decode cJ6_getChars_ba4f3 47 = .ok (.iload 5, 2) := by decide +kernel
theorem dJ6_getChars_ba4f3_49 : decode cJ6_getChars_ba4f3 49 = .ok (.getstatic 83, 3) := by decide +kernel
theorem dJ6_getChars_ba4f3_52 : decode cJ6_getChars_ba4f3 52 = .ok (.iload 4, 2) := by decide +kernel
theorem dJ6_getChars_ba4f3_54 : decode cJ6_getChars_ba4f3 54 = .ok (.baload, 1) := by decide +kernel
theorem dJ6_getChars_ba4f3_55 : decode cJ6_getChars_ba4f3 55 = .ok (.bastore, 1) := by decide +kernel
theorem dJ6_getChars_ba4f3_56 : decode cJ6_getChars_ba4f3 56 = .ok (.aload_n 2, 1) := by decide +kernel
theorem dJ6_getChars_ba4f3_57 : decode cJ6_getChars_ba4f3 57 = .ok (.iinc 5 (-1), 3) := by decide +kernel
theorem dJ6_getChars_ba4f3_60 : decode cJ6_getChars_ba4f3 60 = .ok (.iload 5, 2) := by decide +kernel
theorem dJ6_getChars_ba4f3_62 : decode cJ6_getChars_ba4f3 62 = .ok (.getstatic 87, 3) := by decide +kernel
theorem dJ6_getChars_ba4f3_65 : decode cJ6_getChars_ba4f3 65 = .ok (.iload 4, 2) := by decide +kernel
theorem dJ6_getChars_ba4f3_67 : decode cJ6_getChars_ba4f3 67 = .ok (.baload, 1) := by decide +kernel
theorem dJ6_getChars_ba4f3_68 : decode cJ6_getChars_ba4f3 68 = .ok (.bastore, 1) := by decide +kernel
theorem dJ6_getChars_ba4f3_69 : decode cJ6_getChars_ba4f3 69 = .ok (.goto (-47), 3) := by decide +kernel
theorem dJ6_getChars_ba4f3_72 : decode cJ6_getChars_ba4f3 72 = .ok (.aload_n 2, 1) := by decide +kernel
theorem dJ6_getChars_ba4f3_73 : decode cJ6_getChars_ba4f3 73 = .ok (.iinc 5 (-1), 3) := by decide +kernel
theorem dJ6_getChars_ba4f3_76 : decode cJ6_getChars_ba4f3 76 = .ok (.iload 5, 2) := by decide +kernel
theorem dJ6_getChars_ba4f3_78 : decode cJ6_getChars_ba4f3 78 = .ok (.getstatic 83, 3) := by decide +kernel
theorem dJ6_getChars_ba4f3_81 : decode cJ6_getChars_ba4f3 81 = .ok (.iload_n 0, 1) := by decide +kernel
theorem dJ6_getChars_ba4f3_82 : decode cJ6_getChars_ba4f3 82 = .ok (.ineg, 1) := by decide +kernel
theorem dJ6_getChars_ba4f3_83 : decode cJ6_getChars_ba4f3 83 = .ok (.baload, 1) := by decide +kernel
theorem dJ6_getChars_ba4f3_84 : decode cJ6_getChars_ba4f3 84 = .ok (.bastore, 1) := by decide +kernel
theorem dJ6_getChars_ba4f3_85 : decode cJ6_getChars_ba4f3 85 = .ok (.iload_n 0, 1) := by decide +kernel
theorem dJ6_getChars_ba4f3_86 : decode cJ6_getChars_ba4f3 86 = .ok (.bipush (-9), 2) := by decide +kernel
theorem dJ6_getChars_ba4f3_88 : decode cJ6_getChars_ba4f3 88 = .ok (.if_icmp .ge 16, 3) := by decide +kernel
theorem dJ6_getChars_ba4f3_91 : decode cJ6_getChars_ba4f3 91 = .ok (.aload_n 2, 1) := by decide +kernel
theorem dJ6_getChars_ba4f3_92 : decode cJ6_getChars_ba4f3 92 = .ok (.iinc 5 (-1), 3) := by decide +kernel
theorem dJ6_getChars_ba4f3_95 : decode cJ6_getChars_ba4f3 95 = .ok (.iload 5, 2) := by decide +kernel
theorem dJ6_getChars_ba4f3_97 : decode cJ6_getChars_ba4f3 97 = .ok (.getstatic 87, 3) := by decide +kernel
theorem dJ6_getChars_ba4f3_100 : decode cJ6_getChars_ba4f3 100 = .ok (.iload_n 0, 1) := by decide +kernel
theorem dJ6_getChars_ba4f3_101 : decode cJ6_getChars_ba4f3 101 = .ok (.ineg, 1) := by decide +kernel
theorem dJ6_getChars_ba4f3_102 : decode cJ6_getChars_ba4f3 102 = .ok (.baload, 1) := by decide +kernel
theorem dJ6_getChars_ba4f3_103 : decode cJ6_getChars_ba4f3 103 = .ok (.bastore, 1) := by decide +kernel
theorem dJ6_getChars_ba4f3_104 : decode cJ6_getChars_ba4f3 104 = .ok (.iload 6, 2) := by decide +kernel
theorem dJ6_getChars_ba4f3_106 : decode cJ6_getChars_ba4f3 106 = .ok (.ifCond .eq 12, 3) := by decide +kernel
theorem dJ6_getChars_ba4f3_109 : decode cJ6_getChars_ba4f3 109 = .ok (.aload_n 2, 1) := by decide +kernel
theorem dJ6_getChars_ba4f3_110 : decode cJ6_getChars_ba4f3 110 = .ok (.iinc 5 (-1), 3) := by decide +kernel
theorem dJ6_getChars_ba4f3_113 : decode cJ6_getChars_ba4f3 113 = .ok (.iload 5, 2) := by decide +kernel
theorem dJ6_getChars_ba4f3_115 : decode cJ6_getChars_ba4f3 115 = .ok (.bipush 45, 2) := by decide +kernel
theorem dJ6_getChars_ba4f3_117 : decode cJ6_getChars_ba4f3 117 = .ok (.bastore, 1) := by decide +kernel
theorem dJ6_getChars_ba4f3_118 : decode cJ6_getChars_ba4f3 118 = .ok (.iload 5, 2) := by decide +kernel
theorem dJ6_getChars_ba4f3_120 : decode cJ6_getChars_ba4f3 120 = .ok (.ireturn, 1) := by decide +kernel
theorem dJ6_stringSize_0f7a4_0 : decode cJ6_stringSize_0f7a4 0 = .ok (.iconst 1, 1) := by decide +kernel
theorem dJ6_stringSize_0f7a4_1 : decode cJ6_stringSize_0f7a4 1 = .ok (.istore_n 1, 1) := by decide +kernel
theorem dJ6_stringSize_0f7a4_2 : decode cJ6_stringSize_0f7a4 2 = .ok (.iload_n 0, 1) := by decide +kernel
theorem dJ6_stringSize_0f7a4_3 : decode cJ6_stringSize_0f7a4 3 = .ok (.ifCond .lt 8, 3) := by decide +kernel
theorem dJ6_stringSize_0f7a4_6 : decode cJ6_stringSize_0f7a4 6 = .ok (.iconst 0, 1) := by decide +kernel
theorem dJ6_stringSize_0f7a4_7 : decode cJ6_stringSize_0f7a4 7 = .ok (.istore_n 1, 1) := by decide +kernel
theorem dJ6_stringSize_0f7a4_8 : decode cJ6_stringSize_0f7a4 8 = .ok (.iload_n 0, 1) := by decide +kernel
theorem dJ6_stringSize_0f7a4_9 : decode cJ6_stringSize_0f7a4 9 = .ok (.ineg, 1) := by decide +kernel
theorem dJ6_stringSize_0f7a4_10 : decode cJ6_stringSize_0f7a4 10 = .ok (.istore_n 0, 1) := by decide +kernel
theorem dJ6_stringSize_0f7a4_11 : decode cJ6_stringSize_0f7a4 11 = .ok (.bipush (-10), 2) := by decide +kernel
theorem dJ6_stringSize_0f7a4_13 : decode cJ6_stringSize_0f7a4 13 = .ok (.istore_n 2, 1) := by decide +kernel
theorem dJ6_stringSize_0f7a4_14 : decode cJ6_stringSize_0f7a4 14 = .ok (.iconst 1, 1) := by decide +kernel
theorem dJ6_stringSize_0f7a4_15 : decode cJ6_stringSize_0f7a4 15 = .ok (.istore_n 3, 1) := by decide +kernel
theorem dJ6_stringSize_0f7a4_16 : decode cJ6_stringSize_0f7a4 16 = .ok (.iload_n 3, 1) := by decide +kernel
theorem dJ6_stringSize_0f7a4_17 : decode cJ6_stringSize_0f7a4 17 = .ok (.bipush 10, 2) := by decide +kernel
theorem dJ6_stringSize_0f7a4_19 : decode cJ6_stringSize_0f7a4 19 = .ok (.if_icmp .ge 23, 3) := by decide +kernel
theorem dJ6_stringSize_0f7a4_22 : decode cJ6_stringSize_0f7a4 22 = .ok (.iload_n 0, 1) := by decide +kernel
theorem dJ6_stringSize_0f7a4_23 : decode cJ6_stringSize_0f7a4 23 = .ok (.iload_n 2, 1) := by decide +kernel
theorem dJ6_stringSize_0f7a4_24 : decode cJ6_stringSize_0f7a4 24 = .ok (.if_icmp .le 7, 3) := by decide +kernel
theorem dJ6_stringSize_0f7a4_27 : decode cJ6_stringSize_0f7a4 27 = .ok (.iload_n 3, 1) := by decide +kernel
theorem dJ6_stringSize_0f7a4_28 : decode cJ6_stringSize_0f7a4 28 = .ok (.iload_n 1, 1) := by decide +kernel
theorem dJ6_stringSize_0f7a4_29 : decode cJ6_stringSize_0f7a4 29 = .ok (.iadd, 1) := by decide +kernel
theorem dJ6_stringSize_0f7a4_30 : decode cJ6_stringSize_0f7a4 30 = .ok (.ireturn, 1) := by decide +kernel
theorem dJ6_stringSize_0f7a4_31 : decode cJ6_stringSize_0f7a4 31 = .ok (.bipush 10, 2) := by decide +kernel
theorem dJ6_stringSize_0f7a4_33 : decode cJ6_stringSize_0f7a4 33 = .ok (.iload_n 2, 1) := by decide +kernel
theorem dJ6_stringSize_0f7a4_34 : decode cJ6_stringSize_0f7a4 34 = .ok (.imul, 1) := by decide +kernel
theorem dJ6_stringSize_0f7a4_35 : decode cJ6_stringSize_0f7a4 35 = .ok (.istore_n 2, 1) := by decide +kernel
theorem dJ6_stringSize_0f7a4_36 : decode cJ6_stringSize_0f7a4 36 = .ok (.iinc 3 1, 3) := by decide +kernel
theorem dJ6_stringSize_0f7a4_39 : decode cJ6_stringSize_0f7a4 39 = .ok (.goto (-23), 3) := by decide +kernel
theorem dJ6_stringSize_0f7a4_42 : decode cJ6_stringSize_0f7a4 42 = .ok (.bipush 10, 2) := by decide +kernel
theorem dJ6_stringSize_0f7a4_44 : decode cJ6_stringSize_0f7a4 44 = .ok (.iload_n 1, 1) := by decide +kernel
theorem dJ6_stringSize_0f7a4_45 : decode cJ6_stringSize_0f7a4 45 = .ok (.iadd, 1) := by decide +kernel
theorem dJ6_stringSize_0f7a4_46 : decode cJ6_stringSize_0f7a4 46 = .ok (.ireturn, 1) := by decide +kernel
theorem dJ9_max_7cf53_0 : decode cJ9_max_7cf53 0 = .ok (.iload_n 0, 1) := by decide +kernel
theorem dJ9_max_7cf53_1 : decode cJ9_max_7cf53 1 = .ok (.iload_n 1, 1) := by decide +kernel
theorem dJ9_max_7cf53_2 : decode cJ9_max_7cf53 2 = .ok (.if_icmp .lt 7, 3) := by decide +kernel
theorem dJ9_max_7cf53_5 : decode cJ9_max_7cf53 5 = .ok (.iload_n 0, 1) := by decide +kernel
theorem dJ9_max_7cf53_6 : decode cJ9_max_7cf53 6 = .ok (.goto 4, 3) := by decide +kernel
theorem dJ9_max_7cf53_9 : decode cJ9_max_7cf53 9 = .ok (.iload_n 1, 1) := by decide +kernel
theorem dJ9_max_7cf53_10 : decode cJ9_max_7cf53 10 = .ok (.ireturn, 1) := by decide +kernel
theorem dJ9_min_7cf53_0 : decode cJ9_min_7cf53 0 = .ok (.iload_n 0, 1) := by decide +kernel
theorem dJ9_min_7cf53_1 : decode cJ9_min_7cf53 1 = .ok (.iload_n 1, 1) := by decide +kernel
theorem dJ9_min_7cf53_2 : decode cJ9_min_7cf53 2 = .ok (.if_icmp .gt 7, 3) := by decide +kernel
theorem dJ9_min_7cf53_5 : decode cJ9_min_7cf53 5 = .ok (.iload_n 0, 1) := by decide +kernel
theorem dJ9_min_7cf53_6 : decode cJ9_min_7cf53 6 = .ok (.goto 4, 3) := by decide +kernel
theorem dJ9_min_7cf53_9 : decode cJ9_min_7cf53 9 = .ok (.iload_n 1, 1) := by decide +kernel
theorem dJ9_min_7cf53_10 : decode cJ9_min_7cf53 10 = .ok (.ireturn, 1) := by decide +kernel
theorem dJ0_init_81219_0 : decode cJ0_init_81219 0 = .ok (.aload_n 0, 1) := by decide +kernel
theorem dJ0_init_81219_1 : decode cJ0_init_81219 1 = .ok (.aload_n 1, 1) := by decide +kernel
theorem dJ0_init_81219_2 : decode cJ0_init_81219 2 = .ok (.aconst_null, 1) := by decide +kernel
theorem dJ0_init_81219_3 : decode cJ0_init_81219 3 = .ok (.invokespecial 489, 3) := by decide +kernel
theorem dJ0_init_81219_6 : decode cJ0_init_81219 6 = .ok (.return_, 1) := by decide +kernel
theorem dJ0_length_8abf5_0 : decode cJ0_length_8abf5 0 = .ok (.aload_n 0, 1) := by decide +kernel
theorem dJ0_length_8abf5_1 : decode cJ0_length_8abf5 1 = .ok (.getfield 9, 3) := by decide +kernel
theorem dJ0_length_8abf5_4 : decode cJ0_length_8abf5 4 = .ok (.arraylength, 1) := by decide +kernel
theorem dJ0_length_8abf5_5 : decode cJ0_length_8abf5 5 = .ok (.aload_n 0, 1) := by decide +kernel
theorem dJ0_length_8abf5_6 : decode cJ0_length_8abf5 6 = .ok (.invokevirtual 335, 3) := by decide +kernel
theorem dJ0_length_8abf5_9 : decode cJ0_length_8abf5 9 = .ok (.ishr, 1) := by decide +kernel
theorem dJ0_length_8abf5_10 : decode cJ0_length_8abf5 10 = .ok (.ireturn, 1) := by decide +kernel
theorem dJ0_charAt_5068e_0 : decode cJ0_charAt_5068e 0 = .ok (.aload_n 0, 1) := by decide +kernel
theorem dJ0_charAt_5068e_1 : decode cJ0_charAt_5068e 1 = .ok (.invokevirtual 492, 3) := by decide +kernel
theorem dJ0_charAt_5068e_4 : decode cJ0_charAt_5068e 4 = .ok (.ifCond .eq 12, 3) := by decide +kernel
theorem dJ0_charAt_5068e_7 : decode cJ0_charAt_5068e 7 = .ok (.aload_n 0, 1) := by decide +kernel
theorem dJ0_charAt_5068e_8 : decode cJ0_charAt_5068e 8 = .ok (.getfield 9, 3) := by decide +kernel
theorem dJ0_charAt_5068e_11 : decode cJ0_charAt_5068e 11 = .ok (.iload_n 1, 1) := by decide +kernel
theorem dJ0_charAt_5068e_12 : decode cJ0_charAt_5068e 12 = .ok (.invokestatic 495, 3) := by decide +kernel
theorem dJ0_charAt_5068e_15 : decode cJ0_charAt_5068e 15 = .ok (.ireturn, 1) := by decide +kernel
theorem dJ0_charAt_5068e_16 : decode cJ0_charAt_5068e 16 = .ok (.aload_n 0, 1) := by decide +kernel
theorem dJ0_charAt_5068e_17 : decode cJ0_charAt_5068e 17 = .ok (.getfield 9, 3) := by decide +kernel
theorem dJ0_charAt_5068e_20 : decode cJ0_charAt_5068e 20 = .ok (.iload_n 1, 1) := by decide +kernel
theorem dJ0_charAt_5068e_21 : decode cJ0_charAt_5068e 21 = .ok (.invokestatic 498, 3) := by decide +kernel
theorem dJ0_charAt_5068e_24 : decode cJ0_charAt_5068e 24 = .ok (.ireturn, 1) := by decide +kernel
theorem dJ0_getBytes_840e7_0 : decode cJ0_getBytes_840e7 0 = .ok (.aload_n 0, 1) := by decide +kernel
theorem dJ0_getBytes_840e7_1 : decode cJ0_getBytes_840e7 1 = .ok (.invokevirtual 335, 3) := by decide +kernel
theorem dJ0_getBytes_840e7_4 : decode cJ0_getBytes_840e7 4 = .ok (.iload_n 3, 1) := by decide +kernel
theorem dJ0_getBytes_840e7_5 : decode cJ0_getBytes_840e7 5 = .ok (.if_icmp .ne 23, 3) := by decide +kernel
theorem dJ0_getBytes_840e7_8 : decode cJ0_getBytes_840e7 8 = .ok (.aload_n 0, 1) := by decide +kernel
theorem dJ0_getBytes_840e7_9 : decode cJ0_getBytes_840e7 9 = .ok (.getfield 9, 3) := by decide +kernel
theorem dJ0_getBytes_840e7_12 : decode cJ0_getBytes_840e7 12 = .ok (.iconst 0, 1) := by decide +kernel
theorem dJ0_getBytes_840e7_13 : decode cJ0_getBytes_840e7 13 = .ok (.aload_n 1, 1) := by decide +kernel
theorem dJ0_getBytes_840e7_14 : decode cJ0_getBytes_840e7 14 = .ok (.iload_n 2, 1) := by decide +kernel
theorem dJ0_getBytes_840e7_15 : decode cJ0_getBytes_840e7 15 = .ok (.iload_n 3, 1) := by decide +kernel
theorem dJ0_getBytes_840e7_16 : decode cJ0_getBytes_840e7 16 = .ok (.ishl, 1) := by decide +kernel
theorem dJ0_getBytes_840e7_17 : decode cJ0_getBytes_840e7 17 = .ok (.aload_n 0, 1) := by decide +kernel
theorem dJ0_getBytes_840e7_18 : decode cJ0_getBytes_840e7 18 = .ok (.getfield 9, 3) := by decide +kernel
theorem dJ0_getBytes_840e7_21 : decode cJ0_getBytes_840e7 21 = .ok (.arraylength, 1) := by decide +kernel
theorem dJ0_getBytes_840e7_22 : decode cJ0_getBytes_840e7 22 = .ok (.invokestatic 212, 3) := by decide +kernel
theorem dJ0_getBytes_840e7_25 : decode cJ0_getBytes_840e7 25 = .ok (.goto 18, 3) := by decide +kernel
theorem dJ0_getBytes_840e7_28 : decode cJ0_getBytes_840e7 28 = .ok (.aload_n 0, 1) := by decide +kernel
theorem dJ0_getBytes_840e7_29 : decode cJ0_getBytes_840e7 29 = .ok (.getfield 9, 3) := by decide +kernel
theorem dJ0_getBytes_840e7_32 : decode cJ0_getBytes_840e7 32 = .ok (.iconst 0, 1) := by decide +kernel
theorem dJ0_getBytes_840e7_33 : decode cJ0_getBytes_840e7 33 = .ok (.aload_n 1, 1) := by decide +kernel
theorem dJ0_getBytes_840e7_34 : decode cJ0_getBytes_840e7 34 = .ok (.iload_n 2, 1) := by decide +kernel
theorem dJ0_getBytes_840e7_35 : decode cJ0_getBytes_840e7 35 = .ok (.aload_n 0, 1) := by decide +kernel
theorem dJ0_getBytes_840e7_36 : decode cJ0_getBytes_840e7 36 = .ok (.getfield 9, 3) := by decide +kernel
theorem dJ0_getBytes_840e7_39 : decode cJ0_getBytes_840e7 39 = .ok (.arraylength, 1) := by decide +kernel
theorem dJ0_getBytes_840e7_40 : decode cJ0_getBytes_840e7 40 = .ok (.invokestatic 106, 3) := by decide +kernel
theorem dJ0_getBytes_840e7_43 : decode cJ0_getBytes_840e7 43 = .ok (.return_, 1) := by decide +kernel
theorem dJ0_init_db425_0 : decode cJ0_init_db425 0 = .ok (.aload_n 0, 1) := by decide +kernel
theorem dJ0_init_db425_1 : decode cJ0_init_db425 1 = .ok (.invokespecial 1, 3) := by decide +kernel
theorem dJ0_init_db425_4 : decode cJ0_init_db425 4 = .ok (.aload_n 1, 1) := by decide +kernel
theorem dJ0_init_db425_5 : decode cJ0_init_db425 5 = .ok (.invokevirtual 552, 3) := by decide +kernel
theorem dJ0_init_db425_8 : decode cJ0_init_db425 8 = .ok (.astore_n 3, 1) := by decide +kernel
theorem dJ0_init_db425_9 : decode cJ0_init_db425 9 = .ok (.aload_n 1, 1) := by decide +kernel
theorem dJ0_init_db425_10 : decode cJ0_init_db425 10 = .ok (.invokevirtual 549, 3) := by decide +kernel
theorem dJ0_init_db425_13 : decode cJ0_init_db425 13 = .ok (.istore 4, 2) := by decide +kernel
theorem dJ0_init_db425_15 : decode cJ0_init_db425 15 = .ok (.aload_n 1, 1) := by decide +kernel
theorem dJ0_init_db425_16 : decode cJ0_init_db425 16 = .ok (.invokevirtual 1047, 3) := by decide +kernel
theorem dJ0_init_db425_19 : decode cJ0_init_db425 19 = .ok (.ifCond .eq 22, 3) := by decide +kernel
theorem dJ0_init_db425_22 : decode cJ0_init_db425 22 = .ok (.aload_n 0, 1) := by decide +kernel
theorem dJ0_init_db425_23 : decode cJ0_init_db425 23 = .ok (.iconst 0, 1) := by decide +kernel
theorem dJ0_init_db425_24 : decode cJ0_init_db425 24 = .ok (.putfield 15, 3) := by decide +kernel
theorem dJ0_init_db425_27 : decode cJ0_init_db425 27 = .ok (.aload_n 0, 1) := by decide +kernel
theorem dJ0_init_db425_28 : decode cJ0_init_db425 28 = .ok (.aload_n 3, 1) := by decide +kernel
theorem dJ0_init_db425_29 : decode cJ0_init_db425 29 = .ok (.iconst 0, 1) := by decide +kernel
theorem dJ0_init_db425_30 : decode cJ0_init_db425 30 = .ok (.iload 4, 2) := by decide +kernel
theorem dJ0_init_db425_32 : decode cJ0_init_db425 32 = .ok (.invokestatic 54, 3) := by decide +kernel
theorem dJ0_init_db425_35 : decode cJ0_init_db425 35 = .ok (.putfield 9, 3) := by decide +kernel
theorem dJ0_init_db425_38 : decode cJ0_init_db425 38 = .ok (.goto 59, 3) := by decide +kernel
theorem dJ0_init_db425_41 : decode cJ0_init_db425 41 = .ok (.getstatic 38, 3) := by decide +kernel
theorem dJ0_init_db425_44 : decode cJ0_init_db425 44 = .ok (.ifCond .eq 35, 3) := by decide +kernel
theorem dJ0_init_db425_47 : decode cJ0_init_db425 47 = .ok (.aload_n 1, 1) := by decide +kernel
theorem dJ0_init_db425_48 : decode cJ0_init_db425 48 = .ok (.getfield 1048, 3) := by decide +kernel
theorem dJ0_init_db425_51 : decode cJ0_init_db425 51 = .ok (.ifCond .eq 28, 3) := by decide +kernel
theorem dJ0_init_db425_54 : decode cJ0_init_db425 54 = .ok (.aload_n 0, 1) := by decide +kernel
theorem dJ0_init_db425_55 : decode cJ0_init_db425 55 = .ok (.aload_n 3, 1) := by decide +kernel
theorem dJ0_init_db425_56 : decode cJ0_init_db425 56 = .ok (.iconst 0, 1) := by decide +kernel
theorem dJ0_init_db425_57 : decode cJ0_init_db425 57 = .ok (.iload 4, 2) := by decide +kernel
theorem dJ0_init_db425_59 : decode cJ0_init_db425 59 = .ok (.invokestatic 1051, 3) := by decide +kernel
theorem dJ0_init_db425_62 : decode cJ0_init_db425 62 = .ok (.putfield 9, 3) := by decide +kernel
theorem dJ0_init_db425_65 : decode cJ0_init_db425 65 = .ok (.aload_n 0, 1) := by decide +kernel
theorem dJ0_init_db425_66 : decode cJ0_init_db425 66 = .ok (.aload_n 0, 1) := by decide +kernel
theorem dJ0_init_db425_67 : decode cJ0_init_db425 67 = .ok (.getfield 9, 3) := by decide +kernel
theorem dJ0_init_db425_70 : decode cJ0_init_db425 70 = .ok (.iload 4, 2) := by decide +kernel
theorem dJ0_init_db425_72 : decode cJ0_init_db425 72 = .ok (.invokestatic 47, 3) := by decide +kernel
theorem dJ0_init_db425_75 : decode cJ0_init_db425 75 = .ok (.putfield 15, 3) := by decide +kernel
theorem dJ0_init_db425_78 : decode cJ0_init_db425 78 = .ok (.return_, 1) := by decide +kernel
theorem dJ0_init_db425_79 : decode cJ0_init_db425 79 = .ok (.aload_n 0, 1) := by decide +kernel
theorem dJ0_init_db425_80 : decode cJ0_init_db425 80 = .ok (.iconst 1, 1) := by decide +kernel
theorem dJ0_init_db425_81 : decode cJ0_init_db425 81 = .ok (.putfield 15, 3) := by decide +kernel
theorem dJ0_init_db425_84 : decode cJ0_init_db425 84 = .ok (.aload_n 0, 1) := by decide +kernel
theorem dJ0_init_db425_85 : decode cJ0_init_db425 85 = .ok (.aload_n 3, 1) := by decide +kernel
theorem dJ0_init_db425_86 : decode cJ0_init_db425 86 = .ok (.iconst 0, 1) := by decide +kernel
theorem dJ0_init_db425_87 : decode cJ0_init_db425 87 = .ok (.iload 4, 2) := by decide +kernel
theorem dJ0_init_db425_89 : decode cJ0_init_db425 89 = .ok (.iconst 1, 1) := by decide +kernel
theorem dJ0_init_db425_90 : decode cJ0_init_db425 90 = .ok (.ishl, 1) := by decide +kernel
theorem dJ0_init_db425_91 : decode cJ0_init_db425 91 = .ok (.invokestatic 54, 3) := by decide +kernel
theorem dJ0_init_db425_94 : decode cJ0_init_db425 94 = .ok (.putfield 9, 3) := by decide +kernel
theorem dJ0_init_db425_97 : decode cJ0_init_db425 97 = .ok (.return_, 1) := by decide +kernel
theorem dJ0_coder_7d493_0 : decode cJ0_coder_7d493 0 = .ok (.getstatic 38, 3) := by decide +kernel
theorem dJ0_coder_7d493_3 : decode cJ0_coder_7d493 3 = .ok (.ifCond .eq 10, 3) := by decide +kernel
theorem dJ0_coder_7d493_6 : decode cJ0_coder_7d493 6 = .ok (.aload_n 0, 1) := by decide +kernel
theorem dJ0_coder_7d493_7 : decode cJ0_coder_7d493 7 = .ok (.getfield 15, 3) := by decide +kernel
theorem dJ0_coder_7d493_10 : decode cJ0_coder_7d493 10 = .ok (.goto 4, 3) := by decide +kernel
theorem dJ0_coder_7d493_13 : decode cJ0_coder_7d493 13 = .ok (.iconst 1, 1) := by decide +kernel
theorem dJ0_coder_7d493_14 : decode cJ0_coder_7d493 14 = .ok (.ireturn, 1) := by decide +kernel
theorem dJ0_isLatin1_aae02_0 : decode cJ0_isLatin1_aae02 0 = .ok (.getstatic 38, 3) := by decide +kernel
theorem dJ0_isLatin1_aae02_3 : decode cJ0_isLatin1_aae02 3 = .ok (.ifCond .eq 14, 3) := by decide +kernel
theorem dJ0_isLatin1_aae02_6 : decode cJ0_isLatin1_aae02 6 = .ok (.aload_n 0, 1) := by decide +kernel
theorem dJ0_isLatin1_aae02_7 : decode cJ0_isLatin1_aae02 7 = .ok (.getfield 15, 3) := by decide +kernel
theorem dJ0_isLatin1_aae02_10 : decode cJ0_isLatin1_aae02 10 = .ok (.ifCond .ne 7, 3) := by decide +kernel
theorem dJ0_isLatin1_aae02_13 : decode cJ0_isLatin1_aae02 13 = .ok (.iconst 1, 1) := by decide +kernel
theorem dJ0_isLatin1_aae02_14 : decode cJ0_isLatin1_aae02 14 = .ok (.goto 4, 3) := by decide +kernel
theorem dJ0_isLatin1_aae02_17 : decode cJ0_isLatin1_aae02 17 = .ok (.iconst 0, 1) := by decide +kernel
theorem dJ0_isLatin1_aae02_18 : decode cJ0_isLatin1_aae02 18 = .ok (.ireturn, 1) := by decide +kernel
theorem dJ0_checkIndex_df160_0 : decode cJ0_checkIndex_df160 0 = .ok (.iload_n 0, 1) := by decide +kernel
theorem dJ0_checkIndex_df160_1 : decode cJ0_checkIndex_df160 1 = .ok (.iload_n 1, 1) := by decide +kernel
theorem dJ0_checkIndex_df160_2 : decode cJ0_checkIndex_df160 2 = .ok (.getstatic 1053, 3) := by decide +kernel
theorem dJ0_checkIndex_df160_5 : decode cJ0_checkIndex_df160 5 = .ok (.invokestatic 1059, 3) := by decide +kernel
theorem dJ0_checkIndex_df160_8 : decode cJ0_checkIndex_df160 8 = .ok (.pop, 1) := by decide +kernel
theorem dJ0_checkIndex_df160_9 : decode cJ0_checkIndex_df160 9 = .ok (.return_, 1) := by decide +kernel
theorem dJ0_checkBoundsOffCount_cabcc_0 : decode cJ0_checkBoundsOffCount_cabcc 0 = .ok (.iload_n 0, 1) := by decide +kernel
theorem dJ0_checkBoundsOffCount_cabcc_1 : decode cJ0_checkBoundsOffCount_cabcc 1 = .ok (.iload_n 1, 1) := by decide +kernel
theorem dJ0_checkBoundsOffCount_cabcc_2 : decode cJ0_checkBoundsOffCount_cabcc 2 = .ok (.iload_n 2, 1) := by decide +kernel
theorem dJ0_checkBoundsOffCount_cabcc_3 : decode cJ0_checkBoundsOffCount_cabcc 3 = .ok (.getstatic 1053, 3) := by decide +kernel
theorem dJ0_checkBoundsOffCount_cabcc_6 : decode cJ0_checkBoundsOffCount_cabcc 6 = .ok (.invokestatic 1065, 3) := by decide +kernel
theorem dJ0_checkBoundsOffCount_cabcc_9 : decode cJ0_checkBoundsOffCount_cabcc 9 = .ok (.ireturn, 1) := by decide +kernel
theorem dJ0_checkBoundsBeginEnd_23922_0 : decode cJ0_checkBoundsBeginEnd_23922 0 = .ok (.iload_n 0, 1) := by decide +kernel
theorem dJ0_checkBoundsBeginEnd_23922_1 : decode cJ0_checkBoundsBeginEnd_23922 1 = .ok (.iload_n 1, 1) := by decide +kernel
theorem dJ0_checkBoundsBeginEnd_23922_2 : decode cJ0_checkBoundsBeginEnd_23922 2 = .ok (.iload_n 2, 1) := by decide +kernel
theorem dJ0_checkBoundsBeginEnd_23922_3 : decode cJ0_checkBoundsBeginEnd_23922 3 = .ok (.getstatic 1053, 3) := by decide +kernel
theorem dJ0_checkBoundsBeginEnd_23922_6 : decode cJ0_checkBoundsBeginEnd_23922 6 = .ok (.invokestatic 1062, 3) := by decide +kernel
theorem dJ0_checkBoundsBeginEnd_23922_9 : decode cJ0_checkBoundsBeginEnd_23922 9 = .ok (.pop, 1) := by decide +kernel
theorem dJ0_checkBoundsBeginEnd_23922_10 : decode cJ0_checkBoundsBeginEnd_23922 10 = .ok (.return_, 1) := by decide +kernel
theorem dJ4_init_da8c8_0 : decode cJ4_init_da8c8 0 = .ok (.aload_n 0, 1) := by decide +kernel
theorem dJ4_init_da8c8_1 : decode cJ4_init_da8c8 1 = .ok (.bipush 16, 2) := by decide +kernel
theorem dJ4_init_da8c8_3 : decode cJ4_init_da8c8 3 = .ok (.invokespecial 1, 3) := by decide +kernel
theorem dJ4_init_da8c8_6 : decode cJ4_init_da8c8 6 = .ok (.return_, 1) := by decide +kernel
theorem dJ4_append_15ec4_0 : decode cJ4_append_15ec4 0 = .ok (.aload_n 0, 1) := by decide +kernel
theorem dJ4_append_15ec4_1 : decode cJ4_append_15ec4 1 = .ok (.aload_n 1, 1) := by decide +kernel
theorem dJ4_append_15ec4_2 : decode cJ4_append_15ec4 2 = .ok (.invokespecial 29, 3) := by decide +kernel
theorem dJ4_append_15ec4_5 : decode cJ4_append_15ec4 5 = .ok (.pop, 1) := by decide +kernel
theorem dJ4_append_15ec4_6 : decode cJ4_append_15ec4 6 = .ok (.aload_n 0, 1) := by decide +kernel
theorem dJ4_append_15ec4_7 : decode cJ4_append_15ec4 7 = .ok (.areturn, 1) := by decide +kernel
theorem dJ4_append_cf468_0 : decode cJ4_append_cf468 0 = .ok (.aload_n 0, 1) := by decide +kernel
theorem dJ4_append_cf468_1 : decode cJ4_append_cf468 1 = .ok (.iload_n 1, 1) := by decide +kernel
theorem dJ4_append_cf468_2 : decode cJ4_append_cf468 2 = .ok (.invokespecial 50, 3) := by decide +kernel
theorem dJ4_append_cf468_5 : decode cJ4_append_cf468 5 = .ok (.pop, 1) := by decide +kernel
theorem dJ4_append_cf468_6 : decode cJ4_append_cf468 6 = .ok (.aload_n 0, 1) := by decide +kernel
theorem dJ4_append_cf468_7 : decode cJ4_append_cf468 7 = .ok (.areturn, 1) := by decide +kernel
theorem dJ4_append_bf812_0 : decode cJ4_append_bf812 0 = .ok (.aload_n 0, 1) := by decide +kernel
theorem dJ4_append_bf812_1 : decode cJ4_append_bf812 1 = .ok (.iload_n 1, 1) := by decide +kernel
theorem dJ4_append_bf812_2 : decode cJ4_append_bf812 2 = .ok (.invokespecial 53, 3) := by decide +kernel
theorem dJ4_append_bf812_5 : decode cJ4_append_bf812 5 = .ok (.pop, 1) := by decide +kernel
theorem dJ4_append_bf812_6 : decode cJ4_append_bf812 6 = .ok (.aload_n 0, 1) := by decide +kernel
theorem dJ4_append_bf812_7 : decode cJ4_append_bf812 7 = .ok (.areturn, 1) := by decide +kernel
theorem dJ4_toString_0e30d_0 : decode cJ4_toString_0e30d 0 = .ok (.new 18, 3) := by decide +kernel
theorem dJ4_toString_0e30d_3 : decode cJ4_toString_0e30d 3 = .ok (.dup, 1) := by decide +kernel
theorem dJ4_toString_0e30d_4 : decode cJ4_toString_0e30d 4 = .ok (.aload_n 0, 1) := by decide +kernel
