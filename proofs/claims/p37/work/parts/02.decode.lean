theorem dX0_init_0 : decode cX0_init 0 = .ok (.aload_n 0, 1) := by decide +kernel
theorem dX0_init_1 : decode cX0_init 1 = .ok (.invokespecial 3, 3) := by decide +kernel
theorem dX0_init_4 : decode cX0_init 4 = .ok (.aload_n 0, 1) := by decide +kernel
theorem dX0_init_5 : decode cX0_init 5 = .ok (.iconst 5, 1) := by decide +kernel
theorem dX0_init_6 : decode cX0_init 6 = .ok (.newarray .long, 2) := by decide +kernel
theorem dX0_init_8 : decode cX0_init 8 = .ok (.putfield 9, 3) := by decide +kernel
theorem dX0_init_11 : decode cX0_init 11 = .ok (.aload_n 0, 1) := by decide +kernel
theorem dX0_init_12 : decode cX0_init 12 = .ok (.iconst 5, 1) := by decide +kernel
theorem dX0_init_13 : decode cX0_init 13 = .ok (.newarray .int, 2) := by decide +kernel
theorem dX0_init_15 : decode cX0_init 15 = .ok (.putfield 15, 3) := by decide +kernel
theorem dX0_init_18 : decode cX0_init 18 = .ok (.aload_n 0, 1) := by decide +kernel
theorem dX0_init_19 : decode cX0_init 19 = .ok (.iconst 5, 1) := by decide +kernel
theorem dX0_init_20 : decode cX0_init 20 = .ok (.newarray .int, 2) := by decide +kernel
theorem dX0_init_22 : decode cX0_init 22 = .ok (.putfield 19, 3) := by decide +kernel
theorem dX0_init_25 : decode cX0_init 25 = .ok (.aload_n 0, 1) := by decide +kernel
theorem dX0_init_26 : decode cX0_init 26 = .ok (.iconst 5, 1) := by decide +kernel
theorem dX0_init_27 : decode cX0_init 27 = .ok (.newarray .int, 2) := by decide +kernel
theorem dX0_init_29 : decode cX0_init 29 = .ok (.putfield 22, 3) := by decide +kernel
theorem dX0_init_32 : decode cX0_init 32 = .ok (.aload_n 0, 1) := by decide +kernel
theorem dX0_init_33 : decode cX0_init 33 = .ok (.iconst 2, 1) := by decide +kernel
theorem dX0_init_34 : decode cX0_init 34 = .ok (.newarray .int, 2) := by decide +kernel
theorem dX0_init_36 : decode cX0_init 36 = .ok (.putfield 25, 3) := by decide +kernel
theorem dX0_init_39 : decode cX0_init 39 = .ok (.return_, 1) := by decide +kernel
theorem dX0_clear_0 : decode cX0_clear 0 = .ok (.aload_n 0, 1) := by decide +kernel
theorem dX0_clear_1 : decode cX0_clear 1 = .ok (.iconst 0, 1) := by decide +kernel
theorem dX0_clear_2 : decode cX0_clear 2 = .ok (.putfield 28, 3) := by decide +kernel
theorem dX0_clear_5 : decode cX0_clear 5 = .ok (.aload_n 0, 1) := by decide +kernel
theorem dX0_clear_6 : decode cX0_clear 6 = .ok (.iconst 0, 1) := by decide +kernel
theorem dX0_clear_7 : decode cX0_clear 7 = .ok (.putfield 32, 3) := by decide +kernel
theorem dX0_clear_10 : decode cX0_clear 10 = .ok (.aload_n 0, 1) := by decide +kernel
theorem dX0_clear_11 : decode cX0_clear 11 = .ok (.invokevirtual 35, 3) := by decide +kernel
theorem dX0_clear_14 : decode cX0_clear 14 = .ok (.return_, 1) := by decide +kernel
theorem dX0_clearPlaces_0 : decode cX0_clearPlaces 0 = .ok (.iconst 0, 1) := by decide +kernel
theorem dX0_clearPlaces_1 : decode cX0_clearPlaces 1 = .ok (.istore_n 1, 1) := by decide +kernel
theorem dX0_clearPlaces_2 : decode cX0_clearPlaces 2 = .ok (.iload_n 1, 1) := by decide +kernel
theorem dX0_clearPlaces_3 : decode cX0_clearPlaces 3 = .ok (.iconst 5, 1) := by decide +kernel
theorem dX0_clearPlaces_4 : decode cX0_clearPlaces 4 = .ok (.if_icmp .ge 16, 3) := by decide +kernel
theorem dX0_clearPlaces_7 : decode cX0_clearPlaces 7 = .ok (.aload_n 0, 1) := by decide +kernel
theorem dX0_clearPlaces_8 : decode cX0_clearPlaces 8 = .ok (.getfield 22, 3) := by decide +kernel
theorem dX0_clearPlaces_11 : decode cX0_clearPlaces 11 = .ok (.iload_n 1, 1) := by decide +kernel
theorem dX0_clearPlaces_12 : decode cX0_clearPlaces 12 = .ok (.iconst (-1), 1) := by decide +kernel
theorem dX0_clearPlaces_13 : decode cX0_clearPlaces 13 = .ok (.iastore, 1) := by decide +kernel
theorem dX0_clearPlaces_14 : decode cX0_clearPlaces 14 = .ok (.iinc 1 1, 3) := by decide +kernel
theorem dX0_clearPlaces_17 : decode cX0_clearPlaces 17 = .ok (.goto (-15), 3) := by decide +kernel
theorem dX0_clearPlaces_20 : decode cX0_clearPlaces 20 = .ok (.iconst 0, 1) := by decide +kernel
theorem dX0_clearPlaces_21 : decode cX0_clearPlaces 21 = .ok (.istore_n 1, 1) := by decide +kernel
theorem dX0_clearPlaces_22 : decode cX0_clearPlaces 22 = .ok (.iload_n 1, 1) := by decide +kernel
theorem dX0_clearPlaces_23 : decode cX0_clearPlaces 23 = .ok (.iconst 2, 1) := by decide +kernel
theorem dX0_clearPlaces_24 : decode cX0_clearPlaces 24 = .ok (.if_icmp .ge 16, 3) := by decide +kernel
theorem dX0_clearPlaces_27 : decode cX0_clearPlaces 27 = .ok (.aload_n 0, 1) := by decide +kernel
theorem dX0_clearPlaces_28 : decode cX0_clearPlaces 28 = .ok (.getfield 25, 3) := by decide +kernel
theorem dX0_clearPlaces_31 : decode cX0_clearPlaces 31 = .ok (.iload_n 1, 1) := by decide +kernel
theorem dX0_clearPlaces_32 : decode cX0_clearPlaces 32 = .ok (.iconst 0, 1) := by decide +kernel
theorem dX0_clearPlaces_33 : decode cX0_clearPlaces 33 = .ok (.iastore, 1) := by decide +kernel
theorem dX0_clearPlaces_34 : decode cX0_clearPlaces 34 = .ok (.iinc 1 1, 3) := by decide +kernel
theorem dX0_clearPlaces_37 : decode cX0_clearPlaces 37 = .ok (.goto (-15), 3) := by decide +kernel
theorem dX0_clearPlaces_40 : decode cX0_clearPlaces 40 = .ok (.return_, 1) := by decide +kernel
theorem dX0_copyFrom_0 : decode cX0_copyFrom 0 = .ok (.aload_n 0, 1) := by decide +kernel
theorem dX0_copyFrom_1 : decode cX0_copyFrom 1 = .ok (.aload_n 1, 1) := by decide +kernel
theorem dX0_copyFrom_2 : decode cX0_copyFrom 2 = .ok (.getfield 28, 3) := by decide +kernel
theorem dX0_copyFrom_5 : decode cX0_copyFrom 5 = .ok (.putfield 28, 3) := by decide +kernel
theorem dX0_copyFrom_8 : decode cX0_copyFrom 8 = .ok (.aload_n 1, 1) := by decide +kernel
theorem dX0_copyFrom_9 : decode cX0_copyFrom 9 = .ok (.getfield 9, 3) := by decide +kernel
theorem dX0_copyFrom_12 : decode cX0_copyFrom 12 = .ok (.iconst 0, 1) := by decide +kernel
theorem dX0_copyFrom_13 : decode cX0_copyFrom 13 = .ok (.aload_n 0, 1) := by decide +kernel
theorem dX0_copyFrom_14 : decode cX0_copyFrom 14 = .ok (.getfield 9, 3) := by decide +kernel
theorem dX0_copyFrom_17 : decode cX0_copyFrom 17 = .ok (.iconst 0, 1) := by decide +kernel
theorem dX0_copyFrom_18 : decode cX0_copyFrom 18 = .ok (.iconst 5, 1) := by decide +kernel
theorem dX0_copyFrom_19 : decode cX0_copyFrom 19 = .ok (.invokestatic 38, 3) := by decide +kernel
theorem dX0_copyFrom_22 : decode cX0_copyFrom 22 = .ok (.aload_n 1, 1) := by decide +kernel
theorem dX0_copyFrom_23 : decode cX0_copyFrom 23 = .ok (.getfield 15, 3) := by decide +kernel
theorem dX0_copyFrom_26 : decode cX0_copyFrom 26 = .ok (.iconst 0, 1) := by decide +kernel
theorem dX0_copyFrom_27 : decode cX0_copyFrom 27 = .ok (.aload_n 0, 1) := by decide +kernel
theorem dX0_copyFrom_28 : decode cX0_copyFrom 28 = .ok (.getfield 15, 3) := by decide +kernel
theorem dX0_copyFrom_31 : decode cX0_copyFrom 31 = .ok (.iconst 0, 1) := by decide +kernel
theorem dX0_copyFrom_32 : decode cX0_copyFrom 32 = .ok (.iconst 5, 1) := by decide +kernel
theorem dX0_copyFrom_33 : decode cX0_copyFrom 33 = .ok (.invokestatic 38, 3) := by decide +kernel
theorem dX0_copyFrom_36 : decode cX0_copyFrom 36 = .ok (.aload_n 1, 1) := by decide +kernel
theorem dX0_copyFrom_37 : decode cX0_copyFrom 37 = .ok (.getfield 19, 3) := by decide +kernel
theorem dX0_copyFrom_40 : decode cX0_copyFrom 40 = .ok (.iconst 0, 1) := by decide +kernel
theorem dX0_copyFrom_41 : decode cX0_copyFrom 41 = .ok (.aload_n 0, 1) := by decide +kernel
theorem dX0_copyFrom_42 : decode cX0_copyFrom 42 = .ok (.getfield 19, 3) := by decide +kernel
theorem dX0_copyFrom_45 : decode cX0_copyFrom 45 = .ok (.iconst 0, 1) := by decide +kernel
theorem dX0_copyFrom_46 : decode cX0_copyFrom 46 = .ok (.iconst 5, 1) := by decide +kernel
theorem dX0_copyFrom_47 : decode cX0_copyFrom 47 = .ok (.invokestatic 38, 3) := by decide +kernel
theorem dX0_copyFrom_50 : decode cX0_copyFrom 50 = .ok (.aload_n 1, 1) := by decide +kernel
theorem dX0_copyFrom_51 : decode cX0_copyFrom 51 = .ok (.getfield 22, 3) := by decide +kernel
theorem dX0_copyFrom_54 : decode cX0_copyFrom 54 = .ok (.iconst 0, 1) := by decide +kernel
theorem dX0_copyFrom_55 : decode cX0_copyFrom 55 = .ok (.aload_n 0, 1) := by decide +kernel
theorem dX0_copyFrom_56 : decode cX0_copyFrom 56 = .ok (.getfield 22, 3) := by decide +kernel
theorem dX0_copyFrom_59 : decode cX0_copyFrom 59 = .ok (.iconst 0, 1) := by decide +kernel
theorem dX0_copyFrom_60 : decode cX0_copyFrom 60 = .ok (.iconst 5, 1) := by decide +kernel
theorem dX0_copyFrom_61 : decode cX0_copyFrom 61 = .ok (.invokestatic 38, 3) := by decide +kernel
theorem dX0_copyFrom_64 : decode cX0_copyFrom 64 = .ok (.aload_n 0, 1) := by decide +kernel
theorem dX0_copyFrom_65 : decode cX0_copyFrom 65 = .ok (.aload_n 1, 1) := by decide +kernel
theorem dX0_copyFrom_66 : decode cX0_copyFrom 66 = .ok (.getfield 32, 3) := by decide +kernel
theorem dX0_copyFrom_69 : decode cX0_copyFrom 69 = .ok (.putfield 32, 3) := by decide +kernel
theorem dX0_copyFrom_72 : decode cX0_copyFrom 72 = .ok (.aload_n 1, 1) := by decide +kernel
theorem dX0_copyFrom_73 : decode cX0_copyFrom 73 = .ok (.getfield 25, 3) := by decide +kernel
theorem dX0_copyFrom_76 : decode cX0_copyFrom 76 = .ok (.iconst 0, 1) := by decide +kernel
theorem dX0_copyFrom_77 : decode cX0_copyFrom 77 = .ok (.aload_n 0, 1) := by decide +kernel
theorem dX0_copyFrom_78 : decode cX0_copyFrom 78 = .ok (.getfield 25, 3) := by decide +kernel
theorem dX0_copyFrom_81 : decode cX0_copyFrom 81 = .ok (.iconst 0, 1) := by decide +kernel
theorem dX0_copyFrom_82 : decode cX0_copyFrom 82 = .ok (.iconst 2, 1) := by decide +kernel
theorem dX0_copyFrom_83 : decode cX0_copyFrom 83 = .ok (.invokestatic 38, 3) := by decide +kernel
theorem dX0_copyFrom_86 : decode cX0_copyFrom 86 = .ok (.return_, 1) := by decide +kernel
theorem dX0_has_0 : decode cX0_has 0 = .ok (.iload_n 1, 1) := by decide +kernel
theorem dX0_has_1 : decode cX0_has 1 = .ok (.ifCond .lt 15, 3) := by decide +kernel
theorem dX0_has_4 : decode cX0_has 4 = .ok (.iload_n 1, 1) := by decide +kernel
theorem dX0_has_5 : decode cX0_has 5 = .ok (.aload_n 0, 1) := by decide +kernel
theorem dX0_has_6 : decode cX0_has 6 = .ok (.getfield 28, 3) := by decide +kernel
theorem dX0_has_9 : decode cX0_has 9 = .ok (.if_icmp .ge 7, 3) := by decide +kernel
theorem dX0_has_12 : decode cX0_has 12 = .ok (.iconst 1, 1) := by decide +kernel
theorem dX0_has_13 : decode cX0_has 13 = .ok (.goto 4, 3) := by decide +kernel
theorem dX0_has_16 : decode cX0_has 16 = .ok (.iconst 0, 1) := by decide +kernel
theorem dX0_has_17 : decode cX0_has 17 = .ok (.ireturn, 1) := by decide +kernel
theorem dX0_called_0 : decode cX0_called 0 = .ok (.iconst 0, 1) := by decide +kernel
theorem dX0_called_1 : decode cX0_called 1 = .ok (.istore_n 3, 1) := by decide +kernel
theorem dX0_called_2 : decode cX0_called 2 = .ok (.iload_n 3, 1) := by decide +kernel
theorem dX0_called_3 : decode cX0_called 3 = .ok (.aload_n 0, 1) := by decide +kernel
theorem dX0_called_4 : decode cX0_called 4 = .ok (.getfield 28, 3) := by decide +kernel
theorem dX0_called_7 : decode cX0_called 7 = .ok (.if_icmp .ge 28, 3) := by decide +kernel
theorem dX0_called_10 : decode cX0_called 10 = .ok (.lload_n 1, 1) := by decide +kernel
theorem dX0_called_11 : decode cX0_called 11 = .ok (.lconst 0, 1) := by decide +kernel
theorem dX0_called_12 : decode cX0_called 12 = .ok (.lcmp, 1) := by decide +kernel
theorem dX0_called_13 : decode cX0_called 13 = .ok (.ifCond .eq 16, 3) := by decide +kernel
theorem dX0_called_16 : decode cX0_called 16 = .ok (.aload_n 0, 1) := by decide +kernel
theorem dX0_called_17 : decode cX0_called 17 = .ok (.getfield 9, 3) := by decide +kernel
theorem dX0_called_20 : decode cX0_called 20 = .ok (.iload_n 3, 1) := by decide +kernel
theorem dX0_called_21 : decode cX0_called 21 = .ok (.laload, 1) := by decide +kernel
theorem dX0_called_22 : decode cX0_called 22 = .ok (.lload_n 1, 1) := by decide +kernel
theorem dX0_called_23 : decode cX0_called 23 = .ok (.lcmp, 1) := by decide +kernel
theorem dX0_called_24 : decode cX0_called 24 = .ok (.ifCond .ne 5, 3) := by decide +kernel
theorem dX0_called_27 : decode cX0_called 27 = .ok (.iload_n 3, 1) := by decide +kernel
theorem dX0_called_28 : decode cX0_called 28 = .ok (.ireturn, 1) := by decide +kernel
theorem dX0_called_29 : decode cX0_called 29 = .ok (.iinc 3 1, 3) := by decide +kernel
theorem dX0_called_32 : decode cX0_called 32 = .ok (.goto (-30), 3) := by decide +kernel
theorem dX0_called_35 : decode cX0_called 35 = .ok (.iconst (-1), 1) := by decide +kernel
theorem dX0_called_36 : decode cX0_called 36 = .ok (.ireturn, 1) := by decide +kernel
theorem dX0_lyingOn_0 : decode cX0_lyingOn 0 = .ok (.iconst 0, 1) := by decide +kernel
theorem dX0_lyingOn_1 : decode cX0_lyingOn 1 = .ok (.istore_n 2, 1) := by decide +kernel
theorem dX0_lyingOn_2 : decode cX0_lyingOn 2 = .ok (.iload_n 2, 1) := by decide +kernel
theorem dX0_lyingOn_3 : decode cX0_lyingOn 3 = .ok (.aload_n 0, 1) := by decide +kernel
theorem dX0_lyingOn_4 : decode cX0_lyingOn 4 = .ok (.getfield 28, 3) := by decide +kernel
theorem dX0_lyingOn_7 : decode cX0_lyingOn 7 = .ok (.if_icmp .ge 26, 3) := by decide +kernel
theorem dX0_lyingOn_10 : decode cX0_lyingOn 10 = .ok (.iload_n 1, 1) := by decide +kernel
theorem dX0_lyingOn_11 : decode cX0_lyingOn 11 = .ok (.iconst (-1), 1) := by decide +kernel
theorem dX0_lyingOn_12 : decode cX0_lyingOn 12 = .ok (.if_icmp .eq 15, 3) := by decide +kernel
theorem dX0_lyingOn_15 : decode cX0_lyingOn 15 = .ok (.aload_n 0, 1) := by decide +kernel
theorem dX0_lyingOn_16 : decode cX0_lyingOn 16 = .ok (.getfield 22, 3) := by decide +kernel
theorem dX0_lyingOn_19 : decode cX0_lyingOn 19 = .ok (.iload_n 2, 1) := by decide +kernel
theorem dX0_lyingOn_20 : decode cX0_lyingOn 20 = .ok (.iaload, 1) := by decide +kernel
theorem dX0_lyingOn_21 : decode cX0_lyingOn 21 = .ok (.iload_n 1, 1) := by decide +kernel
theorem dX0_lyingOn_22 : decode cX0_lyingOn 22 = .ok (.if_icmp .ne 5, 3) := by decide +kernel
theorem dX0_lyingOn_25 : decode cX0_lyingOn 25 = .ok (.iload_n 2, 1) := by decide +kernel
theorem dX0_lyingOn_26 : decode cX0_lyingOn 26 = .ok (.ireturn, 1) := by decide +kernel
theorem dX0_lyingOn_27 : decode cX0_lyingOn 27 = .ok (.iinc 2 1, 3) := by decide +kernel
theorem dX0_lyingOn_30 : decode cX0_lyingOn 30 = .ok (.goto (-28), 3) := by decide +kernel
theorem dX0_lyingOn_33 : decode cX0_lyingOn 33 = .ok (.iconst (-1), 1) := by decide +kernel
theorem dX0_lyingOn_34 : decode cX0_lyingOn 34 = .ok (.ireturn, 1) := by decide +kernel
theorem dX0_weightOn_0 : decode cX0_weightOn 0 = .ok (.aload_n 0, 1) := by decide +kernel
theorem dX0_weightOn_1 : decode cX0_weightOn 1 = .ok (.iload_n 1, 1) := by decide +kernel
theorem dX0_weightOn_2 : decode cX0_weightOn 2 = .ok (.invokevirtual 44, 3) := by decide +kernel
theorem dX0_weightOn_5 : decode cX0_weightOn 5 = .ok (.istore_n 2, 1) := by decide +kernel
theorem dX0_weightOn_6 : decode cX0_weightOn 6 = .ok (.aload_n 0, 1) := by decide +kernel
theorem dX0_weightOn_7 : decode cX0_weightOn 7 = .ok (.iload_n 2, 1) := by decide +kernel
theorem dX0_weightOn_8 : decode cX0_weightOn 8 = .ok (.invokevirtual 48, 3) := by decide +kernel
theorem dX0_weightOn_11 : decode cX0_weightOn 11 = .ok (.ifCond .eq 12, 3) := by decide +kernel
theorem dX0_weightOn_14 : decode cX0_weightOn 14 = .ok (.aload_n 0, 1) := by decide +kernel
theorem dX0_weightOn_15 : decode cX0_weightOn 15 = .ok (.getfield 15, 3) := by decide +kernel
theorem dX0_weightOn_18 : decode cX0_weightOn 18 = .ok (.iload_n 2, 1) := by decide +kernel
theorem dX0_weightOn_19 : decode cX0_weightOn 19 = .ok (.iaload, 1) := by decide +kernel
theorem dX0_weightOn_20 : decode cX0_weightOn 20 = .ok (.goto 4, 3) := by decide +kernel
theorem dX0_weightOn_23 : decode cX0_weightOn 23 = .ok (.iconst 0, 1) := by decide +kernel
theorem dX0_weightOn_24 : decode cX0_weightOn 24 = .ok (.ireturn, 1) := by decide +kernel
theorem dX0_outCount_0 : decode cX0_outCount 0 = .ok (.iconst 0, 1) := by decide +kernel
theorem dX0_outCount_1 : decode cX0_outCount 1 = .ok (.istore_n 1, 1) := by decide +kernel
theorem dX0_outCount_2 : decode cX0_outCount 2 = .ok (.iconst 0, 1) := by decide +kernel
theorem dX0_outCount_3 : decode cX0_outCount 3 = .ok (.istore_n 2, 1) := by decide +kernel
theorem dX0_outCount_4 : decode cX0_outCount 4 = .ok (.iload_n 2, 1) := by decide +kernel
theorem dX0_outCount_5 : decode cX0_outCount 5 = .ok (.aload_n 0, 1) := by decide +kernel
theorem dX0_outCount_6 : decode cX0_outCount 6 = .ok (.getfield 28, 3) := by decide +kernel
theorem dX0_outCount_9 : decode cX0_outCount 9 = .ok (.if_icmp .ge 27, 3) := by decide +kernel
theorem dX0_outCount_12 : decode cX0_outCount 12 = .ok (.iload_n 1, 1) := by decide +kernel
theorem dX0_outCount_13 : decode cX0_outCount 13 = .ok (.aload_n 0, 1) := by decide +kernel
theorem dX0_outCount_14 : decode cX0_outCount 14 = .ok (.getfield 22, 3) := by decide +kernel
theorem dX0_outCount_17 : decode cX0_outCount 17 = .ok (.iload_n 2, 1) := by decide +kernel
theorem dX0_outCount_18 : decode cX0_outCount 18 = .ok (.iaload, 1) := by decide +kernel
theorem dX0_outCount_19 : decode cX0_outCount 19 = .ok (.iconst (-1), 1) := by decide +kernel
theorem dX0_outCount_20 : decode cX0_outCount 20 = .ok (.if_icmp .ne 7, 3) := by decide +kernel
theorem dX0_outCount_23 : decode cX0_outCount 23 = .ok (.iconst 1, 1) := by decide +kernel
theorem dX0_outCount_24 : decode cX0_outCount 24 = .ok (.goto 4, 3) := by decide +kernel
theorem dX0_outCount_27 : decode cX0_outCount 27 = .ok (.iconst 0, 1) := by decide +kernel
theorem dX0_outCount_28 : decode cX0_outCount 28 = .ok (.iadd, 1) := by decide +kernel
theorem dX0_outCount_29 : decode cX0_outCount 29 = .ok (.istore_n 1, 1) := by decide +kernel
theorem dX0_outCount_30 : decode cX0_outCount 30 = .ok (.iinc 2 1, 3) := by decide +kernel
theorem dX0_outCount_33 : decode cX0_outCount 33 = .ok (.goto (-29), 3) := by decide +kernel
theorem dX0_outCount_36 : decode cX0_outCount 36 = .ok (.iload_n 1, 1) := by decide +kernel
theorem dX0_outCount_37 : decode cX0_outCount 37 = .ok (.ireturn, 1) := by decide +kernel
theorem dX0_inBins_0 : decode cX0_inBins 0 = .ok (.iconst 0, 1) := by decide +kernel
theorem dX0_inBins_1 : decode cX0_inBins 1 = .ok (.istore_n 1, 1) := by decide +kernel
theorem dX0_inBins_2 : decode cX0_inBins 2 = .ok (.iconst 0, 1) := by decide +kernel
theorem dX0_inBins_3 : decode cX0_inBins 3 = .ok (.istore_n 2, 1) := by decide +kernel
theorem dX0_inBins_4 : decode cX0_inBins 4 = .ok (.iload_n 2, 1) := by decide +kernel
theorem dX0_inBins_5 : decode cX0_inBins 5 = .ok (.iconst 2, 1) := by decide +kernel
theorem dX0_inBins_6 : decode cX0_inBins 6 = .ok (.if_icmp .ge 18, 3) := by decide +kernel
theorem dX0_inBins_9 : decode cX0_inBins 9 = .ok (.iload_n 1, 1) := by decide +kernel
theorem dX0_inBins_10 : decode cX0_inBins 10 = .ok (.aload_n 0, 1) := by decide +kernel
theorem dX0_inBins_11 : decode cX0_inBins 11 = .ok (.getfield 25, 3) := by decide +kernel
theorem dX0_inBins_14 : decode cX0_inBins 14 = .ok (.iload_n 2, 1) := by decide +kernel
theorem dX0_inBins_15 : decode cX0_inBins 15 = .ok (.iaload, 1) := by decide +kernel
theorem dX0_inBins_16 : decode cX0_inBins 16 = .ok (.iadd, 1) := by decide +kernel
theorem dX0_inBins_17 : decode cX0_inBins 17 = .ok (.istore_n 1, 1) := by decide +kernel
theorem dX0_inBins_18 : decode cX0_inBins 18 = .ok (.iinc 2 1, 3) := by decide +kernel
theorem dX0_inBins_21 : decode cX0_inBins 21 = .ok (.goto (-17), 3) := by decide +kernel
theorem dX0_inBins_24 : decode cX0_inBins 24 = .ok (.iload_n 1, 1) := by decide +kernel
theorem dX0_inBins_25 : decode cX0_inBins 25 = .ok (.ireturn, 1) := by decide +kernel
theorem dX0_add_0 : decode cX0_add 0 = .ok (.aload_n 0, 1) := by decide +kernel
theorem dX0_add_1 : decode cX0_add 1 = .ok (.getfield 28, 3) := by decide +kernel
theorem dX0_add_4 : decode cX0_add 4 = .ok (.iconst 5, 1) := by decide +kernel
theorem dX0_add_5 : decode cX0_add 5 = .ok (.if_icmp .ge 26, 3) := by decide +kernel
theorem dX0_add_8 : decode cX0_add 8 = .ok (.aload_n 0, 1) := by decide +kernel
theorem dX0_add_9 : decode cX0_add 9 = .ok (.aload_n 0, 1) := by decide +kernel
theorem dX0_add_10 : decode cX0_add 10 = .ok (.getfield 28, 3) := by decide +kernel
theorem dX0_add_13 : decode cX0_add 13 = .ok (.lload_n 1, 1) := by decide +kernel
theorem dX0_add_14 : decode cX0_add 14 = .ok (.iload_n 3, 1) := by decide +kernel
theorem dX0_add_15 : decode cX0_add 15 = .ok (.iload 4, 2) := by decide +kernel
theorem dX0_add_17 : decode cX0_add 17 = .ok (.iconst (-1), 1) := by decide +kernel
theorem dX0_add_18 : decode cX0_add 18 = .ok (.invokevirtual 52, 3) := by decide +kernel
theorem dX0_add_21 : decode cX0_add 21 = .ok (.aload_n 0, 1) := by decide +kernel
theorem dX0_add_22 : decode cX0_add 22 = .ok (.dup, 1) := by decide +kernel
theorem dX0_add_23 : decode cX0_add 23 = .ok (.getfield 28, 3) := by decide +kernel
theorem dX0_add_26 : decode cX0_add 26 = .ok (.iconst 1, 1) := by decide +kernel
theorem dX0_add_27 : decode cX0_add 27 = .ok (.iadd, 1) := by decide +kernel
theorem dX0_add_28 : decode cX0_add 28 = .ok (.putfield 28, 3) := by decide +kernel
theorem dX0_add_31 : decode cX0_add 31 = .ok (.return_, 1) := by decide +kernel
theorem dX0_write_0 : decode cX0_write 0 = .ok (.aload_n 0, 1) := by decide +kernel
theorem dX0_write_1 : decode cX0_write 1 = .ok (.getfield 9, 3) := by decide +kernel
theorem dX0_write_4 : decode cX0_write 4 = .ok (.iload_n 1, 1) := by decide +kernel
theorem dX0_write_5 : decode cX0_write 5 = .ok (.lload_n 2, 1) := by decide +kernel
theorem dX0_write_6 : decode cX0_write 6 = .ok (.lastore, 1) := by decide +kernel
theorem dX0_write_7 : decode cX0_write 7 = .ok (.aload_n 0, 1) := by decide +kernel
theorem dX0_write_8 : decode cX0_write 8 = .ok (.getfield 15, 3) := by decide +kernel
theorem dX0_write_11 : decode cX0_write 11 = .ok (.iload_n 1, 1) := by decide +kernel
theorem dX0_write_12 : decode cX0_write 12 = .ok (.iload 4, 2) := by decide +kernel
theorem dX0_write_14 : decode cX0_write 14 = .ok (.iastore, 1) := by decide +kernel
theorem dX0_write_15 : decode cX0_write 15 = .ok (.aload_n 0, 1) := by decide +kernel
theorem dX0_write_16 : decode cX0_write 16 = .ok (.getfield 19, 3) := by decide +kernel
theorem dX0_write_19 : decode cX0_write 19 = .ok (.iload_n 1, 1) := by decide +kernel
theorem dX0_write_20 : decode cX0_write 20 = .ok (.iload 5, 2) := by decide +kernel
theorem dX0_write_22 : decode cX0_write 22 = .ok (.iastore, 1) := by decide +kernel
theorem dX0_write_23 : decode cX0_write 23 = .ok (.aload_n 0, 1) := by decide +kernel
theorem dX0_write_24 : decode cX0_write 24 = .ok (.getfield 22, 3) := by decide +kernel
theorem dX0_write_27 : decode cX0_write 27 = .ok (.iload_n 1, 1) := by decide +kernel
theorem dX0_write_28 : decode cX0_write 28 = .ok (.iload 6, 2) := by decide +kernel
theorem dX0_write_30 : decode cX0_write 30 = .ok (.iastore, 1) := by decide +kernel
theorem dX0_write_31 : decode cX0_write 31 = .ok (.return_, 1) := by decide +kernel
theorem dX1_init_0 : decode cX1_init 0 = .ok (.aload_n 0, 1) := by decide +kernel
theorem dX1_init_1 : decode cX1_init 1 = .ok (.invokespecial 3, 3) := by decide +kernel
theorem dX1_init_4 : decode cX1_init 4 = .ok (.aload_n 0, 1) := by decide +kernel
theorem dX1_init_5 : decode cX1_init 5 = .ok (.iconst 3, 1) := by decide +kernel
theorem dX1_init_6 : decode cX1_init 6 = .ok (.newarray .long, 2) := by decide +kernel
theorem dX1_init_8 : decode cX1_init 8 = .ok (.putfield 9, 3) := by decide +kernel
theorem dX1_init_11 : decode cX1_init 11 = .ok (.aload_n 0, 1) := by decide +kernel
theorem dX1_init_12 : decode cX1_init 12 = .ok (.iconst 3, 1) := by decide +kernel
theorem dX1_init_13 : decode cX1_init 13 = .ok (.newarray .int, 2) := by decide +kernel
theorem dX1_init_15 : decode cX1_init 15 = .ok (.putfield 15, 3) := by decide +kernel
theorem dX1_init_18 : decode cX1_init 18 = .ok (.aload_n 0, 1) := by decide +kernel
theorem dX1_init_19 : decode cX1_init 19 = .ok (.iconst 3, 1) := by decide +kernel
theorem dX1_init_20 : decode cX1_init 20 = .ok (.newarray .boolean, 2) := by decide +kernel
theorem dX1_init_22 : decode cX1_init 22 = .ok (.putfield 19, 3) := by decide +kernel
theorem dX1_init_25 : decode cX1_init 25 = .ok (.aload_n 0, 1) := by decide +kernel
theorem dX1_init_26 : decode cX1_init 26 = .ok (.bipush 6, 2) := by decide +kernel
theorem dX1_init_28 : decode cX1_init 28 = .ok (.newarray .int, 2) := by decide +kernel
theorem dX1_init_30 : decode cX1_init 30 = .ok (.putfield 23, 3) := by decide +kernel
theorem dX1_init_33 : decode cX1_init 33 = .ok (.aload_n 0, 1) := by decide +kernel
theorem dX1_init_34 : decode cX1_init 34 = .ok (.bipush 6, 2) := by decide +kernel
theorem dX1_init_36 : decode cX1_init 36 = .ok (.newarray .int, 2) := by decide +kernel
theorem dX1_init_38 : decode cX1_init 38 = .ok (.putfield 26, 3) := by decide +kernel
theorem dX1_init_41 : decode cX1_init 41 = .ok (.aload_n 0, 1) := by decide +kernel
theorem dX1_init_42 : decode cX1_init 42 = .ok (.bipush 6, 2) := by decide +kernel
theorem dX1_init_44 : decode cX1_init 44 = .ok (.newarray .int, 2) := by decide +kernel
theorem dX1_init_46 : decode cX1_init 46 = .ok (.putfield 29, 3) := by decide +kernel
theorem dX1_init_49 : decode cX1_init 49 = .ok (.aload_n 0, 1) := by decide +kernel
theorem dX1_init_50 : decode cX1_init 50 = .ok (.bipush 6, 2) := by decide +kernel
theorem dX1_init_52 : decode cX1_init 52 = .ok (.newarray .int, 2) := by decide +kernel
theorem dX1_init_54 : decode cX1_init 54 = .ok (.putfield 32, 3) := by decide +kernel
theorem dX1_init_57 : decode cX1_init 57 = .ok (.aload_n 0, 1) := by decide +kernel
theorem dX1_init_58 : decode cX1_init 58 = .ok (.bipush 6, 2) := by decide +kernel
theorem dX1_init_60 : decode cX1_init 60 = .ok (.newarray .int, 2) := by decide +kernel
theorem dX1_init_62 : decode cX1_init 62 = .ok (.putfield 35, 3) := by decide +kernel
theorem dX1_init_65 : decode cX1_init 65 = .ok (.aload_n 0, 1) := by decide +kernel
theorem dX1_init_66 : decode cX1_init 66 = .ok (.bipush 6, 2) := by decide +kernel
theorem dX1_init_68 : decode cX1_init 68 = .ok (.newarray .int, 2) := by decide +kernel
theorem dX1_init_70 : decode cX1_init 70 = .ok (.putfield 38, 3) := by decide +kernel
theorem dX1_init_73 : decode cX1_init 73 = .ok (.return_, 1) := by decide +kernel
theorem dX1_clear_0 : decode cX1_clear 0 = .ok (.aload_n 0, 1) := by decide +kernel
theorem dX1_clear_1 : decode cX1_clear 1 = .ok (.iconst 0, 1) := by decide +kernel
theorem dX1_clear_2 : decode cX1_clear 2 = .ok (.putfield 41, 3) := by decide +kernel
theorem dX1_clear_5 : decode cX1_clear 5 = .ok (.aload_n 0, 1) := by decide +kernel
theorem dX1_clear_6 : decode cX1_clear 6 = .ok (.iconst 0, 1) := by decide +kernel
theorem dX1_clear_7 : decode cX1_clear 7 = .ok (.putfield 45, 3) := by decide +kernel
theorem dX1_clear_10 : decode cX1_clear 10 = .ok (.aload_n 0, 1) := by decide +kernel
theorem dX1_clear_11 : decode cX1_clear 11 = .ok (.iconst 0, 1) := by decide +kernel
theorem dX1_clear_12 : decode cX1_clear 12 = .ok (.putfield 48, 3) := by decide +kernel
theorem dX1_clear_15 : decode cX1_clear 15 = .ok (.return_, 1) := by decide +kernel
theorem dX1_hasHold_0 : decode cX1_hasHold 0 = .ok (.iload_n 1, 1) := by decide +kernel
theorem dX1_hasHold_1 : decode cX1_hasHold 1 = .ok (.ifCond .lt 15, 3) := by decide +kernel
theorem dX1_hasHold_4 : decode cX1_hasHold 4 = .ok (.iload_n 1, 1) := by decide +kernel
theorem dX1_hasHold_5 : decode cX1_hasHold 5 = .ok (.aload_n 0, 1) := by decide +kernel
theorem dX1_hasHold_6 : decode cX1_hasHold 6 = .ok (.getfield 41, 3) := by decide +kernel
theorem dX1_hasHold_9 : decode cX1_hasHold 9 = .ok (.if_icmp .ge 7, 3) := by decide +kernel
theorem dX1_hasHold_12 : decode cX1_hasHold 12 = .ok (.iconst 1, 1) := by decide +kernel
theorem dX1_hasHold_13 : decode cX1_hasHold 13 = .ok (.goto 4, 3) := by decide +kernel
theorem dX1_hasHold_16 : decode cX1_hasHold 16 = .ok (.iconst 0, 1) := by decide +kernel
theorem dX1_hasHold_17 : decode cX1_hasHold 17 = .ok (.ireturn, 1) := by decide +kernel
theorem dX1_hasSpot_0 : decode cX1_hasSpot 0 = .ok (.iload_n 1, 1) := by decide +kernel
theorem dX1_hasSpot_1 : decode cX1_hasSpot 1 = .ok (.ifCond .lt 15, 3) := by decide +kernel
theorem dX1_hasSpot_4 : decode cX1_hasSpot 4 = .ok (.iload_n 1, 1) := by decide +kernel
theorem dX1_hasSpot_5 : decode cX1_hasSpot 5 = .ok (.aload_n 0, 1) := by decide +kernel
theorem dX1_hasSpot_6 : decode cX1_hasSpot 6 = .ok (.getfield 45, 3) := by decide +kernel
theorem dX1_hasSpot_9 : decode cX1_hasSpot 9 = .ok (.if_icmp .ge 7, 3) := by decide +kernel
theorem dX1_hasSpot_12 : decode cX1_hasSpot 12 = .ok (.iconst 1, 1) := by decide +kernel
theorem dX1_hasSpot_13 : decode cX1_hasSpot 13 = .ok (.goto 4, 3) := by decide +kernel
theorem dX1_hasSpot_16 : decode cX1_hasSpot 16 = .ok (.iconst 0, 1) := by decide +kernel
theorem dX1_hasSpot_17 : decode cX1_hasSpot 17 = .ok (.ireturn, 1) := by decide +kernel
theorem dX1_isHoldCalled_0 : decode cX1_isHoldCalled 0 = .ok (.iconst 0, 1) := by decide +kernel
theorem dX1_isHoldCalled_1 : decode cX1_isHoldCalled 1 = .ok (.istore_n 3, 1) := by decide +kernel
theorem dX1_isHoldCalled_2 : decode cX1_isHoldCalled 2 = .ok (.iload_n 3, 1) := by decide +kernel
theorem dX1_isHoldCalled_3 : decode cX1_isHoldCalled 3 = .ok (.aload_n 0, 1) := by decide +kernel
theorem dX1_isHoldCalled_4 : decode cX1_isHoldCalled 4 = .ok (.getfield 41, 3) := by decide +kernel
theorem dX1_isHoldCalled_7 : decode cX1_isHoldCalled 7 = .ok (.if_icmp .ge 22, 3) := by decide +kernel
theorem dX1_isHoldCalled_10 : decode cX1_isHoldCalled 10 = .ok (.aload_n 0, 1) := by decide +kernel
theorem dX1_isHoldCalled_11 : decode cX1_isHoldCalled 11 = .ok (.getfield 9, 3) := by decide +kernel
theorem dX1_isHoldCalled_14 : decode cX1_isHoldCalled 14 = .ok (.iload_n 3, 1) := by decide +kernel
theorem dX1_isHoldCalled_15 : decode cX1_isHoldCalled 15 = .ok (.laload, 1) := by decide +kernel
theorem dX1_isHoldCalled_16 : decode cX1_isHoldCalled 16 = .ok (.lload_n 1, 1) := by decide +kernel
theorem dX1_isHoldCalled_17 : decode cX1_isHoldCalled 17 = .ok (.lcmp, 1) := by decide +kernel
theorem dX1_isHoldCalled_18 : decode cX1_isHoldCalled 18 = .ok (.ifCond .ne 5, 3) := by decide +kernel
theorem dX1_isHoldCalled_21 : decode cX1_isHoldCalled 21 = .ok (.iconst 1, 1) := by decide +kernel
theorem dX1_isHoldCalled_22 : decode cX1_isHoldCalled 22 = .ok (.ireturn, 1) := by decide +kernel
theorem dX1_isHoldCalled_23 : decode cX1_isHoldCalled 23 = .ok (.iinc 3 1, 3) := by decide +kernel
theorem dX1_isHoldCalled_26 : decode cX1_isHoldCalled 26 = .ok (.goto (-24), 3) := by decide +kernel
theorem dX1_isHoldCalled_29 : decode cX1_isHoldCalled 29 = .ok (.iconst 0, 1) := by decide +kernel
theorem dX1_isHoldCalled_30 : decode cX1_isHoldCalled 30 = .ok (.ireturn, 1) := by decide +kernel
theorem dX1_addHold_0 : decode cX1_addHold 0 = .ok (.aload_n 0, 1) := by decide +kernel
theorem dX1_addHold_1 : decode cX1_addHold 1 = .ok (.getfield 41, 3) := by decide +kernel
theorem dX1_addHold_4 : decode cX1_addHold 4 = .ok (.iconst 3, 1) := by decide +kernel
theorem dX1_addHold_5 : decode cX1_addHold 5 = .ok (.if_icmp .lt 4, 3) := by decide +kernel
theorem dX1_addHold_8 : decode cX1_addHold 8 = .ok (.return_, 1) := by decide +kernel
theorem dX1_addHold_9 : decode cX1_addHold 9 = .ok (.aload_n 0, 1) := by decide +kernel
theorem dX1_addHold_10 : decode cX1_addHold 10 = .ok (.getfield 9, 3) := by decide +kernel
theorem dX1_addHold_13 : decode cX1_addHold 13 = .ok (.aload_n 0, 1) := by decide +kernel
theorem dX1_addHold_14 : decode cX1_addHold 14 = .ok (.getfield 41, 3) := by decide +kernel
theorem dX1_addHold_17 : decode cX1_addHold 17 = .ok (.lload_n 1, 1) := by decide +kernel
theorem dX1_addHold_18 : decode cX1_addHold 18 = .ok (.lastore, 1) := by decide +kernel
theorem dX1_addHold_19 : decode cX1_addHold 19 = .ok (.aload_n 0, 1) := by decide +kernel
theorem dX1_addHold_20 : decode cX1_addHold 20 = .ok (.getfield 15, 3) := by decide +kernel
theorem dX1_addHold_23 : decode cX1_addHold 23 = .ok (.aload_n 0, 1) := by decide +kernel
theorem dX1_addHold_24 : decode cX1_addHold 24 = .ok (.getfield 41, 3) := by decide +kernel
theorem dX1_addHold_27 : decode cX1_addHold 27 = .ok (.iload_n 3, 1) := by decide +kernel
theorem dX1_addHold_28 : decode cX1_addHold 28 = .ok (.iastore, 1) := by decide +kernel
theorem dX1_addHold_29 : decode cX1_addHold 29 = .ok (.aload_n 0, 1) := by decide +kernel
theorem dX1_addHold_30 : decode cX1_addHold 30 = .ok (.getfield 19, 3) := by decide +kernel
theorem dX1_addHold_33 : decode cX1_addHold 33 = .ok (.aload_n 0, 1) := by decide +kernel
theorem dX1_addHold_34 : decode cX1_addHold 34 = .ok (.getfield 41, 3) := by decide +kernel
theorem dX1_addHold_37 : decode cX1_addHold 37 = .ok (.iload 4, 2) := by decide +kernel
theorem dX1_addHold_39 : decode cX1_addHold 39 = .ok (.bastore, 1) := by decide +kernel
theorem dX1_addHold_40 : decode cX1_addHold 40 = .ok (.aload_n 0, 1) := by decide +kernel
theorem dX1_addHold_41 : decode cX1_addHold 41 = .ok (.dup, 1) := by decide +kernel
theorem dX1_addHold_42 : decode cX1_addHold 42 = .ok (.getfield 41, 3) := by decide +kernel
theorem dX1_addHold_45 : decode cX1_addHold 45 = .ok (.iconst 1, 1) := by decide +kernel
theorem dX1_addHold_46 : decode cX1_addHold 46 = .ok (.iadd, 1) := by decide +kernel
theorem dX1_addHold_47 : decode cX1_addHold 47 = .ok (.putfield 41, 3) := by decide +kernel
theorem dX1_addHold_50 : decode cX1_addHold 50 = .ok (.return_, 1) := by decide +kernel
theorem dX1_addSpot_0 : decode cX1_addSpot 0 = .ok (.aload_n 0, 1) := by decide +kernel
theorem dX1_addSpot_1 : decode cX1_addSpot 1 = .ok (.getfield 41, 3) := by decide +kernel
theorem dX1_addSpot_4 : decode cX1_addSpot 4 = .ok (.iconst 1, 1) := by decide +kernel
theorem dX1_addSpot_5 : decode cX1_addSpot 5 = .ok (.isub, 1) := by decide +kernel
theorem dX1_addSpot_6 : decode cX1_addSpot 6 = .ok (.istore_n 3, 1) := by decide +kernel
theorem dX1_addSpot_7 : decode cX1_addSpot 7 = .ok (.aload_n 0, 1) := by decide +kernel
theorem dX1_addSpot_8 : decode cX1_addSpot 8 = .ok (.getfield 45, 3) := by decide +kernel
theorem dX1_addSpot_11 : decode cX1_addSpot 11 = .ok (.bipush 6, 2) := by decide +kernel
theorem dX1_addSpot_13 : decode cX1_addSpot 13 = .ok (.if_icmp .ge 11, 3) := by decide +kernel
theorem dX1_addSpot_16 : decode cX1_addSpot 16 = .ok (.aload_n 0, 1) := by decide +kernel
theorem dX1_addSpot_17 : decode cX1_addSpot 17 = .ok (.iload_n 3, 1) := by decide +kernel
theorem dX1_addSpot_18 : decode cX1_addSpot 18 = .ok (.invokevirtual 57, 3) := by decide +kernel
theorem dX1_addSpot_21 : decode cX1_addSpot 21 = .ok (.ifCond .ne 4, 3) := by decide +kernel
theorem dX1_addSpot_24 : decode cX1_addSpot 24 = .ok (.return_, 1) := by decide +kernel
theorem dX1_addSpot_25 : decode cX1_addSpot 25 = .ok (.aload_n 0, 1) := by decide +kernel
theorem dX1_addSpot_26 : decode cX1_addSpot 26 = .ok (.getfield 45, 3) := by decide +kernel
theorem dX1_addSpot_29 : decode cX1_addSpot 29 = .ok (.istore 4, 2) := by decide +kernel
theorem dX1_addSpot_31 : decode cX1_addSpot 31 = .ok (.aload_n 0, 1) := by decide +kernel
theorem dX1_addSpot_32 : decode cX1_addSpot 32 = .ok (.getfield 23, 3) := by decide +kernel
theorem dX1_addSpot_35 : decode cX1_addSpot 35 = .ok (.iload 4, 2) := by decide +kernel
theorem dX1_addSpot_37 : decode cX1_addSpot 37 = .ok (.iload_n 3, 1) := by decide +kernel
theorem dX1_addSpot_38 : decode cX1_addSpot 38 = .ok (.iastore, 1) := by decide +kernel
theorem dX1_addSpot_39 : decode cX1_addSpot 39 = .ok (.aload_n 0, 1) := by decide +kernel
theorem dX1_addSpot_40 : decode cX1_addSpot 40 = .ok (.getfield 26, 3) := by decide +kernel
theorem dX1_addSpot_43 : decode cX1_addSpot 43 = .ok (.iload 4, 2) := by decide +kernel
theorem dX1_addSpot_45 : decode cX1_addSpot 45 = .ok (.iload_n 1, 1) := by decide +kernel
theorem dX1_addSpot_46 : decode cX1_addSpot 46 = .ok (.iastore, 1) := by decide +kernel
theorem dX1_addSpot_47 : decode cX1_addSpot 47 = .ok (.aload_n 0, 1) := by decide +kernel
theorem dX1_addSpot_48 : decode cX1_addSpot 48 = .ok (.getfield 29, 3) := by decide +kernel
theorem dX1_addSpot_51 : decode cX1_addSpot 51 = .ok (.iload 4, 2) := by decide +kernel
theorem dX1_addSpot_53 : decode cX1_addSpot 53 = .ok (.iload_n 2, 1) := by decide +kernel
theorem dX1_addSpot_54 : decode cX1_addSpot 54 = .ok (.iastore, 1) := by decide +kernel
theorem dX1_addSpot_55 : decode cX1_addSpot 55 = .ok (.aload_n 0, 1) := by decide +kernel
theorem dX1_addSpot_56 : decode cX1_addSpot 56 = .ok (.getfield 32, 3) := by decide +kernel
theorem dX1_addSpot_59 : decode cX1_addSpot 59 = .ok (.iload 4, 2) := by decide +kernel
theorem dX1_addSpot_61 : decode cX1_addSpot 61 = .ok (.iconst 0, 1) := by decide +kernel
theorem dX1_addSpot_62 : decode cX1_addSpot 62 = .ok (.iastore, 1) := by decide +kernel
theorem dX1_addSpot_63 : decode cX1_addSpot 63 = .ok (.iconst 0, 1) := by decide +kernel
theorem dX1_addSpot_64 : decode cX1_addSpot 64 = .ok (.istore 5, 2) := by decide +kernel
theorem dX1_addSpot_66 : decode cX1_addSpot 66 = .ok (.iload 5, 2) := by decide +kernel
theorem dX1_addSpot_68 : decode cX1_addSpot 68 = .ok (.iload 4, 2) := by decide +kernel
theorem dX1_addSpot_70 : decode cX1_addSpot 70 = .ok (.if_icmp .ge 71, 3) := by decide +kernel
theorem dX1_addSpot_73 : decode cX1_addSpot 73 = .ok (.aload_n 0, 1) := by decide +kernel
theorem dX1_addSpot_74 : decode cX1_addSpot 74 = .ok (.getfield 23, 3) := by decide +kernel
theorem dX1_addSpot_77 : decode cX1_addSpot 77 = .ok (.iload 5, 2) := by decide +kernel
theorem dX1_addSpot_79 : decode cX1_addSpot 79 = .ok (.iaload, 1) := by decide +kernel
theorem dX1_addSpot_80 : decode cX1_addSpot 80 = .ok (.iload_n 3, 1) := by decide +kernel
theorem dX1_addSpot_81 : decode cX1_addSpot 81 = .ok (.if_icmp .ne 29, 3) := by decide +kernel
theorem dX1_addSpot_84 : decode cX1_addSpot 84 = .ok (.aload_n 0, 1) := by decide +kernel
theorem dX1_addSpot_85 : decode cX1_addSpot 85 = .ok (.getfield 19, 3) := by decide +kernel
theorem dX1_addSpot_88 : decode cX1_addSpot 88 = .ok (.iload_n 3, 1) := by decide +kernel
theorem dX1_addSpot_89 : decode cX1_addSpot 89 = .ok (.baload, 1) := by decide +kernel
theorem dX1_addSpot_90 : decode cX1_addSpot 90 = .ok (.ifCond .eq 20, 3) := by decide +kernel
theorem dX1_addSpot_93 : decode cX1_addSpot 93 = .ok (.aload_n 0, 1) := by decide +kernel
theorem dX1_addSpot_94 : decode cX1_addSpot 94 = .ok (.getfield 32, 3) := by decide +kernel
theorem dX1_addSpot_97 : decode cX1_addSpot 97 = .ok (.iload 4, 2) := by decide +kernel
theorem dX1_addSpot_99 : decode cX1_addSpot 99 = .ok (.dup2, 1) := by decide +kernel
theorem dX1_addSpot_100 : decode cX1_addSpot 100 = .ok (.iaload, 1) := by decide +kernel
theorem dX1_addSpot_101 : decode cX1_addSpot 101 = .ok (.iconst 1, 1) := by decide +kernel
theorem dX1_addSpot_102 : decode cX1_addSpot 102 = .ok (.iload 5, 2) := by decide +kernel
theorem dX1_addSpot_104 : decode cX1_addSpot 104 = .ok (.ishl, 1) := by decide +kernel
theorem dX1_addSpot_105 : decode cX1_addSpot 105 = .ok (.ior, 1) := by decide +kernel
theorem dX1_addSpot_106 : decode cX1_addSpot 106 = .ok (.iastore, 1) := by decide +kernel
theorem dX1_addSpot_107 : decode cX1_addSpot 107 = .ok (.goto 28, 3) := by decide +kernel
theorem dX1_addSpot_110 : decode cX1_addSpot 110 = .ok (.aload_n 0, 1) := by decide +kernel
theorem dX1_addSpot_111 : decode cX1_addSpot 111 = .ok (.getfield 23, 3) := by decide +kernel
theorem dX1_addSpot_114 : decode cX1_addSpot 114 = .ok (.iload 5, 2) := by decide +kernel
theorem dX1_addSpot_116 : decode cX1_addSpot 116 = .ok (.iaload, 1) := by decide +kernel
theorem dX1_addSpot_117 : decode cX1_addSpot 117 = .ok (.iload_n 3, 1) := by decide +kernel
theorem dX1_addSpot_118 : decode cX1_addSpot 118 = .ok (.if_icmp .ne 17, 3) := by decide +kernel
theorem dX1_addSpot_121 : decode cX1_addSpot 121 = .ok (.aload_n 0, 1) := by decide +kernel
theorem dX1_addSpot_122 : decode cX1_addSpot 122 = .ok (.getfield 32, 3) := by decide +kernel
theorem dX1_addSpot_125 : decode cX1_addSpot 125 = .ok (.iload 5, 2) := by decide +kernel
theorem dX1_addSpot_127 : decode cX1_addSpot 127 = .ok (.dup2, 1) := by decide +kernel
theorem dX1_addSpot_128 : decode cX1_addSpot 128 = .ok (.iaload, 1) := by decide +kernel
theorem dX1_addSpot_129 : decode cX1_addSpot 129 = .ok (.iconst 1, 1) := by decide +kernel
theorem dX1_addSpot_130 : decode cX1_addSpot 130 = .ok (.iload 4, 2) := by decide +kernel
theorem dX1_addSpot_132 : decode cX1_addSpot 132 = .ok (.ishl, 1) := by decide +kernel
theorem dX1_addSpot_133 : decode cX1_addSpot 133 = .ok (.ior, 1) := by decide +kernel
theorem dX1_addSpot_134 : decode cX1_addSpot 134 = .ok (.iastore, 1) := by decide +kernel
theorem dX1_addSpot_135 : decode cX1_addSpot 135 = .ok (.iinc 5 1, 3) := by decide +kernel
theorem dX1_addSpot_138 : decode cX1_addSpot 138 = .ok (.goto (-72), 3) := by decide +kernel
theorem dX1_addSpot_141 : decode cX1_addSpot 141 = .ok (.aload_n 0, 1) := by decide +kernel
theorem dX1_addSpot_142 : decode cX1_addSpot 142 = .ok (.dup, 1) := by decide +kernel
theorem dX1_addSpot_143 : decode cX1_addSpot 143 = .ok (.getfield 45, 3) := by decide +kernel
theorem dX1_addSpot_146 : decode cX1_addSpot 146 = .ok (.iconst 1, 1) := by decide +kernel
theorem dX1_addSpot_147 : decode cX1_addSpot 147 = .ok (.iadd, 1) := by decide +kernel
theorem dX1_addSpot_148 : decode cX1_addSpot 148 = .ok (.putfield 45, 3) := by decide +kernel
theorem dX1_addSpot_151 : decode cX1_addSpot 151 = .ok (.return_, 1) := by decide +kernel
theorem dX1_takesJoint_0 : decode cX1_takesJoint 0 = .ok (.aload_n 0, 1) := by decide +kernel
theorem dX1_takesJoint_1 : decode cX1_takesJoint 1 = .ok (.getfield 45, 3) := by decide +kernel
theorem dX1_takesJoint_4 : decode cX1_takesJoint 4 = .ok (.iconst 1, 1) := by decide +kernel
theorem dX1_takesJoint_5 : decode cX1_takesJoint 5 = .ok (.isub, 1) := by decide +kernel
theorem dX1_takesJoint_6 : decode cX1_takesJoint 6 = .ok (.istore_n 1, 1) := by decide +kernel
theorem dX1_takesJoint_7 : decode cX1_takesJoint 7 = .ok (.iload_n 1, 1) := by decide +kernel
theorem dX1_takesJoint_8 : decode cX1_takesJoint 8 = .ok (.iconst 1, 1) := by decide +kernel
theorem dX1_takesJoint_9 : decode cX1_takesJoint 9 = .ok (.if_icmp .lt 35, 3) := by decide +kernel
theorem dX1_takesJoint_12 : decode cX1_takesJoint 12 = .ok (.aload_n 0, 1) := by decide +kernel
theorem dX1_takesJoint_13 : decode cX1_takesJoint 13 = .ok (.getfield 23, 3) := by decide +kernel
theorem dX1_takesJoint_16 : decode cX1_takesJoint 16 = .ok (.iload_n 1, 1) := by decide +kernel
theorem dX1_takesJoint_17 : decode cX1_takesJoint 17 = .ok (.iaload, 1) := by decide +kernel
theorem dX1_takesJoint_18 : decode cX1_takesJoint 18 = .ok (.aload_n 0, 1) := by decide +kernel
theorem dX1_takesJoint_19 : decode cX1_takesJoint 19 = .ok (.getfield 41, 3) := by decide +kernel
theorem dX1_takesJoint_22 : decode cX1_takesJoint 22 = .ok (.iconst 1, 1) := by decide +kernel
theorem dX1_takesJoint_23 : decode cX1_takesJoint 23 = .ok (.isub, 1) := by decide +kernel
theorem dX1_takesJoint_24 : decode cX1_takesJoint 24 = .ok (.if_icmp .ne 20, 3) := by decide +kernel
theorem dX1_takesJoint_27 : decode cX1_takesJoint 27 = .ok (.aload_n 0, 1) := by decide +kernel
theorem dX1_takesJoint_28 : decode cX1_takesJoint 28 = .ok (.getfield 23, 3) := by decide +kernel
theorem dX1_takesJoint_31 : decode cX1_takesJoint 31 = .ok (.iload_n 1, 1) := by decide +kernel
theorem dX1_takesJoint_32 : decode cX1_takesJoint 32 = .ok (.iconst 1, 1) := by decide +kernel
theorem dX1_takesJoint_33 : decode cX1_takesJoint 33 = .ok (.isub, 1) := by decide +kernel
theorem dX1_takesJoint_34 : decode cX1_takesJoint 34 = .ok (.iaload, 1) := by decide +kernel
theorem dX1_takesJoint_35 : decode cX1_takesJoint 35 = .ok (.aload_n 0, 1) := by decide +kernel
theorem dX1_takesJoint_36 : decode cX1_takesJoint 36 = .ok (.getfield 41, 3) := by decide +kernel
theorem dX1_takesJoint_39 : decode cX1_takesJoint 39 = .ok (.iconst 1, 1) := by decide +kernel
theorem dX1_takesJoint_40 : decode cX1_takesJoint 40 = .ok (.isub, 1) := by decide +kernel
theorem dX1_takesJoint_41 : decode cX1_takesJoint 41 = .ok (.if_icmp .eq 5, 3) := by decide +kernel
theorem dX1_takesJoint_44 : decode cX1_takesJoint 44 = .ok (.iconst 0, 1) := by decide +kernel
theorem dX1_takesJoint_45 : decode cX1_takesJoint 45 = .ok (.ireturn, 1) := by decide +kernel
theorem dX1_takesJoint_46 : decode cX1_takesJoint 46 = .ok (.aload_n 0, 1) := by decide +kernel
theorem dX1_takesJoint_47 : decode cX1_takesJoint 47 = .ok (.getfield 48, 3) := by decide +kernel
theorem dX1_takesJoint_50 : decode cX1_takesJoint 50 = .ok (.ifCond .eq 18, 3) := by decide +kernel
theorem dX1_takesJoint_53 : decode cX1_takesJoint 53 = .ok (.aload_n 0, 1) := by decide +kernel
theorem dX1_takesJoint_54 : decode cX1_takesJoint 54 = .ok (.getfield 35, 3) := by decide +kernel
theorem dX1_takesJoint_57 : decode cX1_takesJoint 57 = .ok (.aload_n 0, 1) := by decide +kernel
theorem dX1_takesJoint_58 : decode cX1_takesJoint 58 = .ok (.getfield 48, 3) := by decide +kernel
theorem dX1_takesJoint_61 : decode cX1_takesJoint 61 = .ok (.iconst 1, 1) := by decide +kernel
theorem dX1_takesJoint_62 : decode cX1_takesJoint 62 = .ok (.isub, 1) := by decide +kernel
theorem dX1_takesJoint_63 : decode cX1_takesJoint 63 = .ok (.iaload, 1) := by decide +kernel
theorem dX1_takesJoint_64 : decode cX1_takesJoint 64 = .ok (.iload_n 1, 1) := by decide +kernel
theorem dX1_takesJoint_65 : decode cX1_takesJoint 65 = .ok (.if_icmp .eq 7, 3) := by decide +kernel
theorem dX1_takesJoint_68 : decode cX1_takesJoint 68 = .ok (.iconst 1, 1) := by decide +kernel
theorem dX1_takesJoint_69 : decode cX1_takesJoint 69 = .ok (.goto 4, 3) := by decide +kernel
theorem dX1_takesJoint_72 : decode cX1_takesJoint 72 = .ok (.iconst 0, 1) := by decide +kernel
theorem dX1_takesJoint_73 : decode cX1_takesJoint 73 = .ok (.ireturn, 1) := by decide +kernel
theorem dX1_addJoint_0 : decode cX1_addJoint 0 = .ok (.aload_n 0, 1) := by decide +kernel
theorem dX1_addJoint_1 : decode cX1_addJoint 1 = .ok (.getfield 48, 3) := by decide +kernel
theorem dX1_addJoint_4 : decode cX1_addJoint 4 = .ok (.bipush 6, 2) := by decide +kernel
theorem dX1_addJoint_6 : decode cX1_addJoint 6 = .ok (.if_icmp .ge 38, 3) := by decide +kernel
theorem dX1_addJoint_9 : decode cX1_addJoint 9 = .ok (.aload_n 0, 1) := by decide +kernel
theorem dX1_addJoint_10 : decode cX1_addJoint 10 = .ok (.getfield 35, 3) := by decide +kernel
theorem dX1_addJoint_13 : decode cX1_addJoint 13 = .ok (.aload_n 0, 1) := by decide +kernel
theorem dX1_addJoint_14 : decode cX1_addJoint 14 = .ok (.getfield 48, 3) := by decide +kernel
theorem dX1_addJoint_17 : decode cX1_addJoint 17 = .ok (.aload_n 0, 1) := by decide +kernel
theorem dX1_addJoint_18 : decode cX1_addJoint 18 = .ok (.getfield 45, 3) := by decide +kernel
theorem dX1_addJoint_21 : decode cX1_addJoint 21 = .ok (.iconst 1, 1) := by decide +kernel
theorem dX1_addJoint_22 : decode cX1_addJoint 22 = .ok (.isub, 1) := by decide +kernel
theorem dX1_addJoint_23 : decode cX1_addJoint 23 = .ok (.iastore, 1) := by decide +kernel
theorem dX1_addJoint_24 : decode cX1_addJoint 24 = .ok (.aload_n 0, 1) := by decide +kernel
theorem dX1_addJoint_25 : decode cX1_addJoint 25 = .ok (.getfield 38, 3) := by decide +kernel
theorem dX1_addJoint_28 : decode cX1_addJoint 28 = .ok (.aload_n 0, 1) := by decide +kernel
theorem dX1_addJoint_29 : decode cX1_addJoint 29 = .ok (.getfield 48, 3) := by decide +kernel
theorem dX1_addJoint_32 : decode cX1_addJoint 32 = .ok (.iload_n 1, 1) := by decide +kernel
theorem dX1_addJoint_33 : decode cX1_addJoint 33 = .ok (.iastore, 1) := by decide +kernel
theorem dX1_addJoint_34 : decode cX1_addJoint 34 = .ok (.aload_n 0, 1) := by decide +kernel
theorem dX1_addJoint_35 : decode cX1_addJoint 35 = .ok (.dup, 1) := by decide +kernel
theorem dX1_addJoint_36 : decode cX1_addJoint 36 = .ok (.getfield 48, 3) := by decide +kernel
theorem dX1_addJoint_39 : decode cX1_addJoint 39 = .ok (.iconst 1, 1) := by decide +kernel
theorem dX1_addJoint_40 : decode cX1_addJoint 40 = .ok (.iadd, 1) := by decide +kernel
theorem dX1_addJoint_41 : decode cX1_addJoint 41 = .ok (.putfield 48, 3) := by decide +kernel
theorem dX1_addJoint_44 : decode cX1_addJoint 44 = .ok (.return_, 1) := by decide +kernel
theorem dX1_isOnWay_0 : decode cX1_isOnWay 0 = .ok (.aload_n 0, 1) := by decide +kernel
theorem dX1_isOnWay_1 : decode cX1_isOnWay 1 = .ok (.iload_n 1, 1) := by decide +kernel
theorem dX1_isOnWay_2 : decode cX1_isOnWay 2 = .ok (.invokevirtual 61, 3) := by decide +kernel
theorem dX1_isOnWay_5 : decode cX1_isOnWay 5 = .ok (.ifCond .eq 29, 3) := by decide +kernel
theorem dX1_isOnWay_8 : decode cX1_isOnWay 8 = .ok (.aload_n 0, 1) := by decide +kernel
theorem dX1_isOnWay_9 : decode cX1_isOnWay 9 = .ok (.iload_n 2, 1) := by decide +kernel
theorem dX1_isOnWay_10 : decode cX1_isOnWay 10 = .ok (.invokevirtual 61, 3) := by decide +kernel
theorem dX1_isOnWay_13 : decode cX1_isOnWay 13 = .ok (.ifCond .eq 21, 3) := by decide +kernel
theorem dX1_isOnWay_16 : decode cX1_isOnWay 16 = .ok (.aload_n 0, 1) := by decide +kernel
theorem dX1_isOnWay_17 : decode cX1_isOnWay 17 = .ok (.getfield 32, 3) := by decide +kernel
theorem dX1_isOnWay_20 : decode cX1_isOnWay 20 = .ok (.iload_n 2, 1) := by decide +kernel
theorem dX1_isOnWay_21 : decode cX1_isOnWay 21 = .ok (.iaload, 1) := by decide +kernel
theorem dX1_isOnWay_22 : decode cX1_isOnWay 22 = .ok (.iload_n 1, 1) := by decide +kernel
theorem dX1_isOnWay_23 : decode cX1_isOnWay 23 = .ok (.ishr, 1) := by decide +kernel
theorem dX1_isOnWay_24 : decode cX1_isOnWay 24 = .ok (.iconst 1, 1) := by decide +kernel
theorem dX1_isOnWay_25 : decode cX1_isOnWay 25 = .ok (.iand, 1) := by decide +kernel
theorem dX1_isOnWay_26 : decode cX1_isOnWay 26 = .ok (.iconst 1, 1) := by decide +kernel
theorem dX1_isOnWay_27 : decode cX1_isOnWay 27 = .ok (.if_icmp .ne 7, 3) := by decide +kernel
theorem dX1_isOnWay_30 : decode cX1_isOnWay 30 = .ok (.iconst 1, 1) := by decide +kernel
theorem dX1_isOnWay_31 : decode cX1_isOnWay 31 = .ok (.goto 4, 3) := by decide +kernel
theorem dX1_isOnWay_34 : decode cX1_isOnWay 34 = .ok (.iconst 0, 1) := by decide +kernel
theorem dX1_isOnWay_35 : decode cX1_isOnWay 35 = .ok (.ireturn, 1) := by decide +kernel
theorem dX2_init_0 : decode cX2_init 0 = .ok (.aload_n 0, 1) := by decide +kernel
theorem dX2_init_1 : decode cX2_init 1 = .ok (.invokespecial 3, 3) := by decide +kernel
theorem dX2_init_4 : decode cX2_init 4 = .ok (.aload_n 0, 1) := by decide +kernel
theorem dX2_init_5 : decode cX2_init 5 = .ok (.bipush 8, 2) := by decide +kernel
theorem dX2_init_7 : decode cX2_init 7 = .ok (.anewarray 9, 3) := by decide +kernel
theorem dX2_init_10 : decode cX2_init 10 = .ok (.putfield 11, 3) := by decide +kernel
theorem dX2_init_13 : decode cX2_init 13 = .ok (.iconst 0, 1) := by decide +kernel
theorem dX2_init_14 : decode cX2_init 14 = .ok (.istore_n 1, 1) := by decide +kernel
theorem dX2_init_15 : decode cX2_init 15 = .ok (.iload_n 1, 1) := by decide +kernel
theorem dX2_init_16 : decode cX2_init 16 = .ok (.bipush 8, 2) := by decide +kernel
theorem dX2_init_18 : decode cX2_init 18 = .ok (.if_icmp .ge 22, 3) := by decide +kernel
theorem dX2_init_21 : decode cX2_init 21 = .ok (.aload_n 0, 1) := by decide +kernel
theorem dX2_init_22 : decode cX2_init 22 = .ok (.getfield 11, 3) := by decide +kernel
theorem dX2_init_25 : decode cX2_init 25 = .ok (.iload_n 1, 1) := by decide +kernel
theorem dX2_init_26 : decode cX2_init 26 = .ok (.new 9, 3) := by decide +kernel
theorem dX2_init_29 : decode cX2_init 29 = .ok (.dup, 1) := by decide +kernel
theorem dX2_init_30 : decode cX2_init 30 = .ok (.invokespecial 17, 3) := by decide +kernel
theorem dX2_init_33 : decode cX2_init 33 = .ok (.aastore, 1) := by decide +kernel
theorem dX2_init_34 : decode cX2_init 34 = .ok (.iinc 1 1, 3) := by decide +kernel
theorem dX2_init_37 : decode cX2_init 37 = .ok (.goto (-22), 3) := by decide +kernel
theorem dX2_init_40 : decode cX2_init 40 = .ok (.return_, 1) := by decide +kernel
theorem dX2_keep_0 : decode cX2_keep 0 = .ok (.aload_n 0, 1) := by decide +kernel
theorem dX2_keep_1 : decode cX2_keep 1 = .ok (.getfield 11, 3) := by decide +kernel
theorem dX2_keep_4 : decode cX2_keep 4 = .ok (.aload_n 0, 1) := by decide +kernel
theorem dX2_keep_5 : decode cX2_keep 5 = .ok (.getfield 18, 3) := by decide +kernel
theorem dX2_keep_8 : decode cX2_keep 8 = .ok (.aaload, 1) := by decide +kernel
theorem dX2_keep_9 : decode cX2_keep 9 = .ok (.astore_n 2, 1) := by decide +kernel
theorem dX2_keep_10 : decode cX2_keep 10 = .ok (.aload_n 2, 1) := by decide +kernel
theorem dX2_keep_11 : decode cX2_keep 11 = .ok (.ifnull 8, 3) := by decide +kernel
theorem dX2_keep_14 : decode cX2_keep 14 = .ok (.aload_n 2, 1) := by decide +kernel
theorem dX2_keep_15 : decode cX2_keep 15 = .ok (.aload_n 1, 1) := by decide +kernel
theorem dX2_keep_16 : decode cX2_keep 16 = .ok (.invokevirtual 22, 3) := by decide +kernel
theorem dX2_keep_19 : decode cX2_keep 19 = .ok (.aload_n 0, 1) := by decide +kernel
theorem dX2_keep_20 : decode cX2_keep 20 = .ok (.aload_n 0, 1) := by decide +kernel
theorem dX2_keep_21 : decode cX2_keep 21 = .ok (.getfield 18, 3) := by decide +kernel
theorem dX2_keep_24 : decode cX2_keep 24 = .ok (.iconst 1, 1) := by decide +kernel
theorem dX2_keep_25 : decode cX2_keep 25 = .ok (.iadd, 1) := by decide +kernel
theorem dX2_keep_26 : decode cX2_keep 26 = .ok (.bipush 8, 2) := by decide +kernel
theorem dX2_keep_28 : decode cX2_keep 28 = .ok (.irem, 1) := by decide +kernel
theorem dX2_keep_29 : decode cX2_keep 29 = .ok (.putfield 18, 3) := by decide +kernel
theorem dX2_keep_32 : decode cX2_keep 32 = .ok (.aload_n 0, 1) := by decide +kernel
theorem dX2_keep_33 : decode cX2_keep 33 = .ok (.aload_n 0, 1) := by decide +kernel
theorem dX2_keep_34 : decode cX2_keep 34 = .ok (.getfield 26, 3) := by decide +kernel
theorem dX2_keep_37 : decode cX2_keep 37 = .ok (.iconst 1, 1) := by decide +kernel
theorem dX2_keep_38 : decode cX2_keep 38 = .ok (.iadd, 1) := by decide +kernel
theorem dX2_keep_39 : decode cX2_keep 39 = .ok (.bipush 8, 2) := by decide +kernel
theorem dX2_keep_41 : decode cX2_keep 41 = .ok (.invokestatic 29, 3) := by decide +kernel
theorem dX2_keep_44 : decode cX2_keep 44 = .ok (.putfield 26, 3) := by decide +kernel
theorem dX2_keep_47 : decode cX2_keep 47 = .ok (.return_, 1) := by decide +kernel
theorem dX2_bringBack_0 : decode cX2_bringBack 0 = .ok (.aload_n 0, 1) := by decide +kernel
theorem dX2_bringBack_1 : decode cX2_bringBack 1 = .ok (.aload_n 0, 1) := by decide +kernel
theorem dX2_bringBack_2 : decode cX2_bringBack 2 = .ok (.getfield 18, 3) := by decide +kernel
theorem dX2_bringBack_5 : decode cX2_bringBack 5 = .ok (.bipush 8, 2) := by decide +kernel
theorem dX2_bringBack_7 : decode cX2_bringBack 7 = .ok (.iadd, 1) := by decide +kernel
theorem dX2_bringBack_8 : decode cX2_bringBack 8 = .ok (.iconst 1, 1) := by decide +kernel
theorem dX2_bringBack_9 : decode cX2_bringBack 9 = .ok (.isub, 1) := by decide +kernel
theorem dX2_bringBack_10 : decode cX2_bringBack 10 = .ok (.bipush 8, 2) := by decide +kernel
theorem dX2_bringBack_12 : decode cX2_bringBack 12 = .ok (.irem, 1) := by decide +kernel
theorem dX2_bringBack_13 : decode cX2_bringBack 13 = .ok (.putfield 18, 3) := by decide +kernel
theorem dX2_bringBack_16 : decode cX2_bringBack 16 = .ok (.aload_n 0, 1) := by decide +kernel
theorem dX2_bringBack_17 : decode cX2_bringBack 17 = .ok (.getfield 11, 3) := by decide +kernel
theorem dX2_bringBack_20 : decode cX2_bringBack 20 = .ok (.aload_n 0, 1) := by decide +kernel
theorem dX2_bringBack_21 : decode cX2_bringBack 21 = .ok (.getfield 18, 3) := by decide +kernel
theorem dX2_bringBack_24 : decode cX2_bringBack 24 = .ok (.aaload, 1) := by decide +kernel
theorem dX2_bringBack_25 : decode cX2_bringBack 25 = .ok (.astore_n 2, 1) := by decide +kernel
theorem dX2_bringBack_26 : decode cX2_bringBack 26 = .ok (.aload_n 2, 1) := by decide +kernel
theorem dX2_bringBack_27 : decode cX2_bringBack 27 = .ok (.ifnull 8, 3) := by decide +kernel
theorem dX2_bringBack_30 : decode cX2_bringBack 30 = .ok (.aload_n 1, 1) := by decide +kernel
theorem dX2_bringBack_31 : decode cX2_bringBack 31 = .ok (.aload_n 2, 1) := by decide +kernel
theorem dX2_bringBack_32 : decode cX2_bringBack 32 = .ok (.invokevirtual 22, 3) := by decide +kernel
theorem dX2_bringBack_35 : decode cX2_bringBack 35 = .ok (.aload_n 0, 1) := by decide +kernel
theorem dX2_bringBack_36 : decode cX2_bringBack 36 = .ok (.aload_n 0, 1) := by decide +kernel
theorem dX2_bringBack_37 : decode cX2_bringBack 37 = .ok (.getfield 26, 3) := by decide +kernel
theorem dX2_bringBack_40 : decode cX2_bringBack 40 = .ok (.iconst 1, 1) := by decide +kernel
theorem dX2_bringBack_41 : decode cX2_bringBack 41 = .ok (.isub, 1) := by decide +kernel
theorem dX2_bringBack_42 : decode cX2_bringBack 42 = .ok (.iconst 0, 1) := by decide +kernel
theorem dX2_bringBack_43 : decode cX2_bringBack 43 = .ok (.invokestatic 35, 3) := by decide +kernel
theorem dX2_bringBack_46 : decode cX2_bringBack 46 = .ok (.putfield 26, 3) := by decide +kernel
theorem dX2_bringBack_49 : decode cX2_bringBack 49 = .ok (.return_, 1) := by decide +kernel
theorem dX3_init_0 : decode cX3_init 0 = .ok (.aload_n 0, 1) := by decide +kernel
theorem dX3_init_1 : decode cX3_init 1 = .ok (.invokespecial 1, 3) := by decide +kernel
theorem dX3_init_4 : decode cX3_init 4 = .ok (.aload_n 0, 1) := by decide +kernel
theorem dX3_init_5 : decode cX3_init 5 = .ok (.new 7, 3) := by decide +kernel
theorem dX3_init_8 : decode cX3_init 8 = .ok (.dup, 1) := by decide +kernel
theorem dX3_init_9 : decode cX3_init 9 = .ok (.invokespecial 9, 3) := by decide +kernel
theorem dX3_init_12 : decode cX3_init 12 = .ok (.putfield 10, 3) := by decide +kernel
theorem dX3_init_15 : decode cX3_init 15 = .ok (.aload_n 0, 1) := by decide +kernel
theorem dX3_init_16 : decode cX3_init 16 = .ok (.new 16, 3) := by decide +kernel
theorem dX3_init_19 : decode cX3_init 19 = .ok (.dup, 1) := by decide +kernel
theorem dX3_init_20 : decode cX3_init 20 = .ok (.invokespecial 18, 3) := by decide +kernel
theorem dX3_init_23 : decode cX3_init 23 = .ok (.putfield 19, 3) := by decide +kernel
theorem dX3_init_26 : decode cX3_init 26 = .ok (.return_, 1) := by decide +kernel
theorem dX4_init_0 : decode cX4_init 0 = .ok (.aload_n 0, 1) := by decide +kernel
theorem dX4_init_1 : decode cX4_init 1 = .ok (.invokespecial 3, 3) := by decide +kernel
theorem dX4_init_4 : decode cX4_init 4 = .ok (.aload_n 0, 1) := by decide +kernel
theorem dX4_init_5 : decode cX4_init 5 = .ok (.bipush 10, 2) := by decide +kernel
theorem dX4_init_7 : decode cX4_init 7 = .ok (.newarray .int, 2) := by decide +kernel
theorem dX4_init_9 : decode cX4_init 9 = .ok (.putfield 11, 3) := by decide +kernel
theorem dX4_init_12 : decode cX4_init 12 = .ok (.aload_n 0, 1) := by decide +kernel
theorem dX4_init_13 : decode cX4_init 13 = .ok (.bipush 10, 2) := by decide +kernel
theorem dX4_init_15 : decode cX4_init 15 = .ok (.newarray .int, 2) := by decide +kernel
theorem dX4_init_17 : decode cX4_init 17 = .ok (.putfield 15, 3) := by decide +kernel
theorem dX4_init_20 : decode cX4_init 20 = .ok (.aload_n 0, 1) := by decide +kernel
theorem dX4_init_21 : decode cX4_init 21 = .ok (.iconst 5, 1) := by decide +kernel
theorem dX4_init_22 : decode cX4_init 22 = .ok (.newarray .int, 2) := by decide +kernel
theorem dX4_init_24 : decode cX4_init 24 = .ok (.putfield 18, 3) := by decide +kernel
theorem dX4_init_27 : decode cX4_init 27 = .ok (.aload_n 0, 1) := by decide +kernel
theorem dX4_init_28 : decode cX4_init 28 = .ok (.bipush 6, 2) := by decide +kernel
theorem dX4_init_30 : decode cX4_init 30 = .ok (.newarray .int, 2) := by decide +kernel
theorem dX4_init_32 : decode cX4_init 32 = .ok (.putfield 21, 3) := by decide +kernel
theorem dX4_init_35 : decode cX4_init 35 = .ok (.aload_n 0, 1) := by decide +kernel
theorem dX4_init_36 : decode cX4_init 36 = .ok (.sipush 720, 3) := by decide +kernel
theorem dX4_init_39 : decode cX4_init 39 = .ok (.newarray .int, 2) := by decide +kernel
theorem dX4_init_41 : decode cX4_init 41 = .ok (.putfield 26, 3) := by decide +kernel
theorem dX4_init_44 : decode cX4_init 44 = .ok (.return_, 1) := by decide +kernel
theorem dX5_init_0 : decode cX5_init 0 = .ok (.aload_n 0, 1) := by decide +kernel
theorem dX5_init_1 : decode cX5_init 1 = .ok (.invokespecial 3, 3) := by decide +kernel
theorem dX5_init_4 : decode cX5_init 4 = .ok (.aload_n 0, 1) := by decide +kernel
theorem dX5_init_5 : decode cX5_init 5 = .ok (.iconst 2, 1) := by decide +kernel
theorem dX5_init_6 : decode cX5_init 6 = .ok (.newarray .int, 2) := by decide +kernel
theorem dX5_init_8 : decode cX5_init 8 = .ok (.putfield 9, 3) := by decide +kernel
theorem dX5_init_11 : decode cX5_init 11 = .ok (.aload_n 0, 1) := by decide +kernel
theorem dX5_init_12 : decode cX5_init 12 = .ok (.iconst 2, 1) := by decide +kernel
theorem dX5_init_13 : decode cX5_init 13 = .ok (.newarray .int, 2) := by decide +kernel
theorem dX5_init_15 : decode cX5_init 15 = .ok (.putfield 15, 3) := by decide +kernel
theorem dX5_init_18 : decode cX5_init 18 = .ok (.aload_n 0, 1) := by decide +kernel
theorem dX5_init_19 : decode cX5_init 19 = .ok (.new 18, 3) := by decide +kernel
theorem dX5_init_22 : decode cX5_init 22 = .ok (.dup, 1) := by decide +kernel
theorem dX5_init_23 : decode cX5_init 23 = .ok (.invokespecial 20, 3) := by decide +kernel
theorem dX5_init_26 : decode cX5_init 26 = .ok (.putfield 21, 3) := by decide +kernel
theorem dX5_init_29 : decode cX5_init 29 = .ok (.aload_n 0, 1) := by decide +kernel
theorem dX5_init_30 : decode cX5_init 30 = .ok (.new 25, 3) := by decide +kernel
theorem dX5_init_33 : decode cX5_init 33 = .ok (.dup, 1) := by decide +kernel
theorem dX5_init_34 : decode cX5_init 34 = .ok (.invokespecial 27, 3) := by decide +kernel
theorem dX5_init_37 : decode cX5_init 37 = .ok (.putfield 28, 3) := by decide +kernel
theorem dX5_init_40 : decode cX5_init 40 = .ok (.aload_n 0, 1) := by decide +kernel
theorem dX5_init_41 : decode cX5_init 41 = .ok (.invokevirtual 32, 3) := by decide +kernel
theorem dX5_init_44 : decode cX5_init 44 = .ok (.aload_n 0, 1) := by decide +kernel
theorem dX5_init_45 : decode cX5_init 45 = .ok (.getfield 28, 3) := by decide +kernel
theorem dX5_init_48 : decode cX5_init 48 = .ok (.aload_n 0, 1) := by decide +kernel
theorem dX5_init_49 : decode cX5_init 49 = .ok (.getfield 35, 3) := by decide +kernel
theorem dX5_init_52 : decode cX5_init 52 = .ok (.aload_n 0, 1) := by decide +kernel
theorem dX5_init_53 : decode cX5_init 53 = .ok (.getfield 39, 3) := by decide +kernel
theorem dX5_init_56 : decode cX5_init 56 = .ok (.invokevirtual 42, 3) := by decide +kernel
theorem dX5_init_59 : decode cX5_init 59 = .ok (.return_, 1) := by decide +kernel
theorem dX5_clear_0 : decode cX5_clear 0 = .ok (.aload_n 0, 1) := by decide +kernel
theorem dX5_clear_1 : decode cX5_clear 1 = .ok (.bipush 100, 2) := by decide +kernel
theorem dX5_clear_3 : decode cX5_clear 3 = .ok (.putfield 35, 3) := by decide +kernel
theorem dX5_clear_6 : decode cX5_clear 6 = .ok (.aload_n 0, 1) := by decide +kernel
theorem dX5_clear_7 : decode cX5_clear 7 = .ok (.bipush 50, 2) := by decide +kernel
theorem dX5_clear_9 : decode cX5_clear 9 = .ok (.putfield 39, 3) := by decide +kernel
theorem dX5_clear_12 : decode cX5_clear 12 = .ok (.aload_n 0, 1) := by decide +kernel
theorem dX5_clear_13 : decode cX5_clear 13 = .ok (.bipush 40, 2) := by decide +kernel
theorem dX5_clear_15 : decode cX5_clear 15 = .ok (.putfield 46, 3) := by decide +kernel
theorem dX5_clear_18 : decode cX5_clear 18 = .ok (.aload_n 0, 1) := by decide +kernel
theorem dX5_clear_19 : decode cX5_clear 19 = .ok (.bipush 60, 2) := by decide +kernel
theorem dX5_clear_21 : decode cX5_clear 21 = .ok (.putfield 49, 3) := by decide +kernel
theorem dX5_clear_24 : decode cX5_clear 24 = .ok (.aload_n 0, 1) := by decide +kernel
theorem dX5_clear_25 : decode cX5_clear 25 = .ok (.iconst 0, 1) := by decide +kernel
theorem dX5_clear_26 : decode cX5_clear 26 = .ok (.putfield 52, 3) := by decide +kernel
theorem dX5_clear_29 : decode cX5_clear 29 = .ok (.iconst 0, 1) := by decide +kernel
theorem dX5_clear_30 : decode cX5_clear 30 = .ok (.istore_n 1, 1) := by decide +kernel
theorem dX5_clear_31 : decode cX5_clear 31 = .ok (.iload_n 1, 1) := by decide +kernel
theorem dX5_clear_32 : decode cX5_clear 32 = .ok (.iconst 2, 1) := by decide +kernel
theorem dX5_clear_33 : decode cX5_clear 33 = .ok (.if_icmp .ge 23, 3) := by decide +kernel
theorem dX5_clear_36 : decode cX5_clear 36 = .ok (.aload_n 0, 1) := by decide +kernel
theorem dX5_clear_37 : decode cX5_clear 37 = .ok (.getfield 9, 3) := by decide +kernel
theorem dX5_clear_40 : decode cX5_clear 40 = .ok (.iload_n 1, 1) := by decide +kernel
theorem dX5_clear_41 : decode cX5_clear 41 = .ok (.iconst 0, 1) := by decide +kernel
theorem dX5_clear_42 : decode cX5_clear 42 = .ok (.iastore, 1) := by decide +kernel
theorem dX5_clear_43 : decode cX5_clear 43 = .ok (.aload_n 0, 1) := by decide +kernel
theorem dX5_clear_44 : decode cX5_clear 44 = .ok (.getfield 15, 3) := by decide +kernel
theorem dX5_clear_47 : decode cX5_clear 47 = .ok (.iload_n 1, 1) := by decide +kernel
theorem dX5_clear_48 : decode cX5_clear 48 = .ok (.iconst 0, 1) := by decide +kernel
theorem dX5_clear_49 : decode cX5_clear 49 = .ok (.iastore, 1) := by decide +kernel
theorem dX5_clear_50 : decode cX5_clear 50 = .ok (.iinc 1 1, 3) := by decide +kernel
theorem dX5_clear_53 : decode cX5_clear 53 = .ok (.goto (-22), 3) := by decide +kernel
theorem dX5_clear_56 : decode cX5_clear 56 = .ok (.aload_n 0, 1) := by decide +kernel
theorem dX5_clear_57 : decode cX5_clear 57 = .ok (.getfield 21, 3) := by decide +kernel
theorem dX5_clear_60 : decode cX5_clear 60 = .ok (.invokevirtual 55, 3) := by decide +kernel
theorem dX5_clear_63 : decode cX5_clear 63 = .ok (.aload_n 0, 1) := by decide +kernel
theorem dX5_clear_64 : decode cX5_clear 64 = .ok (.getfield 28, 3) := by decide +kernel
theorem dX5_clear_67 : decode cX5_clear 67 = .ok (.invokevirtual 56, 3) := by decide +kernel
theorem dX5_clear_70 : decode cX5_clear 70 = .ok (.return_, 1) := by decide +kernel
theorem dX5_hasBin_0 : decode cX5_hasBin 0 = .ok (.iload_n 1, 1) := by decide +kernel
theorem dX5_hasBin_1 : decode cX5_hasBin 1 = .ok (.ifCond .lt 15, 3) := by decide +kernel
theorem dX5_hasBin_4 : decode cX5_hasBin 4 = .ok (.iload_n 1, 1) := by decide +kernel
theorem dX5_hasBin_5 : decode cX5_hasBin 5 = .ok (.aload_n 0, 1) := by decide +kernel
theorem dX5_hasBin_6 : decode cX5_hasBin 6 = .ok (.getfield 52, 3) := by decide +kernel
theorem dX5_hasBin_9 : decode cX5_hasBin 9 = .ok (.if_icmp .ge 7, 3) := by decide +kernel
theorem dX5_hasBin_12 : decode cX5_hasBin 12 = .ok (.iconst 1, 1) := by decide +kernel
theorem dX5_hasBin_13 : decode cX5_hasBin 13 = .ok (.goto 4, 3) := by decide +kernel
theorem dX5_hasBin_16 : decode cX5_hasBin 16 = .ok (.iconst 0, 1) := by decide +kernel
theorem dX5_hasBin_17 : decode cX5_hasBin 17 = .ok (.ireturn, 1) := by decide +kernel
theorem dX5_addBin_0 : decode cX5_addBin 0 = .ok (.aload_n 0, 1) := by decide +kernel
theorem dX5_addBin_1 : decode cX5_addBin 1 = .ok (.getfield 52, 3) := by decide +kernel
theorem dX5_addBin_4 : decode cX5_addBin 4 = .ok (.iconst 2, 1) := by decide +kernel
theorem dX5_addBin_5 : decode cX5_addBin 5 = .ok (.if_icmp .ge 33, 3) := by decide +kernel
theorem dX5_addBin_8 : decode cX5_addBin 8 = .ok (.aload_n 0, 1) := by decide +kernel
theorem dX5_addBin_9 : decode cX5_addBin 9 = .ok (.getfield 9, 3) := by decide +kernel
theorem dX5_addBin_12 : decode cX5_addBin 12 = .ok (.aload_n 0, 1) := by decide +kernel
theorem dX5_addBin_13 : decode cX5_addBin 13 = .ok (.getfield 52, 3) := by decide +kernel
theorem dX5_addBin_16 : decode cX5_addBin 16 = .ok (.iload_n 1, 1) := by decide +kernel
theorem dX5_addBin_17 : decode cX5_addBin 17 = .ok (.iastore, 1) := by decide +kernel
theorem dX5_addBin_18 : decode cX5_addBin 18 = .ok (.aload_n 0, 1) := by decide +kernel
theorem dX5_addBin_19 : decode cX5_addBin 19 = .ok (.getfield 15, 3) := by decide +kernel
theorem dX5_addBin_22 : decode cX5_addBin 22 = .ok (.aload_n 0, 1) := by decide +kernel
theorem dX5_addBin_23 : decode cX5_addBin 23 = .ok (.getfield 52, 3) := by decide +kernel
theorem dX5_addBin_26 : decode cX5_addBin 26 = .ok (.iload_n 2, 1) := by decide +kernel
theorem dX5_addBin_27 : decode cX5_addBin 27 = .ok (.iastore, 1) := by decide +kernel
theorem dX5_addBin_28 : decode cX5_addBin 28 = .ok (.aload_n 0, 1) := by decide +kernel
theorem dX5_addBin_29 : decode cX5_addBin 29 = .ok (.dup, 1) := by decide +kernel
theorem dX5_addBin_30 : decode cX5_addBin 30 = .ok (.getfield 52, 3) := by decide +kernel
theorem dX5_addBin_33 : decode cX5_addBin 33 = .ok (.iconst 1, 1) := by decide +kernel
theorem dX5_addBin_34 : decode cX5_addBin 34 = .ok (.iadd, 1) := by decide +kernel
theorem dX5_addBin_35 : decode cX5_addBin 35 = .ok (.putfield 52, 3) := by decide +kernel
theorem dX5_addBin_38 : decode cX5_addBin 38 = .ok (.return_, 1) := by decide +kernel
theorem dX6_init_0 : decode cX6_init 0 = .ok (.aload_n 0, 1) := by decide +kernel
theorem dX6_init_1 : decode cX6_init 1 = .ok (.invokespecial 3, 3) := by decide +kernel
theorem dX6_init_4 : decode cX6_init 4 = .ok (.aload_n 0, 1) := by decide +kernel
theorem dX6_init_5 : decode cX6_init 5 = .ok (.new 9, 3) := by decide +kernel
theorem dX6_init_8 : decode cX6_init 8 = .ok (.dup, 1) := by decide +kernel
theorem dX6_init_9 : decode cX6_init 9 = .ok (.invokespecial 11, 3) := by decide +kernel
theorem dX6_init_12 : decode cX6_init 12 = .ok (.putfield 12, 3) := by decide +kernel
theorem dX6_init_15 : decode cX6_init 15 = .ok (.return_, 1) := by decide +kernel
theorem dX6_readPlane_0 : decode cX6_readPlane 0 = .ok (.aload_n 0, 1) := by decide +kernel
theorem dX6_readPlane_1 : decode cX6_readPlane 1 = .ok (.iconst 0, 1) := by decide +kernel
theorem dX6_readPlane_2 : decode cX6_readPlane 2 = .ok (.putfield 18, 3) := by decide +kernel
theorem dX6_readPlane_5 : decode cX6_readPlane 5 = .ok (.aload_n 0, 1) := by decide +kernel
theorem dX6_readPlane_6 : decode cX6_readPlane 6 = .ok (.iconst 0, 1) := by decide +kernel
theorem dX6_readPlane_7 : decode cX6_readPlane 7 = .ok (.putfield 22, 3) := by decide +kernel
theorem dX6_readPlane_10 : decode cX6_readPlane 10 = .ok (.aload_n 1, 1) := by decide +kernel
theorem dX6_readPlane_11 : decode cX6_readPlane 11 = .ok (.invokevirtual 25, 3) := by decide +kernel
theorem dX6_readPlane_14 : decode cX6_readPlane 14 = .ok (.aload_n 0, 1) := by decide +kernel
theorem dX6_readPlane_15 : decode cX6_readPlane 15 = .ok (.getfield 12, 3) := by decide +kernel
theorem dX6_readPlane_18 : decode cX6_readPlane 18 = .ok (.sipush 500, 3) := by decide +kernel
theorem dX6_readPlane_21 : decode cX6_readPlane 21 = .ok (.invokevirtual 30, 3) := by decide +kernel
theorem dX6_readPlane_24 : decode cX6_readPlane 24 = .ok (.iconst 0, 1) := by decide +kernel
theorem dX6_readPlane_25 : decode cX6_readPlane 25 = .ok (.istore_n 2, 1) := by decide +kernel
theorem dX6_readPlane_26 : decode cX6_readPlane 26 = .ok (.iload_n 2, 1) := by decide +kernel
theorem dX6_readPlane_27 : decode cX6_readPlane 27 = .ok (.sipush 500, 3) := by decide +kernel
theorem dX6_readPlane_30 : decode cX6_readPlane 30 = .ok (.if_icmp .ge 223, 3) := by decide +kernel
theorem dX6_readPlane_33 : decode cX6_readPlane 33 = .ok (.aload_n 0, 1) := by decide +kernel
theorem dX6_readPlane_34 : decode cX6_readPlane 34 = .ok (.invokevirtual 34, 3) := by decide +kernel
theorem dX6_readPlane_37 : decode cX6_readPlane 37 = .ok (.ifCond .eq 216, 3) := by decide +kernel
theorem dX6_readPlane_40 : decode cX6_readPlane 40 = .ok (.aload_n 0, 1) := by decide +kernel
theorem dX6_readPlane_41 : decode cX6_readPlane 41 = .ok (.getfield 12, 3) := by decide +kernel
theorem dX6_readPlane_44 : decode cX6_readPlane 44 = .ok (.ldc 38, 2) := by decide +kernel
theorem dX6_readPlane_46 : decode cX6_readPlane 46 = .ok (.invokevirtual 40, 3) := by decide +kernel
theorem dX6_readPlane_49 : decode cX6_readPlane 49 = .ok (.ifCond .eq 11, 3) := by decide +kernel
theorem dX6_readPlane_52 : decode cX6_readPlane 52 = .ok (.aload_n 0, 1) := by decide +kernel
theorem dX6_readPlane_53 : decode cX6_readPlane 53 = .ok (.aload_n 1, 1) := by decide +kernel
theorem dX6_readPlane_54 : decode cX6_readPlane 54 = .ok (.invokevirtual 44, 3) := by decide +kernel
theorem dX6_readPlane_57 : decode cX6_readPlane 57 = .ok (.goto 183, 3) := by decide +kernel
theorem dX6_readPlane_60 : decode cX6_readPlane 60 = .ok (.aload_n 0, 1) := by decide +kernel
theorem dX6_readPlane_61 : decode cX6_readPlane 61 = .ok (.getfield 12, 3) := by decide +kernel
theorem dX6_readPlane_64 : decode cX6_readPlane 64 = .ok (.ldc 48, 2) := by decide +kernel
theorem dX6_readPlane_66 : decode cX6_readPlane 66 = .ok (.invokevirtual 40, 3) := by decide +kernel
theorem dX6_readPlane_69 : decode cX6_readPlane 69 = .ok (.ifCond .eq 11, 3) := by decide +kernel
theorem dX6_readPlane_72 : decode cX6_readPlane 72 = .ok (.aload_n 0, 1) := by decide +kernel
theorem dX6_readPlane_73 : decode cX6_readPlane 73 = .ok (.aload_n 1, 1) := by decide +kernel
theorem dX6_readPlane_74 : decode cX6_readPlane 74 = .ok (.invokevirtual 50, 3) := by decide +kernel
theorem dX6_readPlane_77 : decode cX6_readPlane 77 = .ok (.goto 163, 3) := by decide +kernel
theorem dX6_readPlane_80 : decode cX6_readPlane 80 = .ok (.aload_n 0, 1) := by decide +kernel
theorem dX6_readPlane_81 : decode cX6_readPlane 81 = .ok (.getfield 12, 3) := by decide +kernel
theorem dX6_readPlane_84 : decode cX6_readPlane 84 = .ok (.ldc 53, 2) := by decide +kernel
theorem dX6_readPlane_86 : decode cX6_readPlane 86 = .ok (.invokevirtual 40, 3) := by decide +kernel
theorem dX6_readPlane_89 : decode cX6_readPlane 89 = .ok (.ifCond .eq 11, 3) := by decide +kernel
theorem dX6_readPlane_92 : decode cX6_readPlane 92 = .ok (.aload_n 0, 1) := by decide +kernel
theorem dX6_readPlane_93 : decode cX6_readPlane 93 = .ok (.aload_n 1, 1) := by decide +kernel
theorem dX6_readPlane_94 : decode cX6_readPlane 94 = .ok (.invokevirtual 55, 3) := by decide +kernel
theorem dX6_readPlane_97 : decode cX6_readPlane 97 = .ok (.goto 143, 3) := by decide +kernel
theorem dX6_readPlane_100 : decode cX6_readPlane 100 = .ok (.aload_n 0, 1) := by decide +kernel
theorem dX6_readPlane_101 : decode cX6_readPlane 101 = .ok (.getfield 12, 3) := by decide +kernel
theorem dX6_readPlane_104 : decode cX6_readPlane 104 = .ok (.ldc 58, 2) := by decide +kernel
theorem dX6_readPlane_106 : decode cX6_readPlane 106 = .ok (.invokevirtual 40, 3) := by decide +kernel
theorem dX6_readPlane_109 : decode cX6_readPlane 109 = .ok (.ifCond .eq 14, 3) := by decide +kernel
theorem dX6_readPlane_112 : decode cX6_readPlane 112 = .ok (.aload_n 0, 1) := by decide +kernel
theorem dX6_readPlane_113 : decode cX6_readPlane 113 = .ok (.aload_n 1, 1) := by decide +kernel
theorem dX6_readPlane_114 : decode cX6_readPlane 114 = .ok (.getfield 60, 3) := by decide +kernel
theorem dX6_readPlane_117 : decode cX6_readPlane 117 = .ok (.invokevirtual 64, 3) := by decide +kernel
theorem dX6_readPlane_120 : decode cX6_readPlane 120 = .ok (.goto 120, 3) := by decide +kernel
theorem dX6_readPlane_123 : decode cX6_readPlane 123 = .ok (.aload_n 0, 1) := by decide +kernel
theorem dX6_readPlane_124 : decode cX6_readPlane 124 = .ok (.getfield 12, 3) := by decide +kernel
theorem dX6_readPlane_127 : decode cX6_readPlane 127 = .ok (.ldc 68, 2) := by decide +kernel
theorem dX6_readPlane_129 : decode cX6_readPlane 129 = .ok (.invokevirtual 40, 3) := by decide +kernel
theorem dX6_readPlane_132 : decode cX6_readPlane 132 = .ok (.ifCond .eq 14, 3) := by decide +kernel
theorem dX6_readPlane_135 : decode cX6_readPlane 135 = .ok (.aload_n 0, 1) := by decide +kernel
theorem dX6_readPlane_136 : decode cX6_readPlane 136 = .ok (.aload_n 1, 1) := by decide +kernel
theorem dX6_readPlane_137 : decode cX6_readPlane 137 = .ok (.getfield 60, 3) := by decide +kernel
theorem dX6_readPlane_140 : decode cX6_readPlane 140 = .ok (.invokevirtual 70, 3) := by decide +kernel
theorem dX6_readPlane_143 : decode cX6_readPlane 143 = .ok (.goto 97, 3) := by decide +kernel
theorem dX6_readPlane_146 : decode cX6_readPlane 146 = .ok (.aload_n 0, 1) := by decide +kernel
theorem dX6_readPlane_147 : decode cX6_readPlane 147 = .ok (.getfield 12, 3) := by decide +kernel
theorem dX6_readPlane_150 : decode cX6_readPlane 150 = .ok (.ldc 73, 2) := by decide +kernel
theorem dX6_readPlane_152 : decode cX6_readPlane 152 = .ok (.invokevirtual 40, 3) := by decide +kernel
theorem dX6_readPlane_155 : decode cX6_readPlane 155 = .ok (.ifCond .eq 11, 3) := by decide +kernel
theorem dX6_readPlane_158 : decode cX6_readPlane 158 = .ok (.aload_n 0, 1) := by decide +kernel
theorem dX6_readPlane_159 : decode cX6_readPlane 159 = .ok (.aload_n 1, 1) := by decide +kernel
theorem dX6_readPlane_160 : decode cX6_readPlane 160 = .ok (.invokevirtual 75, 3) := by decide +kernel
theorem dX6_readPlane_163 : decode cX6_readPlane 163 = .ok (.goto 77, 3) := by decide +kernel
theorem dX6_readPlane_166 : decode cX6_readPlane 166 = .ok (.aload_n 0, 1) := by decide +kernel
theorem dX6_readPlane_167 : decode cX6_readPlane 167 = .ok (.getfield 12, 3) := by decide +kernel
theorem dX6_readPlane_170 : decode cX6_readPlane 170 = .ok (.ldc 78, 2) := by decide +kernel
theorem dX6_readPlane_172 : decode cX6_readPlane 172 = .ok (.invokevirtual 40, 3) := by decide +kernel
theorem dX6_readPlane_175 : decode cX6_readPlane 175 = .ok (.ifCond .eq 11, 3) := by decide +kernel
theorem dX6_readPlane_178 : decode cX6_readPlane 178 = .ok (.aload_n 0, 1) := by decide +kernel
theorem dX6_readPlane_179 : decode cX6_readPlane 179 = .ok (.aload_n 1, 1) := by decide +kernel
theorem dX6_readPlane_180 : decode cX6_readPlane 180 = .ok (.invokevirtual 80, 3) := by decide +kernel
theorem dX6_readPlane_183 : decode cX6_readPlane 183 = .ok (.goto 57, 3) := by decide +kernel
theorem dX6_readPlane_186 : decode cX6_readPlane 186 = .ok (.aload_n 0, 1) := by decide +kernel
theorem dX6_readPlane_187 : decode cX6_readPlane 187 = .ok (.getfield 12, 3) := by decide +kernel
theorem dX6_readPlane_190 : decode cX6_readPlane 190 = .ok (.ldc 83, 2) := by decide +kernel
theorem dX6_readPlane_192 : decode cX6_readPlane 192 = .ok (.invokevirtual 40, 3) := by decide +kernel
theorem dX6_readPlane_195 : decode cX6_readPlane 195 = .ok (.ifCond .eq 14, 3) := by decide +kernel
theorem dX6_readPlane_198 : decode cX6_readPlane 198 = .ok (.aload_n 0, 1) := by decide +kernel
theorem dX6_readPlane_199 : decode cX6_readPlane 199 = .ok (.aload_n 1, 1) := by decide +kernel
theorem dX6_readPlane_200 : decode cX6_readPlane 200 = .ok (.getfield 85, 3) := by decide +kernel
theorem dX6_readPlane_203 : decode cX6_readPlane 203 = .ok (.invokevirtual 89, 3) := by decide +kernel
theorem dX6_readPlane_206 : decode cX6_readPlane 206 = .ok (.goto 34, 3) := by decide +kernel
theorem dX6_readPlane_209 : decode cX6_readPlane 209 = .ok (.aload_n 0, 1) := by decide +kernel
theorem dX6_readPlane_210 : decode cX6_readPlane 210 = .ok (.getfield 12, 3) := by decide +kernel
theorem dX6_readPlane_213 : decode cX6_readPlane 213 = .ok (.ldc 93, 2) := by decide +kernel
theorem dX6_readPlane_215 : decode cX6_readPlane 215 = .ok (.invokevirtual 40, 3) := by decide +kernel
theorem dX6_readPlane_218 : decode cX6_readPlane 218 = .ok (.ifCond .eq 14, 3) := by decide +kernel
theorem dX6_readPlane_221 : decode cX6_readPlane 221 = .ok (.aload_n 0, 1) := by decide +kernel
theorem dX6_readPlane_222 : decode cX6_readPlane 222 = .ok (.aload_n 1, 1) := by decide +kernel
theorem dX6_readPlane_223 : decode cX6_readPlane 223 = .ok (.getfield 85, 3) := by decide +kernel
theorem dX6_readPlane_226 : decode cX6_readPlane 226 = .ok (.invokevirtual 95, 3) := by decide +kernel
theorem dX6_readPlane_229 : decode cX6_readPlane 229 = .ok (.goto 11, 3) := by decide +kernel
theorem dX6_readPlane_232 : decode cX6_readPlane 232 = .ok (.aload_n 0, 1) := by decide +kernel
theorem dX6_readPlane_233 : decode cX6_readPlane 233 = .ok (.getfield 12, 3) := by decide +kernel
theorem dX6_readPlane_236 : decode cX6_readPlane 236 = .ok (.iconst 1, 1) := by decide +kernel
theorem dX6_readPlane_237 : decode cX6_readPlane 237 = .ok (.invokevirtual 98, 3) := by decide +kernel
theorem dX6_readPlane_240 : decode cX6_readPlane 240 = .ok (.aload_n 0, 1) := by decide +kernel
theorem dX6_readPlane_241 : decode cX6_readPlane 241 = .ok (.getfield 12, 3) := by decide +kernel
theorem dX6_readPlane_244 : decode cX6_readPlane 244 = .ok (.invokevirtual 101, 3) := by decide +kernel
theorem dX6_readPlane_247 : decode cX6_readPlane 247 = .ok (.iinc 2 1, 3) := by decide +kernel
theorem dX6_readPlane_250 : decode cX6_readPlane 250 = .ok (.goto (-224), 3) := by decide +kernel
theorem dX6_readPlane_253 : decode cX6_readPlane 253 = .ok (.aload_n 1, 1) := by decide +kernel
theorem dX6_readPlane_254 : decode cX6_readPlane 254 = .ok (.getfield 85, 3) := by decide +kernel
theorem dX6_readPlane_257 : decode cX6_readPlane 257 = .ok (.aload_n 1, 1) := by decide +kernel
theorem dX6_readPlane_258 : decode cX6_readPlane 258 = .ok (.getfield 104, 3) := by decide +kernel
theorem dX6_readPlane_261 : decode cX6_readPlane 261 = .ok (.aload_n 1, 1) := by decide +kernel
theorem dX6_readPlane_262 : decode cX6_readPlane 262 = .ok (.getfield 108, 3) := by decide +kernel
theorem dX6_readPlane_265 : decode cX6_readPlane 265 = .ok (.invokevirtual 111, 3) := by decide +kernel
theorem dX6_readPlane_268 : decode cX6_readPlane 268 = .ok (.aload_n 0, 1) := by decide +kernel
theorem dX6_readPlane_269 : decode cX6_readPlane 269 = .ok (.getfield 12, 3) := by decide +kernel
theorem dX6_readPlane_272 : decode cX6_readPlane 272 = .ok (.iconst 0, 1) := by decide +kernel
theorem dX6_readPlane_273 : decode cX6_readPlane 273 = .ok (.putfield 117, 3) := by decide +kernel
theorem dX6_readPlane_276 : decode cX6_readPlane 276 = .ok (.return_, 1) := by decide +kernel
theorem dX6_readCargo_0 : decode cX6_readCargo 0 = .ok (.aload_n 0, 1) := by decide +kernel
theorem dX6_readCargo_1 : decode cX6_readCargo 1 = .ok (.iconst 0, 1) := by decide +kernel
theorem dX6_readCargo_2 : decode cX6_readCargo 2 = .ok (.putfield 120, 3) := by decide +kernel
theorem dX6_readCargo_5 : decode cX6_readCargo 5 = .ok (.aload_n 1, 1) := by decide +kernel
theorem dX6_readCargo_6 : decode cX6_readCargo 6 = .ok (.invokevirtual 123, 3) := by decide +kernel
theorem dX6_readCargo_9 : decode cX6_readCargo 9 = .ok (.aload_n 0, 1) := by decide +kernel
theorem dX6_readCargo_10 : decode cX6_readCargo 10 = .ok (.getfield 12, 3) := by decide +kernel
theorem dX6_readCargo_13 : decode cX6_readCargo 13 = .ok (.sipush 300, 3) := by decide +kernel
theorem dX6_readCargo_16 : decode cX6_readCargo 16 = .ok (.invokevirtual 30, 3) := by decide +kernel
theorem dX6_readCargo_19 : decode cX6_readCargo 19 = .ok (.iconst 0, 1) := by decide +kernel
theorem dX6_readCargo_20 : decode cX6_readCargo 20 = .ok (.istore_n 2, 1) := by decide +kernel
theorem dX6_readCargo_21 : decode cX6_readCargo 21 = .ok (.iload_n 2, 1) := by decide +kernel
theorem dX6_readCargo_22 : decode cX6_readCargo 22 = .ok (.sipush 300, 3) := by decide +kernel
theorem dX6_readCargo_25 : decode cX6_readCargo 25 = .ok (.if_icmp .ge 71, 3) := by decide +kernel
theorem dX6_readCargo_28 : decode cX6_readCargo 28 = .ok (.aload_n 0, 1) := by decide +kernel
theorem dX6_readCargo_29 : decode cX6_readCargo 29 = .ok (.invokevirtual 34, 3) := by decide +kernel
theorem dX6_readCargo_32 : decode cX6_readCargo 32 = .ok (.ifCond .eq 64, 3) := by decide +kernel
theorem dX6_readCargo_35 : decode cX6_readCargo 35 = .ok (.aload_n 0, 1) := by decide +kernel
theorem dX6_readCargo_36 : decode cX6_readCargo 36 = .ok (.getfield 12, 3) := by decide +kernel
theorem dX6_readCargo_39 : decode cX6_readCargo 39 = .ok (.ldc 126, 2) := by decide +kernel
theorem dX6_readCargo_41 : decode cX6_readCargo 41 = .ok (.invokevirtual 40, 3) := by decide +kernel
theorem dX6_readCargo_44 : decode cX6_readCargo 44 = .ok (.ifCond .eq 11, 3) := by decide +kernel
theorem dX6_readCargo_47 : decode cX6_readCargo 47 = .ok (.aload_n 0, 1) := by decide +kernel
theorem dX6_readCargo_48 : decode cX6_readCargo 48 = .ok (.aload_n 1, 1) := by decide +kernel
theorem dX6_readCargo_49 : decode cX6_readCargo 49 = .ok (.invokevirtual 128, 3) := by decide +kernel
theorem dX6_readCargo_52 : decode cX6_readCargo 52 = .ok (.goto 31, 3) := by decide +kernel
theorem dX6_readCargo_55 : decode cX6_readCargo 55 = .ok (.aload_n 0, 1) := by decide +kernel
theorem dX6_readCargo_56 : decode cX6_readCargo 56 = .ok (.getfield 12, 3) := by decide +kernel
theorem dX6_readCargo_59 : decode cX6_readCargo 59 = .ok (.ldc 132, 2) := by decide +kernel
theorem dX6_readCargo_61 : decode cX6_readCargo 61 = .ok (.invokevirtual 40, 3) := by decide +kernel
theorem dX6_readCargo_64 : decode cX6_readCargo 64 = .ok (.ifCond .eq 11, 3) := by decide +kernel
theorem dX6_readCargo_67 : decode cX6_readCargo 67 = .ok (.aload_n 0, 1) := by decide +kernel
theorem dX6_readCargo_68 : decode cX6_readCargo 68 = .ok (.aload_n 1, 1) := by decide +kernel
theorem dX6_readCargo_69 : decode cX6_readCargo 69 = .ok (.invokevirtual 134, 3) := by decide +kernel
theorem dX6_readCargo_72 : decode cX6_readCargo 72 = .ok (.goto 11, 3) := by decide +kernel
theorem dX6_readCargo_75 : decode cX6_readCargo 75 = .ok (.aload_n 0, 1) := by decide +kernel
theorem dX6_readCargo_76 : decode cX6_readCargo 76 = .ok (.getfield 12, 3) := by decide +kernel
theorem dX6_readCargo_79 : decode cX6_readCargo 79 = .ok (.iconst 1, 1) := by decide +kernel
theorem dX6_readCargo_80 : decode cX6_readCargo 80 = .ok (.invokevirtual 98, 3) := by decide +kernel
theorem dX6_readCargo_83 : decode cX6_readCargo 83 = .ok (.aload_n 0, 1) := by decide +kernel
theorem dX6_readCargo_84 : decode cX6_readCargo 84 = .ok (.getfield 12, 3) := by decide +kernel
theorem dX6_readCargo_87 : decode cX6_readCargo 87 = .ok (.invokevirtual 101, 3) := by decide +kernel
theorem dX6_readCargo_90 : decode cX6_readCargo 90 = .ok (.iinc 2 1, 3) := by decide +kernel
theorem dX6_readCargo_93 : decode cX6_readCargo 93 = .ok (.goto (-72), 3) := by decide +kernel
theorem dX6_readCargo_96 : decode cX6_readCargo 96 = .ok (.aload_n 0, 1) := by decide +kernel
theorem dX6_readCargo_97 : decode cX6_readCargo 97 = .ok (.getfield 12, 3) := by decide +kernel
theorem dX6_readCargo_100 : decode cX6_readCargo 100 = .ok (.iconst 0, 1) := by decide +kernel
theorem dX6_readCargo_101 : decode cX6_readCargo 101 = .ok (.putfield 117, 3) := by decide +kernel
theorem dX6_readCargo_104 : decode cX6_readCargo 104 = .ok (.return_, 1) := by decide +kernel
theorem dX6_atLine_0 : decode cX6_atLine 0 = .ok (.aload_n 0, 1) := by decide +kernel
theorem dX6_atLine_1 : decode cX6_atLine 1 = .ok (.getfield 12, 3) := by decide +kernel
theorem dX6_atLine_4 : decode cX6_atLine 4 = .ok (.invokevirtual 137, 3) := by decide +kernel
theorem dX6_atLine_7 : decode cX6_atLine 7 = .ok (.aload_n 0, 1) := by decide +kernel
theorem dX6_atLine_8 : decode cX6_atLine 8 = .ok (.getfield 12, 3) := by decide +kernel
theorem dX6_atLine_11 : decode cX6_atLine 11 = .ok (.getfield 140, 3) := by decide +kernel
theorem dX6_atLine_14 : decode cX6_atLine 14 = .ok (.ifCond .ne 17, 3) := by decide +kernel
theorem dX6_atLine_17 : decode cX6_atLine 17 = .ok (.aload_n 0, 1) := by decide +kernel
theorem dX6_atLine_18 : decode cX6_atLine 18 = .ok (.getfield 12, 3) := by decide +kernel
theorem dX6_atLine_21 : decode cX6_atLine 21 = .ok (.getfield 143, 3) := by decide +kernel
theorem dX6_atLine_24 : decode cX6_atLine 24 = .ok (.ifCond .eq 7, 3) := by decide +kernel
theorem dX6_atLine_27 : decode cX6_atLine 27 = .ok (.iconst 1, 1) := by decide +kernel
theorem dX6_atLine_28 : decode cX6_atLine 28 = .ok (.goto 4, 3) := by decide +kernel
theorem dX6_atLine_31 : decode cX6_atLine 31 = .ok (.iconst 0, 1) := by decide +kernel
theorem dX6_atLine_32 : decode cX6_atLine 32 = .ok (.ireturn, 1) := by decide +kernel
theorem dX6_readEmpty_0 : decode cX6_readEmpty 0 = .ok (.aload_n 0, 1) := by decide +kernel
theorem dX6_readEmpty_1 : decode cX6_readEmpty 1 = .ok (.getfield 18, 3) := by decide +kernel
theorem dX6_readEmpty_4 : decode cX6_readEmpty 4 = .ok (.ifCond .eq 11, 3) := by decide +kernel
theorem dX6_readEmpty_7 : decode cX6_readEmpty 7 = .ok (.aload_n 0, 1) := by decide +kernel
theorem dX6_readEmpty_8 : decode cX6_readEmpty 8 = .ok (.getfield 12, 3) := by decide +kernel
theorem dX6_readEmpty_11 : decode cX6_readEmpty 11 = .ok (.iconst 3, 1) := by decide +kernel
theorem dX6_readEmpty_12 : decode cX6_readEmpty 12 = .ok (.invokevirtual 98, 3) := by decide +kernel
theorem dX6_readEmpty_15 : decode cX6_readEmpty 15 = .ok (.aload_n 0, 1) := by decide +kernel
theorem dX6_readEmpty_16 : decode cX6_readEmpty 16 = .ok (.iconst 1, 1) := by decide +kernel
theorem dX6_readEmpty_17 : decode cX6_readEmpty 17 = .ok (.putfield 18, 3) := by decide +kernel
theorem dX6_readEmpty_20 : decode cX6_readEmpty 20 = .ok (.aload_n 1, 1) := by decide +kernel
theorem dX6_readEmpty_21 : decode cX6_readEmpty 21 = .ok (.aload_n 0, 1) := by decide +kernel
theorem dX6_readEmpty_22 : decode cX6_readEmpty 22 = .ok (.getfield 12, 3) := by decide +kernel
theorem dX6_readEmpty_25 : decode cX6_readEmpty 25 = .ok (.iconst 1, 1) := by decide +kernel
theorem dX6_readEmpty_26 : decode cX6_readEmpty 26 = .ok (.sipush 999, 3) := by decide +kernel
theorem dX6_readEmpty_29 : decode cX6_readEmpty 29 = .ok (.invokevirtual 146, 3) := by decide +kernel
theorem dX6_readEmpty_32 : decode cX6_readEmpty 32 = .ok (.putfield 104, 3) := by decide +kernel
theorem dX6_readEmpty_35 : decode cX6_readEmpty 35 = .ok (.aload_n 1, 1) := by decide +kernel
theorem dX6_readEmpty_36 : decode cX6_readEmpty 36 = .ok (.aload_n 0, 1) := by decide +kernel
theorem dX6_readEmpty_37 : decode cX6_readEmpty 37 = .ok (.getfield 12, 3) := by decide +kernel
theorem dX6_readEmpty_40 : decode cX6_readEmpty 40 = .ok (.iconst 0, 1) := by decide +kernel
theorem dX6_readEmpty_41 : decode cX6_readEmpty 41 = .ok (.bipush 99, 2) := by decide +kernel
theorem dX6_readEmpty_43 : decode cX6_readEmpty 43 = .ok (.invokevirtual 146, 3) := by decide +kernel
theorem dX6_readEmpty_46 : decode cX6_readEmpty 46 = .ok (.putfield 108, 3) := by decide +kernel
theorem dX6_readEmpty_49 : decode cX6_readEmpty 49 = .ok (.return_, 1) := by decide +kernel
theorem dX6_readSpan_0 : decode cX6_readSpan 0 = .ok (.aload_n 0, 1) := by decide +kernel
theorem dX6_readSpan_1 : decode cX6_readSpan 1 = .ok (.getfield 22, 3) := by decide +kernel
theorem dX6_readSpan_4 : decode cX6_readSpan 4 = .ok (.ifCond .eq 11, 3) := by decide +kernel
theorem dX6_readSpan_7 : decode cX6_readSpan 7 = .ok (.aload_n 0, 1) := by decide +kernel
theorem dX6_readSpan_8 : decode cX6_readSpan 8 = .ok (.getfield 12, 3) := by decide +kernel
theorem dX6_readSpan_11 : decode cX6_readSpan 11 = .ok (.iconst 3, 1) := by decide +kernel
theorem dX6_readSpan_12 : decode cX6_readSpan 12 = .ok (.invokevirtual 98, 3) := by decide +kernel
theorem dX6_readSpan_15 : decode cX6_readSpan 15 = .ok (.aload_n 0, 1) := by decide +kernel
theorem dX6_readSpan_16 : decode cX6_readSpan 16 = .ok (.iconst 1, 1) := by decide +kernel
theorem dX6_readSpan_17 : decode cX6_readSpan 17 = .ok (.putfield 22, 3) := by decide +kernel
theorem dX6_readSpan_20 : decode cX6_readSpan 20 = .ok (.aload_n 1, 1) := by decide +kernel
theorem dX6_readSpan_21 : decode cX6_readSpan 21 = .ok (.aload_n 0, 1) := by decide +kernel
theorem dX6_readSpan_22 : decode cX6_readSpan 22 = .ok (.getfield 12, 3) := by decide +kernel
theorem dX6_readSpan_25 : decode cX6_readSpan 25 = .ok (.iconst 0, 1) := by decide +kernel
theorem dX6_readSpan_26 : decode cX6_readSpan 26 = .ok (.bipush 99, 2) := by decide +kernel
theorem dX6_readSpan_28 : decode cX6_readSpan 28 = .ok (.invokevirtual 146, 3) := by decide +kernel
theorem dX6_readSpan_31 : decode cX6_readSpan 31 = .ok (.putfield 150, 3) := by decide +kernel
theorem dX6_readSpan_34 : decode cX6_readSpan 34 = .ok (.aload_n 1, 1) := by decide +kernel
theorem dX6_readSpan_35 : decode cX6_readSpan 35 = .ok (.aload_n 0, 1) := by decide +kernel
theorem dX6_readSpan_36 : decode cX6_readSpan 36 = .ok (.getfield 12, 3) := by decide +kernel
theorem dX6_readSpan_39 : decode cX6_readSpan 39 = .ok (.aload_n 1, 1) := by decide +kernel
theorem dX6_readSpan_40 : decode cX6_readSpan 40 = .ok (.getfield 150, 3) := by decide +kernel
theorem dX6_readSpan_43 : decode cX6_readSpan 43 = .ok (.iconst 1, 1) := by decide +kernel
theorem dX6_readSpan_44 : decode cX6_readSpan 44 = .ok (.iadd, 1) := by decide +kernel
theorem dX6_readSpan_45 : decode cX6_readSpan 45 = .ok (.bipush 99, 2) := by decide +kernel
theorem dX6_readSpan_47 : decode cX6_readSpan 47 = .ok (.invokevirtual 146, 3) := by decide +kernel
theorem dX6_readSpan_50 : decode cX6_readSpan 50 = .ok (.putfield 153, 3) := by decide +kernel
theorem dX6_readSpan_53 : decode cX6_readSpan 53 = .ok (.return_, 1) := by decide +kernel
theorem dX6_readHold_0 : decode cX6_readHold 0 = .ok (.aload_n 1, 1) := by decide +kernel
theorem dX6_readHold_1 : decode cX6_readHold 1 = .ok (.getfield 60, 3) := by decide +kernel
theorem dX6_readHold_4 : decode cX6_readHold 4 = .ok (.getfield 156, 3) := by decide +kernel
theorem dX6_readHold_7 : decode cX6_readHold 7 = .ok (.iconst 3, 1) := by decide +kernel
theorem dX6_readHold_8 : decode cX6_readHold 8 = .ok (.if_icmp .lt 11, 3) := by decide +kernel
theorem dX6_readHold_11 : decode cX6_readHold 11 = .ok (.aload_n 0, 1) := by decide +kernel
theorem dX6_readHold_12 : decode cX6_readHold 12 = .ok (.getfield 12, 3) := by decide +kernel
theorem dX6_readHold_15 : decode cX6_readHold 15 = .ok (.iconst 4, 1) := by decide +kernel
theorem dX6_readHold_16 : decode cX6_readHold 16 = .ok (.invokevirtual 98, 3) := by decide +kernel
theorem dX6_readHold_19 : decode cX6_readHold 19 = .ok (.aload_n 0, 1) := by decide +kernel
theorem dX6_readHold_20 : decode cX6_readHold 20 = .ok (.aload_n 1, 1) := by decide +kernel
theorem dX6_readHold_21 : decode cX6_readHold 21 = .ok (.invokevirtual 161, 3) := by decide +kernel
theorem dX6_readHold_24 : decode cX6_readHold 24 = .ok (.lstore_n 2, 1) := by decide +kernel
theorem dX6_readHold_25 : decode cX6_readHold 25 = .ok (.aload_n 0, 1) := by decide +kernel
theorem dX6_readHold_26 : decode cX6_readHold 26 = .ok (.getfield 12, 3) := by decide +kernel
theorem dX6_readHold_29 : decode cX6_readHold 29 = .ok (.iconst 1, 1) := by decide +kernel
theorem dX6_readHold_30 : decode cX6_readHold 30 = .ok (.sipush 999, 3) := by decide +kernel
theorem dX6_readHold_33 : decode cX6_readHold 33 = .ok (.invokevirtual 146, 3) := by decide +kernel
theorem dX6_readHold_36 : decode cX6_readHold 36 = .ok (.istore 4, 2) := by decide +kernel
theorem dX6_readHold_38 : decode cX6_readHold 38 = .ok (.aload_n 0, 1) := by decide +kernel
theorem dX6_readHold_39 : decode cX6_readHold 39 = .ok (.invokevirtual 165, 3) := by decide +kernel
theorem dX6_readHold_42 : decode cX6_readHold 42 = .ok (.istore 5, 2) := by decide +kernel
theorem dX6_readHold_44 : decode cX6_readHold 44 = .ok (.aload_n 0, 1) := by decide +kernel
theorem dX6_readHold_45 : decode cX6_readHold 45 = .ok (.getfield 12, 3) := by decide +kernel
theorem dX6_readHold_48 : decode cX6_readHold 48 = .ok (.getfield 140, 3) := by decide +kernel
theorem dX6_readHold_51 : decode cX6_readHold 51 = .ok (.ifCond .ne 15, 3) := by decide +kernel
theorem dX6_readHold_54 : decode cX6_readHold 54 = .ok (.aload_n 1, 1) := by decide +kernel
theorem dX6_readHold_55 : decode cX6_readHold 55 = .ok (.getfield 60, 3) := by decide +kernel
theorem dX6_readHold_58 : decode cX6_readHold 58 = .ok (.lload_n 2, 1) := by decide +kernel
theorem dX6_readHold_59 : decode cX6_readHold 59 = .ok (.iload 4, 2) := by decide +kernel
theorem dX6_readHold_61 : decode cX6_readHold 61 = .ok (.iload 5, 2) := by decide +kernel
theorem dX6_readHold_63 : decode cX6_readHold 63 = .ok (.invokevirtual 168, 3) := by decide +kernel
theorem dX6_readHold_66 : decode cX6_readHold 66 = .ok (.return_, 1) := by decide +kernel
theorem dX6_isFrontDoor_0 : decode cX6_isFrontDoor 0 = .ok (.aload_n 0, 1) := by decide +kernel
theorem dX6_isFrontDoor_1 : decode cX6_isFrontDoor 1 = .ok (.getfield 12, 3) := by decide +kernel
theorem dX6_isFrontDoor_4 : decode cX6_isFrontDoor 4 = .ok (.invokevirtual 137, 3) := by decide +kernel
theorem dX6_isFrontDoor_7 : decode cX6_isFrontDoor 7 = .ok (.aload_n 0, 1) := by decide +kernel
theorem dX6_isFrontDoor_8 : decode cX6_isFrontDoor 8 = .ok (.getfield 12, 3) := by decide +kernel
theorem dX6_isFrontDoor_11 : decode cX6_isFrontDoor 11 = .ok (.ldc 172, 2) := by decide +kernel
theorem dX6_isFrontDoor_13 : decode cX6_isFrontDoor 13 = .ok (.invokevirtual 40, 3) := by decide +kernel
theorem dX6_isFrontDoor_16 : decode cX6_isFrontDoor 16 = .ok (.istore_n 1, 1) := by decide +kernel
theorem dX6_isFrontDoor_17 : decode cX6_isFrontDoor 17 = .ok (.iload_n 1, 1) := by decide +kernel
theorem dX6_isFrontDoor_18 : decode cX6_isFrontDoor 18 = .ok (.ifCond .ne 23, 3) := by decide +kernel
theorem dX6_isFrontDoor_21 : decode cX6_isFrontDoor 21 = .ok (.aload_n 0, 1) := by decide +kernel
theorem dX6_isFrontDoor_22 : decode cX6_isFrontDoor 22 = .ok (.getfield 12, 3) := by decide +kernel
theorem dX6_isFrontDoor_25 : decode cX6_isFrontDoor 25 = .ok (.ldc 174, 2) := by decide +kernel
theorem dX6_isFrontDoor_27 : decode cX6_isFrontDoor 27 = .ok (.invokevirtual 40, 3) := by decide +kernel
theorem dX6_isFrontDoor_30 : decode cX6_isFrontDoor 30 = .ok (.ifCond .ne 11, 3) := by decide +kernel
theorem dX6_isFrontDoor_33 : decode cX6_isFrontDoor 33 = .ok (.aload_n 0, 1) := by decide +kernel
theorem dX6_isFrontDoor_34 : decode cX6_isFrontDoor 34 = .ok (.getfield 12, 3) := by decide +kernel
theorem dX6_isFrontDoor_37 : decode cX6_isFrontDoor 37 = .ok (.iconst 1, 1) := by decide +kernel
theorem dX6_isFrontDoor_38 : decode cX6_isFrontDoor 38 = .ok (.invokevirtual 98, 3) := by decide +kernel
theorem dX6_isFrontDoor_41 : decode cX6_isFrontDoor 41 = .ok (.iload_n 1, 1) := by decide +kernel
theorem dX6_isFrontDoor_42 : decode cX6_isFrontDoor 42 = .ok (.ireturn, 1) := by decide +kernel
theorem dX6_readSpot_0 : decode cX6_readSpot 0 = .ok (.aload_n 1, 1) := by decide +kernel
theorem dX6_readSpot_1 : decode cX6_readSpot 1 = .ok (.getfield 176, 3) := by decide +kernel
theorem dX6_readSpot_4 : decode cX6_readSpot 4 = .ok (.bipush 6, 2) := by decide +kernel
theorem dX6_readSpot_6 : decode cX6_readSpot 6 = .ok (.if_icmp .lt 11, 3) := by decide +kernel
theorem dX6_readSpot_9 : decode cX6_readSpot 9 = .ok (.aload_n 0, 1) := by decide +kernel
theorem dX6_readSpot_10 : decode cX6_readSpot 10 = .ok (.getfield 12, 3) := by decide +kernel
theorem dX6_readSpot_13 : decode cX6_readSpot 13 = .ok (.iconst 4, 1) := by decide +kernel
theorem dX6_readSpot_14 : decode cX6_readSpot 14 = .ok (.invokevirtual 98, 3) := by decide +kernel
theorem dX6_readSpot_17 : decode cX6_readSpot 17 = .ok (.aload_n 1, 1) := by decide +kernel
theorem dX6_readSpot_18 : decode cX6_readSpot 18 = .ok (.getfield 156, 3) := by decide +kernel
theorem dX6_readSpot_21 : decode cX6_readSpot 21 = .ok (.ifCond .ne 11, 3) := by decide +kernel
theorem dX6_readSpot_24 : decode cX6_readSpot 24 = .ok (.aload_n 0, 1) := by decide +kernel
theorem dX6_readSpot_25 : decode cX6_readSpot 25 = .ok (.getfield 12, 3) := by decide +kernel
theorem dX6_readSpot_28 : decode cX6_readSpot 28 = .ok (.iconst 5, 1) := by decide +kernel
theorem dX6_readSpot_29 : decode cX6_readSpot 29 = .ok (.invokevirtual 98, 3) := by decide +kernel
theorem dX6_readSpot_32 : decode cX6_readSpot 32 = .ok (.aload_n 0, 1) := by decide +kernel
theorem dX6_readSpot_33 : decode cX6_readSpot 33 = .ok (.getfield 12, 3) := by decide +kernel
theorem dX6_readSpot_36 : decode cX6_readSpot 36 = .ok (.iconst 0, 1) := by decide +kernel
theorem dX6_readSpot_37 : decode cX6_readSpot 37 = .ok (.bipush 99, 2) := by decide +kernel
theorem dX6_readSpot_39 : decode cX6_readSpot 39 = .ok (.invokevirtual 146, 3) := by decide +kernel
theorem dX6_readSpot_42 : decode cX6_readSpot 42 = .ok (.istore_n 2, 1) := by decide +kernel
theorem dX6_readSpot_43 : decode cX6_readSpot 43 = .ok (.aload_n 0, 1) := by decide +kernel
theorem dX6_readSpot_44 : decode cX6_readSpot 44 = .ok (.getfield 12, 3) := by decide +kernel
theorem dX6_readSpot_47 : decode cX6_readSpot 47 = .ok (.iconst 1, 1) := by decide +kernel
theorem dX6_readSpot_48 : decode cX6_readSpot 48 = .ok (.bipush 99, 2) := by decide +kernel
theorem dX6_readSpot_50 : decode cX6_readSpot 50 = .ok (.invokevirtual 146, 3) := by decide +kernel
theorem dX6_readSpot_53 : decode cX6_readSpot 53 = .ok (.istore_n 3, 1) := by decide +kernel
theorem dX6_readSpot_54 : decode cX6_readSpot 54 = .ok (.aload_n 0, 1) := by decide +kernel
theorem dX6_readSpot_55 : decode cX6_readSpot 55 = .ok (.getfield 12, 3) := by decide +kernel
theorem dX6_readSpot_58 : decode cX6_readSpot 58 = .ok (.getfield 140, 3) := by decide +kernel
theorem dX6_readSpot_61 : decode cX6_readSpot 61 = .ok (.ifCond .ne 9, 3) := by decide +kernel
theorem dX6_readSpot_64 : decode cX6_readSpot 64 = .ok (.aload_n 1, 1) := by decide +kernel
theorem dX6_readSpot_65 : decode cX6_readSpot 65 = .ok (.iload_n 2, 1) := by decide +kernel
theorem dX6_readSpot_66 : decode cX6_readSpot 66 = .ok (.iload_n 3, 1) := by decide +kernel
theorem dX6_readSpot_67 : decode cX6_readSpot 67 = .ok (.invokevirtual 179, 3) := by decide +kernel
theorem dX6_readSpot_70 : decode cX6_readSpot 70 = .ok (.return_, 1) := by decide +kernel
theorem dX6_readJoint_0 : decode cX6_readJoint 0 = .ok (.aload_n 1, 1) := by decide +kernel
theorem dX6_readJoint_1 : decode cX6_readJoint 1 = .ok (.invokevirtual 182, 3) := by decide +kernel
theorem dX6_readJoint_4 : decode cX6_readJoint 4 = .ok (.ifCond .ne 11, 3) := by decide +kernel
theorem dX6_readJoint_7 : decode cX6_readJoint 7 = .ok (.aload_n 0, 1) := by decide +kernel
theorem dX6_readJoint_8 : decode cX6_readJoint 8 = .ok (.getfield 12, 3) := by decide +kernel
theorem dX6_readJoint_11 : decode cX6_readJoint 11 = .ok (.iconst 5, 1) := by decide +kernel
theorem dX6_readJoint_12 : decode cX6_readJoint 12 = .ok (.invokevirtual 98, 3) := by decide +kernel
theorem dX6_readJoint_15 : decode cX6_readJoint 15 = .ok (.aload_n 0, 1) := by decide +kernel
theorem dX6_readJoint_16 : decode cX6_readJoint 16 = .ok (.getfield 12, 3) := by decide +kernel
theorem dX6_readJoint_19 : decode cX6_readJoint 19 = .ok (.iconst 1, 1) := by decide +kernel
theorem dX6_readJoint_20 : decode cX6_readJoint 20 = .ok (.sipush 999, 3) := by decide +kernel
theorem dX6_readJoint_23 : decode cX6_readJoint 23 = .ok (.invokevirtual 146, 3) := by decide +kernel
theorem dX6_readJoint_26 : decode cX6_readJoint 26 = .ok (.istore_n 2, 1) := by decide +kernel
theorem dX6_readJoint_27 : decode cX6_readJoint 27 = .ok (.aload_n 0, 1) := by decide +kernel
theorem dX6_readJoint_28 : decode cX6_readJoint 28 = .ok (.getfield 12, 3) := by decide +kernel
theorem dX6_readJoint_31 : decode cX6_readJoint 31 = .ok (.getfield 140, 3) := by decide +kernel
theorem dX6_readJoint_34 : decode cX6_readJoint 34 = .ok (.ifCond .ne 8, 3) := by decide +kernel
theorem dX6_readJoint_37 : decode cX6_readJoint 37 = .ok (.aload_n 1, 1) := by decide +kernel
theorem dX6_readJoint_38 : decode cX6_readJoint 38 = .ok (.iload_n 2, 1) := by decide +kernel
theorem dX6_readJoint_39 : decode cX6_readJoint 39 = .ok (.invokevirtual 185, 3) := by decide +kernel
theorem dX6_readJoint_42 : decode cX6_readJoint 42 = .ok (.return_, 1) := by decide +kernel
theorem dX6_readBin_0 : decode cX6_readBin 0 = .ok (.aload_n 1, 1) := by decide +kernel
theorem dX6_readBin_1 : decode cX6_readBin 1 = .ok (.getfield 188, 3) := by decide +kernel
theorem dX6_readBin_4 : decode cX6_readBin 4 = .ok (.iconst 2, 1) := by decide +kernel
theorem dX6_readBin_5 : decode cX6_readBin 5 = .ok (.if_icmp .lt 11, 3) := by decide +kernel
theorem dX6_readBin_8 : decode cX6_readBin 8 = .ok (.aload_n 0, 1) := by decide +kernel
theorem dX6_readBin_9 : decode cX6_readBin 9 = .ok (.getfield 12, 3) := by decide +kernel
theorem dX6_readBin_12 : decode cX6_readBin 12 = .ok (.iconst 4, 1) := by decide +kernel
theorem dX6_readBin_13 : decode cX6_readBin 13 = .ok (.invokevirtual 98, 3) := by decide +kernel
theorem dX6_readBin_16 : decode cX6_readBin 16 = .ok (.aload_n 0, 1) := by decide +kernel
theorem dX6_readBin_17 : decode cX6_readBin 17 = .ok (.getfield 12, 3) := by decide +kernel
theorem dX6_readBin_20 : decode cX6_readBin 20 = .ok (.iconst 0, 1) := by decide +kernel
theorem dX6_readBin_21 : decode cX6_readBin 21 = .ok (.bipush 99, 2) := by decide +kernel
theorem dX6_readBin_23 : decode cX6_readBin 23 = .ok (.invokevirtual 146, 3) := by decide +kernel
theorem dX6_readBin_26 : decode cX6_readBin 26 = .ok (.istore_n 2, 1) := by decide +kernel
theorem dX6_readBin_27 : decode cX6_readBin 27 = .ok (.aload_n 0, 1) := by decide +kernel
theorem dX6_readBin_28 : decode cX6_readBin 28 = .ok (.getfield 12, 3) := by decide +kernel
theorem dX6_readBin_31 : decode cX6_readBin 31 = .ok (.iconst 1, 1) := by decide +kernel
theorem dX6_readBin_32 : decode cX6_readBin 32 = .ok (.bipush 99, 2) := by decide +kernel
theorem dX6_readBin_34 : decode cX6_readBin 34 = .ok (.invokevirtual 146, 3) := by decide +kernel
theorem dX6_readBin_37 : decode cX6_readBin 37 = .ok (.istore_n 3, 1) := by decide +kernel
theorem dX6_readBin_38 : decode cX6_readBin 38 = .ok (.aload_n 0, 1) := by decide +kernel
theorem dX6_readBin_39 : decode cX6_readBin 39 = .ok (.getfield 12, 3) := by decide +kernel
theorem dX6_readBin_42 : decode cX6_readBin 42 = .ok (.getfield 140, 3) := by decide +kernel
theorem dX6_readBin_45 : decode cX6_readBin 45 = .ok (.ifCond .ne 9, 3) := by decide +kernel
theorem dX6_readBin_48 : decode cX6_readBin 48 = .ok (.aload_n 1, 1) := by decide +kernel
theorem dX6_readBin_49 : decode cX6_readBin 49 = .ok (.iload_n 2, 1) := by decide +kernel
theorem dX6_readBin_50 : decode cX6_readBin 50 = .ok (.iload_n 3, 1) := by decide +kernel
theorem dX6_readBin_51 : decode cX6_readBin 51 = .ok (.invokevirtual 191, 3) := by decide +kernel
theorem dX6_readBin_54 : decode cX6_readBin 54 = .ok (.return_, 1) := by decide +kernel
theorem dX6_readTank_0 : decode cX6_readTank 0 = .ok (.aload_n 1, 1) := by decide +kernel
theorem dX6_readTank_1 : decode cX6_readTank 1 = .ok (.getfield 85, 3) := by decide +kernel
theorem dX6_readTank_4 : decode cX6_readTank 4 = .ok (.getfield 194, 3) := by decide +kernel
theorem dX6_readTank_7 : decode cX6_readTank 7 = .ok (.iconst 3, 1) := by decide +kernel
theorem dX6_readTank_8 : decode cX6_readTank 8 = .ok (.if_icmp .lt 11, 3) := by decide +kernel
theorem dX6_readTank_11 : decode cX6_readTank 11 = .ok (.aload_n 0, 1) := by decide +kernel
theorem dX6_readTank_12 : decode cX6_readTank 12 = .ok (.getfield 12, 3) := by decide +kernel
theorem dX6_readTank_15 : decode cX6_readTank 15 = .ok (.iconst 4, 1) := by decide +kernel
theorem dX6_readTank_16 : decode cX6_readTank 16 = .ok (.invokevirtual 98, 3) := by decide +kernel
theorem dX6_readTank_19 : decode cX6_readTank 19 = .ok (.aload_n 0, 1) := by decide +kernel
theorem dX6_readTank_20 : decode cX6_readTank 20 = .ok (.aload_n 1, 1) := by decide +kernel
theorem dX6_readTank_21 : decode cX6_readTank 21 = .ok (.invokevirtual 161, 3) := by decide +kernel
theorem dX6_readTank_24 : decode cX6_readTank 24 = .ok (.lstore_n 2, 1) := by decide +kernel
theorem dX6_readTank_25 : decode cX6_readTank 25 = .ok (.aload_n 0, 1) := by decide +kernel
theorem dX6_readTank_26 : decode cX6_readTank 26 = .ok (.getfield 12, 3) := by decide +kernel
theorem dX6_readTank_29 : decode cX6_readTank 29 = .ok (.iconst 0, 1) := by decide +kernel
theorem dX6_readTank_30 : decode cX6_readTank 30 = .ok (.bipush 99, 2) := by decide +kernel
theorem dX6_readTank_32 : decode cX6_readTank 32 = .ok (.invokevirtual 146, 3) := by decide +kernel
theorem dX6_readTank_35 : decode cX6_readTank 35 = .ok (.istore 4, 2) := by decide +kernel
theorem dX6_readTank_37 : decode cX6_readTank 37 = .ok (.aload_n 0, 1) := by decide +kernel
theorem dX6_readTank_38 : decode cX6_readTank 38 = .ok (.getfield 12, 3) := by decide +kernel
theorem dX6_readTank_41 : decode cX6_readTank 41 = .ok (.iconst 1, 1) := by decide +kernel
theorem dX6_readTank_42 : decode cX6_readTank 42 = .ok (.bipush 99, 2) := by decide +kernel
theorem dX6_readTank_44 : decode cX6_readTank 44 = .ok (.invokevirtual 146, 3) := by decide +kernel
theorem dX6_readTank_47 : decode cX6_readTank 47 = .ok (.istore 5, 2) := by decide +kernel
theorem dX6_readTank_49 : decode cX6_readTank 49 = .ok (.aload_n 0, 1) := by decide +kernel
theorem dX6_readTank_50 : decode cX6_readTank 50 = .ok (.getfield 12, 3) := by decide +kernel
theorem dX6_readTank_53 : decode cX6_readTank 53 = .ok (.getfield 140, 3) := by decide +kernel
theorem dX6_readTank_56 : decode cX6_readTank 56 = .ok (.ifCond .ne 15, 3) := by decide +kernel
theorem dX6_readTank_59 : decode cX6_readTank 59 = .ok (.aload_n 1, 1) := by decide +kernel
theorem dX6_readTank_60 : decode cX6_readTank 60 = .ok (.getfield 85, 3) := by decide +kernel
theorem dX6_readTank_63 : decode cX6_readTank 63 = .ok (.lload_n 2, 1) := by decide +kernel
theorem dX6_readTank_64 : decode cX6_readTank 64 = .ok (.iload 4, 2) := by decide +kernel
theorem dX6_readTank_66 : decode cX6_readTank 66 = .ok (.iload 5, 2) := by decide +kernel
theorem dX6_readTank_68 : decode cX6_readTank 68 = .ok (.invokevirtual 197, 3) := by decide +kernel
theorem dX6_readTank_71 : decode cX6_readTank 71 = .ok (.return_, 1) := by decide +kernel
theorem dX6_readBurn_0 : decode cX6_readBurn 0 = .ok (.aload_n 1, 1) := by decide +kernel
theorem dX6_readBurn_1 : decode cX6_readBurn 1 = .ok (.getfield 201, 3) := by decide +kernel
theorem dX6_readBurn_4 : decode cX6_readBurn 4 = .ok (.bipush 12, 2) := by decide +kernel
theorem dX6_readBurn_6 : decode cX6_readBurn 6 = .ok (.if_icmp .lt 11, 3) := by decide +kernel
theorem dX6_readBurn_9 : decode cX6_readBurn 9 = .ok (.aload_n 0, 1) := by decide +kernel
theorem dX6_readBurn_10 : decode cX6_readBurn 10 = .ok (.getfield 12, 3) := by decide +kernel
theorem dX6_readBurn_13 : decode cX6_readBurn 13 = .ok (.iconst 4, 1) := by decide +kernel
theorem dX6_readBurn_14 : decode cX6_readBurn 14 = .ok (.invokevirtual 98, 3) := by decide +kernel
theorem dX6_readBurn_17 : decode cX6_readBurn 17 = .ok (.aload_n 1, 1) := by decide +kernel
theorem dX6_readBurn_18 : decode cX6_readBurn 18 = .ok (.aload_n 0, 1) := by decide +kernel
theorem dX6_readBurn_19 : decode cX6_readBurn 19 = .ok (.getfield 12, 3) := by decide +kernel
theorem dX6_readBurn_22 : decode cX6_readBurn 22 = .ok (.invokevirtual 204, 3) := by decide +kernel
theorem dX6_readBurn_25 : decode cX6_readBurn 25 = .ok (.invokevirtual 208, 3) := by decide +kernel
theorem dX6_readBurn_28 : decode cX6_readBurn 28 = .ok (.istore_n 2, 1) := by decide +kernel
theorem dX6_readBurn_29 : decode cX6_readBurn 29 = .ok (.iload_n 2, 1) := by decide +kernel
theorem dX6_readBurn_30 : decode cX6_readBurn 30 = .ok (.iconst (-1), 1) := by decide +kernel
theorem dX6_readBurn_31 : decode cX6_readBurn 31 = .ok (.if_icmp .ne 11, 3) := by decide +kernel
theorem dX6_readBurn_34 : decode cX6_readBurn 34 = .ok (.aload_n 0, 1) := by decide +kernel
theorem dX6_readBurn_35 : decode cX6_readBurn 35 = .ok (.getfield 12, 3) := by decide +kernel
theorem dX6_readBurn_38 : decode cX6_readBurn 38 = .ok (.iconst 3, 1) := by decide +kernel
theorem dX6_readBurn_39 : decode cX6_readBurn 39 = .ok (.invokevirtual 98, 3) := by decide +kernel
theorem dX6_readBurn_42 : decode cX6_readBurn 42 = .ok (.aload_n 0, 1) := by decide +kernel
theorem dX6_readBurn_43 : decode cX6_readBurn 43 = .ok (.getfield 12, 3) := by decide +kernel
theorem dX6_readBurn_46 : decode cX6_readBurn 46 = .ok (.iconst 1, 1) := by decide +kernel
theorem dX6_readBurn_47 : decode cX6_readBurn 47 = .ok (.aload_n 1, 1) := by decide +kernel
theorem dX6_readBurn_48 : decode cX6_readBurn 48 = .ok (.iload_n 2, 1) := by decide +kernel
theorem dX6_readBurn_49 : decode cX6_readBurn 49 = .ok (.invokevirtual 212, 3) := by decide +kernel
theorem dX6_readBurn_52 : decode cX6_readBurn 52 = .ok (.invokevirtual 146, 3) := by decide +kernel
theorem dX6_readBurn_55 : decode cX6_readBurn 55 = .ok (.istore_n 3, 1) := by decide +kernel
theorem dX6_readBurn_56 : decode cX6_readBurn 56 = .ok (.aload_n 0, 1) := by decide +kernel
theorem dX6_readBurn_57 : decode cX6_readBurn 57 = .ok (.getfield 12, 3) := by decide +kernel
theorem dX6_readBurn_60 : decode cX6_readBurn 60 = .ok (.getfield 140, 3) := by decide +kernel
theorem dX6_readBurn_63 : decode cX6_readBurn 63 = .ok (.ifCond .ne 9, 3) := by decide +kernel
theorem dX6_readBurn_66 : decode cX6_readBurn 66 = .ok (.aload_n 1, 1) := by decide +kernel
theorem dX6_readBurn_67 : decode cX6_readBurn 67 = .ok (.iload_n 2, 1) := by decide +kernel
theorem dX6_readBurn_68 : decode cX6_readBurn 68 = .ok (.iload_n 3, 1) := by decide +kernel
theorem dX6_readBurn_69 : decode cX6_readBurn 69 = .ok (.invokevirtual 216, 3) := by decide +kernel
theorem dX6_readBurn_72 : decode cX6_readBurn 72 = .ok (.return_, 1) := by decide +kernel
theorem dX6_readStop_0 : decode cX6_readStop 0 = .ok (.aload_n 1, 1) := by decide +kernel
theorem dX6_readStop_1 : decode cX6_readStop 1 = .ok (.getfield 201, 3) := by decide +kernel
theorem dX6_readStop_4 : decode cX6_readStop 4 = .ok (.bipush 12, 2) := by decide +kernel
theorem dX6_readStop_6 : decode cX6_readStop 6 = .ok (.if_icmp .ge 11, 3) := by decide +kernel
theorem dX6_readStop_9 : decode cX6_readStop 9 = .ok (.aload_n 1, 1) := by decide +kernel
theorem dX6_readStop_10 : decode cX6_readStop 10 = .ok (.getfield 219, 3) := by decide +kernel
theorem dX6_readStop_13 : decode cX6_readStop 13 = .ok (.iconst 4, 1) := by decide +kernel
theorem dX6_readStop_14 : decode cX6_readStop 14 = .ok (.if_icmp .lt 14, 3) := by decide +kernel
theorem dX6_readStop_17 : decode cX6_readStop 17 = .ok (.aload_n 0, 1) := by decide +kernel
theorem dX6_readStop_18 : decode cX6_readStop 18 = .ok (.getfield 12, 3) := by decide +kernel
theorem dX6_readStop_21 : decode cX6_readStop 21 = .ok (.iconst 4, 1) := by decide +kernel
theorem dX6_readStop_22 : decode cX6_readStop 22 = .ok (.invokevirtual 98, 3) := by decide +kernel
theorem dX6_readStop_25 : decode cX6_readStop 25 = .ok (.goto 7, 3) := by decide +kernel
theorem dX6_readStop_28 : decode cX6_readStop 28 = .ok (.aload_n 1, 1) := by decide +kernel
theorem dX6_readStop_29 : decode cX6_readStop 29 = .ok (.invokevirtual 222, 3) := by decide +kernel
theorem dX6_readStop_32 : decode cX6_readStop 32 = .ok (.return_, 1) := by decide +kernel
theorem dX6_newName_0 : decode cX6_newName 0 = .ok (.aload_n 0, 1) := by decide +kernel
theorem dX6_newName_1 : decode cX6_newName 1 = .ok (.getfield 12, 3) := by decide +kernel
theorem dX6_newName_4 : decode cX6_newName 4 = .ok (.invokevirtual 204, 3) := by decide +kernel
theorem dX6_newName_7 : decode cX6_newName 7 = .ok (.lstore_n 2, 1) := by decide +kernel
theorem dX6_newName_8 : decode cX6_newName 8 = .ok (.aload_n 1, 1) := by decide +kernel
theorem dX6_newName_9 : decode cX6_newName 9 = .ok (.getfield 60, 3) := by decide +kernel
theorem dX6_newName_12 : decode cX6_newName 12 = .ok (.lload_n 2, 1) := by decide +kernel
theorem dX6_newName_13 : decode cX6_newName 13 = .ok (.invokevirtual 225, 3) := by decide +kernel
theorem dX6_newName_16 : decode cX6_newName 16 = .ok (.ifCond .ne 15, 3) := by decide +kernel
theorem dX6_newName_19 : decode cX6_newName 19 = .ok (.aload_n 1, 1) := by decide +kernel
theorem dX6_newName_20 : decode cX6_newName 20 = .ok (.getfield 85, 3) := by decide +kernel
theorem dX6_newName_23 : decode cX6_newName 23 = .ok (.lload_n 2, 1) := by decide +kernel
theorem dX6_newName_24 : decode cX6_newName 24 = .ok (.invokevirtual 208, 3) := by decide +kernel
theorem dX6_newName_27 : decode cX6_newName 27 = .ok (.iconst (-1), 1) := by decide +kernel
theorem dX6_newName_28 : decode cX6_newName 28 = .ok (.if_icmp .eq 11, 3) := by decide +kernel
theorem dX6_newName_31 : decode cX6_newName 31 = .ok (.aload_n 0, 1) := by decide +kernel
theorem dX6_newName_32 : decode cX6_newName 32 = .ok (.getfield 12, 3) := by decide +kernel
theorem dX6_newName_35 : decode cX6_newName 35 = .ok (.iconst 3, 1) := by decide +kernel
theorem dX6_newName_36 : decode cX6_newName 36 = .ok (.invokevirtual 98, 3) := by decide +kernel
theorem dX6_newName_39 : decode cX6_newName 39 = .ok (.lload_n 2, 1) := by decide +kernel
theorem dX6_newName_40 : decode cX6_newName 40 = .ok (.lreturn, 1) := by decide +kernel
theorem dX6_readPallet_0 : decode cX6_readPallet 0 = .ok (.aload_n 1, 1) := by decide +kernel
theorem dX6_readPallet_1 : decode cX6_readPallet 1 = .ok (.getfield 229, 3) := by decide +kernel
theorem dX6_readPallet_4 : decode cX6_readPallet 4 = .ok (.iconst 5, 1) := by decide +kernel
theorem dX6_readPallet_5 : decode cX6_readPallet 5 = .ok (.if_icmp .lt 11, 3) := by decide +kernel
theorem dX6_readPallet_8 : decode cX6_readPallet 8 = .ok (.aload_n 0, 1) := by decide +kernel
theorem dX6_readPallet_9 : decode cX6_readPallet 9 = .ok (.getfield 12, 3) := by decide +kernel
theorem dX6_readPallet_12 : decode cX6_readPallet 12 = .ok (.iconst 4, 1) := by decide +kernel
theorem dX6_readPallet_13 : decode cX6_readPallet 13 = .ok (.invokevirtual 98, 3) := by decide +kernel
theorem dX6_readPallet_16 : decode cX6_readPallet 16 = .ok (.aload_n 0, 1) := by decide +kernel
theorem dX6_readPallet_17 : decode cX6_readPallet 17 = .ok (.getfield 12, 3) := by decide +kernel
theorem dX6_readPallet_20 : decode cX6_readPallet 20 = .ok (.invokevirtual 204, 3) := by decide +kernel
theorem dX6_readPallet_23 : decode cX6_readPallet 23 = .ok (.lstore_n 2, 1) := by decide +kernel
theorem dX6_readPallet_24 : decode cX6_readPallet 24 = .ok (.aload_n 1, 1) := by decide +kernel
theorem dX6_readPallet_25 : decode cX6_readPallet 25 = .ok (.lload_n 2, 1) := by decide +kernel
theorem dX6_readPallet_26 : decode cX6_readPallet 26 = .ok (.invokevirtual 232, 3) := by decide +kernel
theorem dX6_readPallet_29 : decode cX6_readPallet 29 = .ok (.iconst (-1), 1) := by decide +kernel
theorem dX6_readPallet_30 : decode cX6_readPallet 30 = .ok (.if_icmp .eq 11, 3) := by decide +kernel
theorem dX6_readPallet_33 : decode cX6_readPallet 33 = .ok (.aload_n 0, 1) := by decide +kernel
theorem dX6_readPallet_34 : decode cX6_readPallet 34 = .ok (.getfield 12, 3) := by decide +kernel
theorem dX6_readPallet_37 : decode cX6_readPallet 37 = .ok (.iconst 3, 1) := by decide +kernel
theorem dX6_readPallet_38 : decode cX6_readPallet 38 = .ok (.invokevirtual 98, 3) := by decide +kernel
theorem dX6_readPallet_41 : decode cX6_readPallet 41 = .ok (.aload_n 0, 1) := by decide +kernel
theorem dX6_readPallet_42 : decode cX6_readPallet 42 = .ok (.getfield 12, 3) := by decide +kernel
theorem dX6_readPallet_45 : decode cX6_readPallet 45 = .ok (.iconst 1, 1) := by decide +kernel
theorem dX6_readPallet_46 : decode cX6_readPallet 46 = .ok (.bipush 99, 2) := by decide +kernel
theorem dX6_readPallet_48 : decode cX6_readPallet 48 = .ok (.invokevirtual 146, 3) := by decide +kernel
theorem dX6_readPallet_51 : decode cX6_readPallet 51 = .ok (.istore 4, 2) := by decide +kernel
theorem dX6_readPallet_53 : decode cX6_readPallet 53 = .ok (.aload_n 0, 1) := by decide +kernel
theorem dX6_readPallet_54 : decode cX6_readPallet 54 = .ok (.getfield 12, 3) := by decide +kernel
theorem dX6_readPallet_57 : decode cX6_readPallet 57 = .ok (.iconst 1, 1) := by decide +kernel
theorem dX6_readPallet_58 : decode cX6_readPallet 58 = .ok (.bipush 9, 2) := by decide +kernel
theorem dX6_readPallet_60 : decode cX6_readPallet 60 = .ok (.invokevirtual 146, 3) := by decide +kernel
theorem dX6_readPallet_63 : decode cX6_readPallet 63 = .ok (.istore 5, 2) := by decide +kernel
theorem dX6_readPallet_65 : decode cX6_readPallet 65 = .ok (.aload_n 0, 1) := by decide +kernel
theorem dX6_readPallet_66 : decode cX6_readPallet 66 = .ok (.getfield 12, 3) := by decide +kernel
theorem dX6_readPallet_69 : decode cX6_readPallet 69 = .ok (.getfield 140, 3) := by decide +kernel
theorem dX6_readPallet_72 : decode cX6_readPallet 72 = .ok (.ifCond .ne 12, 3) := by decide +kernel
theorem dX6_readPallet_75 : decode cX6_readPallet 75 = .ok (.aload_n 1, 1) := by decide +kernel
theorem dX6_readPallet_76 : decode cX6_readPallet 76 = .ok (.lload_n 2, 1) := by decide +kernel
theorem dX6_readPallet_77 : decode cX6_readPallet 77 = .ok (.iload 4, 2) := by decide +kernel
theorem dX6_readPallet_79 : decode cX6_readPallet 79 = .ok (.iload 5, 2) := by decide +kernel
theorem dX6_readPallet_81 : decode cX6_readPallet 81 = .ok (.invokevirtual 235, 3) := by decide +kernel
theorem dX6_readPallet_84 : decode cX6_readPallet 84 = .ok (.return_, 1) := by decide +kernel
theorem dX6_readBulk_0 : decode cX6_readBulk 0 = .ok (.aload_n 0, 1) := by decide +kernel
theorem dX6_readBulk_1 : decode cX6_readBulk 1 = .ok (.getfield 120, 3) := by decide +kernel
theorem dX6_readBulk_4 : decode cX6_readBulk 4 = .ok (.ifCond .eq 11, 3) := by decide +kernel
theorem dX6_readBulk_7 : decode cX6_readBulk 7 = .ok (.aload_n 0, 1) := by decide +kernel
theorem dX6_readBulk_8 : decode cX6_readBulk 8 = .ok (.getfield 12, 3) := by decide +kernel
theorem dX6_readBulk_11 : decode cX6_readBulk 11 = .ok (.iconst 3, 1) := by decide +kernel
theorem dX6_readBulk_12 : decode cX6_readBulk 12 = .ok (.invokevirtual 98, 3) := by decide +kernel
theorem dX6_readBulk_15 : decode cX6_readBulk 15 = .ok (.aload_n 0, 1) := by decide +kernel
theorem dX6_readBulk_16 : decode cX6_readBulk 16 = .ok (.iconst 1, 1) := by decide +kernel
theorem dX6_readBulk_17 : decode cX6_readBulk 17 = .ok (.putfield 120, 3) := by decide +kernel
theorem dX6_readBulk_20 : decode cX6_readBulk 20 = .ok (.aload_n 1, 1) := by decide +kernel
theorem dX6_readBulk_21 : decode cX6_readBulk 21 = .ok (.aload_n 0, 1) := by decide +kernel
theorem dX6_readBulk_22 : decode cX6_readBulk 22 = .ok (.getfield 12, 3) := by decide +kernel
theorem dX6_readBulk_25 : decode cX6_readBulk 25 = .ok (.iconst 0, 1) := by decide +kernel
theorem dX6_readBulk_26 : decode cX6_readBulk 26 = .ok (.sipush 198, 3) := by decide +kernel
theorem dX6_readBulk_29 : decode cX6_readBulk 29 = .ok (.invokevirtual 146, 3) := by decide +kernel
theorem dX6_readBulk_32 : decode cX6_readBulk 32 = .ok (.putfield 238, 3) := by decide +kernel
theorem dX6_readBulk_35 : decode cX6_readBulk 35 = .ok (.return_, 1) := by decide +kernel
theorem dX7_firstBroken_0 : decode cX7_firstBroken 0 = .ok (.iconst 1, 1) := by decide +kernel
theorem dX7_firstBroken_1 : decode cX7_firstBroken 1 = .ok (.istore_n 2, 1) := by decide +kernel
theorem dX7_firstBroken_2 : decode cX7_firstBroken 2 = .ok (.iload_n 2, 1) := by decide +kernel
theorem dX7_firstBroken_3 : decode cX7_firstBroken 3 = .ok (.bipush 7, 2) := by decide +kernel
theorem dX7_firstBroken_5 : decode cX7_firstBroken 5 = .ok (.if_icmp .gt 21, 3) := by decide +kernel
theorem dX7_firstBroken_8 : decode cX7_firstBroken 8 = .ok (.iload_n 2, 1) := by decide +kernel
theorem dX7_firstBroken_9 : decode cX7_firstBroken 9 = .ok (.aload_n 0, 1) := by decide +kernel
theorem dX7_firstBroken_10 : decode cX7_firstBroken 10 = .ok (.aload_n 1, 1) := by decide +kernel
theorem dX7_firstBroken_11 : decode cX7_firstBroken 11 = .ok (.invokestatic 9, 3) := by decide +kernel
theorem dX7_firstBroken_14 : decode cX7_firstBroken 14 = .ok (.iconst (-1), 1) := by decide +kernel
theorem dX7_firstBroken_15 : decode cX7_firstBroken 15 = .ok (.if_icmp .eq 5, 3) := by decide +kernel
theorem dX7_firstBroken_18 : decode cX7_firstBroken 18 = .ok (.iload_n 2, 1) := by decide +kernel
theorem dX7_firstBroken_19 : decode cX7_firstBroken 19 = .ok (.ireturn, 1) := by decide +kernel
theorem dX7_firstBroken_20 : decode cX7_firstBroken 20 = .ok (.iinc 2 1, 3) := by decide +kernel
theorem dX7_firstBroken_23 : decode cX7_firstBroken 23 = .ok (.goto (-21), 3) := by decide +kernel
theorem dX7_firstBroken_26 : decode cX7_firstBroken 26 = .ok (.iconst 0, 1) := by decide +kernel
theorem dX7_firstBroken_27 : decode cX7_firstBroken 27 = .ok (.ireturn, 1) := by decide +kernel
theorem dX7_brokenAt_0 : decode cX7_brokenAt 0 = .ok (.iload_n 0, 1) := by decide +kernel
theorem dX7_brokenAt_1 : decode cX7_brokenAt 1 = .ok (.tableswitch 107 1 7 #[43, 48, 57, 66, 75, 92, 101], 43) := by decide +kernel
theorem dX7_brokenAt_44 : decode cX7_brokenAt 44 = .ok (.aload_n 2, 1) := by decide +kernel
theorem dX7_brokenAt_45 : decode cX7_brokenAt 45 = .ok (.invokestatic 15, 3) := by decide +kernel
theorem dX7_brokenAt_48 : decode cX7_brokenAt 48 = .ok (.ireturn, 1) := by decide +kernel
theorem dX7_brokenAt_49 : decode cX7_brokenAt 49 = .ok (.aload_n 1, 1) := by decide +kernel
theorem dX7_brokenAt_50 : decode cX7_brokenAt 50 = .ok (.getfield 19, 3) := by decide +kernel
theorem dX7_brokenAt_53 : decode cX7_brokenAt 53 = .ok (.aload_n 2, 1) := by decide +kernel
theorem dX7_brokenAt_54 : decode cX7_brokenAt 54 = .ok (.invokestatic 25, 3) := by decide +kernel
theorem dX7_brokenAt_57 : decode cX7_brokenAt 57 = .ok (.ireturn, 1) := by decide +kernel
theorem dX7_brokenAt_58 : decode cX7_brokenAt 58 = .ok (.aload_n 1, 1) := by decide +kernel
theorem dX7_brokenAt_59 : decode cX7_brokenAt 59 = .ok (.getfield 19, 3) := by decide +kernel
theorem dX7_brokenAt_62 : decode cX7_brokenAt 62 = .ok (.aload_n 2, 1) := by decide +kernel
theorem dX7_brokenAt_63 : decode cX7_brokenAt 63 = .ok (.invokestatic 29, 3) := by decide +kernel
theorem dX7_brokenAt_66 : decode cX7_brokenAt 66 = .ok (.ireturn, 1) := by decide +kernel
theorem dX7_brokenAt_67 : decode cX7_brokenAt 67 = .ok (.aload_n 1, 1) := by decide +kernel
theorem dX7_brokenAt_68 : decode cX7_brokenAt 68 = .ok (.getfield 19, 3) := by decide +kernel
theorem dX7_brokenAt_71 : decode cX7_brokenAt 71 = .ok (.aload_n 2, 1) := by decide +kernel
theorem dX7_brokenAt_72 : decode cX7_brokenAt 72 = .ok (.invokestatic 32, 3) := by decide +kernel
theorem dX7_brokenAt_75 : decode cX7_brokenAt 75 = .ok (.ireturn, 1) := by decide +kernel
theorem dX7_brokenAt_76 : decode cX7_brokenAt 76 = .ok (.aload_n 2, 1) := by decide +kernel
theorem dX7_brokenAt_77 : decode cX7_brokenAt 77 = .ok (.invokevirtual 35, 3) := by decide +kernel
theorem dX7_brokenAt_80 : decode cX7_brokenAt 80 = .ok (.aload_n 2, 1) := by decide +kernel
theorem dX7_brokenAt_81 : decode cX7_brokenAt 81 = .ok (.getfield 41, 3) := by decide +kernel
theorem dX7_brokenAt_84 : decode cX7_brokenAt 84 = .ok (.if_icmp .ne 7, 3) := by decide +kernel
theorem dX7_brokenAt_87 : decode cX7_brokenAt 87 = .ok (.iconst (-1), 1) := by decide +kernel
theorem dX7_brokenAt_88 : decode cX7_brokenAt 88 = .ok (.goto 4, 3) := by decide +kernel
theorem dX7_brokenAt_91 : decode cX7_brokenAt 91 = .ok (.iconst 0, 1) := by decide +kernel
theorem dX7_brokenAt_92 : decode cX7_brokenAt 92 = .ok (.ireturn, 1) := by decide +kernel
theorem dX7_brokenAt_93 : decode cX7_brokenAt 93 = .ok (.aload_n 1, 1) := by decide +kernel
theorem dX7_brokenAt_94 : decode cX7_brokenAt 94 = .ok (.getfield 19, 3) := by decide +kernel
theorem dX7_brokenAt_97 : decode cX7_brokenAt 97 = .ok (.aload_n 2, 1) := by decide +kernel
theorem dX7_brokenAt_98 : decode cX7_brokenAt 98 = .ok (.invokestatic 45, 3) := by decide +kernel
theorem dX7_brokenAt_101 : decode cX7_brokenAt 101 = .ok (.ireturn, 1) := by decide +kernel
theorem dX7_brokenAt_102 : decode cX7_brokenAt 102 = .ok (.aload_n 1, 1) := by decide +kernel
theorem dX7_brokenAt_103 : decode cX7_brokenAt 103 = .ok (.aload_n 2, 1) := by decide +kernel
theorem dX7_brokenAt_104 : decode cX7_brokenAt 104 = .ok (.invokestatic 48, 3) := by decide +kernel
theorem dX7_brokenAt_107 : decode cX7_brokenAt 107 = .ok (.ireturn, 1) := by decide +kernel
theorem dX7_brokenAt_108 : decode cX7_brokenAt 108 = .ok (.iconst (-1), 1) := by decide +kernel
theorem dX7_brokenAt_109 : decode cX7_brokenAt 109 = .ok (.ireturn, 1) := by decide +kernel
theorem dX7_outPallet_0 : decode cX7_outPallet 0 = .ok (.iconst 0, 1) := by decide +kernel
theorem dX7_outPallet_1 : decode cX7_outPallet 1 = .ok (.istore_n 1, 1) := by decide +kernel
theorem dX7_outPallet_2 : decode cX7_outPallet 2 = .ok (.iload_n 1, 1) := by decide +kernel
theorem dX7_outPallet_3 : decode cX7_outPallet 3 = .ok (.aload_n 0, 1) := by decide +kernel
theorem dX7_outPallet_4 : decode cX7_outPallet 4 = .ok (.getfield 52, 3) := by decide +kernel
theorem dX7_outPallet_7 : decode cX7_outPallet 7 = .ok (.if_icmp .ge 21, 3) := by decide +kernel
theorem dX7_outPallet_10 : decode cX7_outPallet 10 = .ok (.aload_n 0, 1) := by decide +kernel
theorem dX7_outPallet_11 : decode cX7_outPallet 11 = .ok (.getfield 55, 3) := by decide +kernel
theorem dX7_outPallet_14 : decode cX7_outPallet 14 = .ok (.iload_n 1, 1) := by decide +kernel
theorem dX7_outPallet_15 : decode cX7_outPallet 15 = .ok (.iaload, 1) := by decide +kernel
theorem dX7_outPallet_16 : decode cX7_outPallet 16 = .ok (.iconst (-1), 1) := by decide +kernel
theorem dX7_outPallet_17 : decode cX7_outPallet 17 = .ok (.if_icmp .ne 5, 3) := by decide +kernel
theorem dX7_outPallet_20 : decode cX7_outPallet 20 = .ok (.iload_n 1, 1) := by decide +kernel
theorem dX7_outPallet_21 : decode cX7_outPallet 21 = .ok (.ireturn, 1) := by decide +kernel
theorem dX7_outPallet_22 : decode cX7_outPallet 22 = .ok (.iinc 1 1, 3) := by decide +kernel
theorem dX7_outPallet_25 : decode cX7_outPallet 25 = .ok (.goto (-23), 3) := by decide +kernel
theorem dX7_outPallet_28 : decode cX7_outPallet 28 = .ok (.iconst (-1), 1) := by decide +kernel
theorem dX7_outPallet_29 : decode cX7_outPallet 29 = .ok (.ireturn, 1) := by decide +kernel
theorem dX7_heavySpot_0 : decode cX7_heavySpot 0 = .ok (.iconst 0, 1) := by decide +kernel
theorem dX7_heavySpot_1 : decode cX7_heavySpot 1 = .ok (.istore_n 2, 1) := by decide +kernel
theorem dX7_heavySpot_2 : decode cX7_heavySpot 2 = .ok (.iload_n 2, 1) := by decide +kernel
theorem dX7_heavySpot_3 : decode cX7_heavySpot 3 = .ok (.aload_n 0, 1) := by decide +kernel
theorem dX7_heavySpot_4 : decode cX7_heavySpot 4 = .ok (.getfield 59, 3) := by decide +kernel
theorem dX7_heavySpot_7 : decode cX7_heavySpot 7 = .ok (.if_icmp .ge 25, 3) := by decide +kernel
theorem dX7_heavySpot_10 : decode cX7_heavySpot 10 = .ok (.aload_n 1, 1) := by decide +kernel
theorem dX7_heavySpot_11 : decode cX7_heavySpot 11 = .ok (.iload_n 2, 1) := by decide +kernel
theorem dX7_heavySpot_12 : decode cX7_heavySpot 12 = .ok (.invokevirtual 64, 3) := by decide +kernel
theorem dX7_heavySpot_15 : decode cX7_heavySpot 15 = .ok (.aload_n 0, 1) := by decide +kernel
theorem dX7_heavySpot_16 : decode cX7_heavySpot 16 = .ok (.getfield 68, 3) := by decide +kernel
theorem dX7_heavySpot_19 : decode cX7_heavySpot 19 = .ok (.iload_n 2, 1) := by decide +kernel
theorem dX7_heavySpot_20 : decode cX7_heavySpot 20 = .ok (.iaload, 1) := by decide +kernel
theorem dX7_heavySpot_21 : decode cX7_heavySpot 21 = .ok (.if_icmp .le 5, 3) := by decide +kernel
theorem dX7_heavySpot_24 : decode cX7_heavySpot 24 = .ok (.iload_n 2, 1) := by decide +kernel
theorem dX7_heavySpot_25 : decode cX7_heavySpot 25 = .ok (.ireturn, 1) := by decide +kernel
theorem dX7_heavySpot_26 : decode cX7_heavySpot 26 = .ok (.iinc 2 1, 3) := by decide +kernel
theorem dX7_heavySpot_29 : decode cX7_heavySpot 29 = .ok (.goto (-27), 3) := by decide +kernel
theorem dX7_heavySpot_32 : decode cX7_heavySpot 32 = .ok (.iconst (-1), 1) := by decide +kernel
theorem dX7_heavySpot_33 : decode cX7_heavySpot 33 = .ok (.ireturn, 1) := by decide +kernel
theorem dX7_heavyJoint_0 : decode cX7_heavyJoint 0 = .ok (.iconst 0, 1) := by decide +kernel
theorem dX7_heavyJoint_1 : decode cX7_heavyJoint 1 = .ok (.istore_n 2, 1) := by decide +kernel
theorem dX7_heavyJoint_2 : decode cX7_heavyJoint 2 = .ok (.iload_n 2, 1) := by decide +kernel
theorem dX7_heavyJoint_3 : decode cX7_heavyJoint 3 = .ok (.aload_n 0, 1) := by decide +kernel
theorem dX7_heavyJoint_4 : decode cX7_heavyJoint 4 = .ok (.getfield 71, 3) := by decide +kernel
theorem dX7_heavyJoint_7 : decode cX7_heavyJoint 7 = .ok (.if_icmp .ge 40, 3) := by decide +kernel
theorem dX7_heavyJoint_10 : decode cX7_heavyJoint 10 = .ok (.aload_n 0, 1) := by decide +kernel
theorem dX7_heavyJoint_11 : decode cX7_heavyJoint 11 = .ok (.getfield 74, 3) := by decide +kernel
theorem dX7_heavyJoint_14 : decode cX7_heavyJoint 14 = .ok (.iload_n 2, 1) := by decide +kernel
theorem dX7_heavyJoint_15 : decode cX7_heavyJoint 15 = .ok (.iaload, 1) := by decide +kernel
theorem dX7_heavyJoint_16 : decode cX7_heavyJoint 16 = .ok (.istore_n 3, 1) := by decide +kernel
theorem dX7_heavyJoint_17 : decode cX7_heavyJoint 17 = .ok (.aload_n 1, 1) := by decide +kernel
theorem dX7_heavyJoint_18 : decode cX7_heavyJoint 18 = .ok (.iload_n 3, 1) := by decide +kernel
theorem dX7_heavyJoint_19 : decode cX7_heavyJoint 19 = .ok (.invokevirtual 64, 3) := by decide +kernel
theorem dX7_heavyJoint_22 : decode cX7_heavyJoint 22 = .ok (.aload_n 1, 1) := by decide +kernel
theorem dX7_heavyJoint_23 : decode cX7_heavyJoint 23 = .ok (.iload_n 3, 1) := by decide +kernel
theorem dX7_heavyJoint_24 : decode cX7_heavyJoint 24 = .ok (.iconst 1, 1) := by decide +kernel
theorem dX7_heavyJoint_25 : decode cX7_heavyJoint 25 = .ok (.isub, 1) := by decide +kernel
theorem dX7_heavyJoint_26 : decode cX7_heavyJoint 26 = .ok (.invokevirtual 64, 3) := by decide +kernel
theorem dX7_heavyJoint_29 : decode cX7_heavyJoint 29 = .ok (.iadd, 1) := by decide +kernel
theorem dX7_heavyJoint_30 : decode cX7_heavyJoint 30 = .ok (.aload_n 0, 1) := by decide +kernel
theorem dX7_heavyJoint_31 : decode cX7_heavyJoint 31 = .ok (.getfield 77, 3) := by decide +kernel
theorem dX7_heavyJoint_34 : decode cX7_heavyJoint 34 = .ok (.iload_n 2, 1) := by decide +kernel
theorem dX7_heavyJoint_35 : decode cX7_heavyJoint 35 = .ok (.iaload, 1) := by decide +kernel
theorem dX7_heavyJoint_36 : decode cX7_heavyJoint 36 = .ok (.if_icmp .le 5, 3) := by decide +kernel
theorem dX7_heavyJoint_39 : decode cX7_heavyJoint 39 = .ok (.iload_n 2, 1) := by decide +kernel
theorem dX7_heavyJoint_40 : decode cX7_heavyJoint 40 = .ok (.ireturn, 1) := by decide +kernel
theorem dX7_heavyJoint_41 : decode cX7_heavyJoint 41 = .ok (.iinc 2 1, 3) := by decide +kernel
theorem dX7_heavyJoint_44 : decode cX7_heavyJoint 44 = .ok (.goto (-42), 3) := by decide +kernel
theorem dX7_heavyJoint_47 : decode cX7_heavyJoint 47 = .ok (.iconst (-1), 1) := by decide +kernel
theorem dX7_heavyJoint_48 : decode cX7_heavyJoint 48 = .ok (.ireturn, 1) := by decide +kernel
theorem dX7_heavyHold_0 : decode cX7_heavyHold 0 = .ok (.iconst 0, 1) := by decide +kernel
theorem dX7_heavyHold_1 : decode cX7_heavyHold 1 = .ok (.istore_n 2, 1) := by decide +kernel
theorem dX7_heavyHold_2 : decode cX7_heavyHold 2 = .ok (.iload_n 2, 1) := by decide +kernel
theorem dX7_heavyHold_3 : decode cX7_heavyHold 3 = .ok (.aload_n 0, 1) := by decide +kernel
theorem dX7_heavyHold_4 : decode cX7_heavyHold 4 = .ok (.getfield 80, 3) := by decide +kernel
theorem dX7_heavyHold_7 : decode cX7_heavyHold 7 = .ok (.if_icmp .ge 26, 3) := by decide +kernel
theorem dX7_heavyHold_10 : decode cX7_heavyHold 10 = .ok (.aload_n 0, 1) := by decide +kernel
theorem dX7_heavyHold_11 : decode cX7_heavyHold 11 = .ok (.aload_n 1, 1) := by decide +kernel
theorem dX7_heavyHold_12 : decode cX7_heavyHold 12 = .ok (.iload_n 2, 1) := by decide +kernel
theorem dX7_heavyHold_13 : decode cX7_heavyHold 13 = .ok (.invokestatic 83, 3) := by decide +kernel
theorem dX7_heavyHold_16 : decode cX7_heavyHold 16 = .ok (.aload_n 0, 1) := by decide +kernel
theorem dX7_heavyHold_17 : decode cX7_heavyHold 17 = .ok (.getfield 87, 3) := by decide +kernel
theorem dX7_heavyHold_20 : decode cX7_heavyHold 20 = .ok (.iload_n 2, 1) := by decide +kernel
theorem dX7_heavyHold_21 : decode cX7_heavyHold 21 = .ok (.iaload, 1) := by decide +kernel
theorem dX7_heavyHold_22 : decode cX7_heavyHold 22 = .ok (.if_icmp .le 5, 3) := by decide +kernel
theorem dX7_heavyHold_25 : decode cX7_heavyHold 25 = .ok (.iload_n 2, 1) := by decide +kernel
theorem dX7_heavyHold_26 : decode cX7_heavyHold 26 = .ok (.ireturn, 1) := by decide +kernel
theorem dX7_heavyHold_27 : decode cX7_heavyHold 27 = .ok (.iinc 2 1, 3) := by decide +kernel
theorem dX7_heavyHold_30 : decode cX7_heavyHold 30 = .ok (.goto (-28), 3) := by decide +kernel
theorem dX7_heavyHold_33 : decode cX7_heavyHold 33 = .ok (.iconst (-1), 1) := by decide +kernel
theorem dX7_heavyHold_34 : decode cX7_heavyHold 34 = .ok (.ireturn, 1) := by decide +kernel
theorem dX7_loadOfHold_0 : decode cX7_loadOfHold 0 = .ok (.iconst 0, 1) := by decide +kernel
theorem dX7_loadOfHold_1 : decode cX7_loadOfHold 1 = .ok (.istore_n 3, 1) := by decide +kernel
theorem dX7_loadOfHold_2 : decode cX7_loadOfHold 2 = .ok (.iconst 0, 1) := by decide +kernel
theorem dX7_loadOfHold_3 : decode cX7_loadOfHold 3 = .ok (.istore 4, 2) := by decide +kernel
theorem dX7_loadOfHold_5 : decode cX7_loadOfHold 5 = .ok (.iload 4, 2) := by decide +kernel
theorem dX7_loadOfHold_7 : decode cX7_loadOfHold 7 = .ok (.aload_n 1, 1) := by decide +kernel
theorem dX7_loadOfHold_8 : decode cX7_loadOfHold 8 = .ok (.getfield 52, 3) := by decide +kernel
theorem dX7_loadOfHold_11 : decode cX7_loadOfHold 11 = .ok (.if_icmp .ge 48, 3) := by decide +kernel
theorem dX7_loadOfHold_14 : decode cX7_loadOfHold 14 = .ok (.aload_n 1, 1) := by decide +kernel
theorem dX7_loadOfHold_15 : decode cX7_loadOfHold 15 = .ok (.getfield 55, 3) := by decide +kernel
theorem dX7_loadOfHold_18 : decode cX7_loadOfHold 18 = .ok (.iload 4, 2) := by decide +kernel
theorem dX7_loadOfHold_20 : decode cX7_loadOfHold 20 = .ok (.iaload, 1) := by decide +kernel
theorem dX7_loadOfHold_21 : decode cX7_loadOfHold 21 = .ok (.istore 5, 2) := by decide +kernel
theorem dX7_loadOfHold_23 : decode cX7_loadOfHold 23 = .ok (.aload_n 0, 1) := by decide +kernel
theorem dX7_loadOfHold_24 : decode cX7_loadOfHold 24 = .ok (.iload 5, 2) := by decide +kernel
theorem dX7_loadOfHold_26 : decode cX7_loadOfHold 26 = .ok (.invokevirtual 90, 3) := by decide +kernel
theorem dX7_loadOfHold_29 : decode cX7_loadOfHold 29 = .ok (.ifCond .eq 24, 3) := by decide +kernel
theorem dX7_loadOfHold_32 : decode cX7_loadOfHold 32 = .ok (.aload_n 0, 1) := by decide +kernel
theorem dX7_loadOfHold_33 : decode cX7_loadOfHold 33 = .ok (.getfield 94, 3) := by decide +kernel
theorem dX7_loadOfHold_36 : decode cX7_loadOfHold 36 = .ok (.iload 5, 2) := by decide +kernel
theorem dX7_loadOfHold_38 : decode cX7_loadOfHold 38 = .ok (.iaload, 1) := by decide +kernel
theorem dX7_loadOfHold_39 : decode cX7_loadOfHold 39 = .ok (.iload_n 2, 1) := by decide +kernel
theorem dX7_loadOfHold_40 : decode cX7_loadOfHold 40 = .ok (.if_icmp .ne 13, 3) := by decide +kernel
theorem dX7_loadOfHold_43 : decode cX7_loadOfHold 43 = .ok (.iload_n 3, 1) := by decide +kernel
theorem dX7_loadOfHold_44 : decode cX7_loadOfHold 44 = .ok (.aload_n 1, 1) := by decide +kernel
theorem dX7_loadOfHold_45 : decode cX7_loadOfHold 45 = .ok (.getfield 97, 3) := by decide +kernel
theorem dX7_loadOfHold_48 : decode cX7_loadOfHold 48 = .ok (.iload 4, 2) := by decide +kernel
theorem dX7_loadOfHold_50 : decode cX7_loadOfHold 50 = .ok (.iaload, 1) := by decide +kernel
theorem dX7_loadOfHold_51 : decode cX7_loadOfHold 51 = .ok (.iadd, 1) := by decide +kernel
theorem dX7_loadOfHold_52 : decode cX7_loadOfHold 52 = .ok (.istore_n 3, 1) := by decide +kernel
theorem dX7_loadOfHold_53 : decode cX7_loadOfHold 53 = .ok (.iinc 4 1, 3) := by decide +kernel
theorem dX7_loadOfHold_56 : decode cX7_loadOfHold 56 = .ok (.goto (-51), 3) := by decide +kernel
theorem dX7_loadOfHold_59 : decode cX7_loadOfHold 59 = .ok (.iload_n 3, 1) := by decide +kernel
theorem dX7_loadOfHold_60 : decode cX7_loadOfHold 60 = .ok (.ireturn, 1) := by decide +kernel
theorem dX7_blockedSpot_0 : decode cX7_blockedSpot 0 = .ok (.iconst 0, 1) := by decide +kernel
theorem dX7_blockedSpot_1 : decode cX7_blockedSpot 1 = .ok (.istore_n 2, 1) := by decide +kernel
theorem dX7_blockedSpot_2 : decode cX7_blockedSpot 2 = .ok (.iload_n 2, 1) := by decide +kernel
theorem dX7_blockedSpot_3 : decode cX7_blockedSpot 3 = .ok (.aload_n 0, 1) := by decide +kernel
theorem dX7_blockedSpot_4 : decode cX7_blockedSpot 4 = .ok (.getfield 59, 3) := by decide +kernel
theorem dX7_blockedSpot_7 : decode cX7_blockedSpot 7 = .ok (.if_icmp .ge 31, 3) := by decide +kernel
theorem dX7_blockedSpot_10 : decode cX7_blockedSpot 10 = .ok (.aload_n 1, 1) := by decide +kernel
theorem dX7_blockedSpot_11 : decode cX7_blockedSpot 11 = .ok (.iload_n 2, 1) := by decide +kernel
theorem dX7_blockedSpot_12 : decode cX7_blockedSpot 12 = .ok (.invokevirtual 100, 3) := by decide +kernel
theorem dX7_blockedSpot_15 : decode cX7_blockedSpot 15 = .ok (.istore_n 3, 1) := by decide +kernel
theorem dX7_blockedSpot_16 : decode cX7_blockedSpot 16 = .ok (.iload_n 3, 1) := by decide +kernel
theorem dX7_blockedSpot_17 : decode cX7_blockedSpot 17 = .ok (.iconst (-1), 1) := by decide +kernel
theorem dX7_blockedSpot_18 : decode cX7_blockedSpot 18 = .ok (.if_icmp .eq 14, 3) := by decide +kernel
theorem dX7_blockedSpot_21 : decode cX7_blockedSpot 21 = .ok (.aload_n 0, 1) := by decide +kernel
theorem dX7_blockedSpot_22 : decode cX7_blockedSpot 22 = .ok (.aload_n 1, 1) := by decide +kernel
theorem dX7_blockedSpot_23 : decode cX7_blockedSpot 23 = .ok (.iload_n 3, 1) := by decide +kernel
theorem dX7_blockedSpot_24 : decode cX7_blockedSpot 24 = .ok (.invokestatic 103, 3) := by decide +kernel
theorem dX7_blockedSpot_27 : decode cX7_blockedSpot 27 = .ok (.ifCond .eq 5, 3) := by decide +kernel
theorem dX7_blockedSpot_30 : decode cX7_blockedSpot 30 = .ok (.iload_n 2, 1) := by decide +kernel
theorem dX7_blockedSpot_31 : decode cX7_blockedSpot 31 = .ok (.ireturn, 1) := by decide +kernel
theorem dX7_blockedSpot_32 : decode cX7_blockedSpot 32 = .ok (.iinc 2 1, 3) := by decide +kernel
theorem dX7_blockedSpot_35 : decode cX7_blockedSpot 35 = .ok (.goto (-33), 3) := by decide +kernel
theorem dX7_blockedSpot_38 : decode cX7_blockedSpot 38 = .ok (.iconst (-1), 1) := by decide +kernel
theorem dX7_blockedSpot_39 : decode cX7_blockedSpot 39 = .ok (.ireturn, 1) := by decide +kernel
theorem dX7_blockersOf_0 : decode cX7_blockersOf 0 = .ok (.iconst 0, 1) := by decide +kernel
theorem dX7_blockersOf_1 : decode cX7_blockersOf 1 = .ok (.istore_n 3, 1) := by decide +kernel
theorem dX7_blockersOf_2 : decode cX7_blockersOf 2 = .ok (.iconst 0, 1) := by decide +kernel
theorem dX7_blockersOf_3 : decode cX7_blockersOf 3 = .ok (.istore 4, 2) := by decide +kernel
theorem dX7_blockersOf_5 : decode cX7_blockersOf 5 = .ok (.iload 4, 2) := by decide +kernel
theorem dX7_blockersOf_7 : decode cX7_blockersOf 7 = .ok (.aload_n 1, 1) := by decide +kernel
theorem dX7_blockersOf_8 : decode cX7_blockersOf 8 = .ok (.getfield 52, 3) := by decide +kernel
theorem dX7_blockersOf_11 : decode cX7_blockersOf 11 = .ok (.if_icmp .ge 72, 3) := by decide +kernel
theorem dX7_blockersOf_14 : decode cX7_blockersOf 14 = .ok (.aload_n 1, 1) := by decide +kernel
theorem dX7_blockersOf_15 : decode cX7_blockersOf 15 = .ok (.iload_n 2, 1) := by decide +kernel
theorem dX7_blockersOf_16 : decode cX7_blockersOf 16 = .ok (.invokevirtual 106, 3) := by decide +kernel
theorem dX7_blockersOf_19 : decode cX7_blockersOf 19 = .ok (.ifCond .eq 64, 3) := by decide +kernel
theorem dX7_blockersOf_22 : decode cX7_blockersOf 22 = .ok (.aload_n 1, 1) := by decide +kernel
theorem dX7_blockersOf_23 : decode cX7_blockersOf 23 = .ok (.getfield 109, 3) := by decide +kernel
theorem dX7_blockersOf_26 : decode cX7_blockersOf 26 = .ok (.iload 4, 2) := by decide +kernel
theorem dX7_blockersOf_28 : decode cX7_blockersOf 28 = .ok (.iaload, 1) := by decide +kernel
theorem dX7_blockersOf_29 : decode cX7_blockersOf 29 = .ok (.aload_n 1, 1) := by decide +kernel
theorem dX7_blockersOf_30 : decode cX7_blockersOf 30 = .ok (.getfield 109, 3) := by decide +kernel
theorem dX7_blockersOf_33 : decode cX7_blockersOf 33 = .ok (.iload_n 2, 1) := by decide +kernel
theorem dX7_blockersOf_34 : decode cX7_blockersOf 34 = .ok (.iaload, 1) := by decide +kernel
theorem dX7_blockersOf_35 : decode cX7_blockersOf 35 = .ok (.if_icmp .le 7, 3) := by decide +kernel
theorem dX7_blockersOf_38 : decode cX7_blockersOf 38 = .ok (.iconst 1, 1) := by decide +kernel
theorem dX7_blockersOf_39 : decode cX7_blockersOf 39 = .ok (.goto 4, 3) := by decide +kernel
theorem dX7_blockersOf_42 : decode cX7_blockersOf 42 = .ok (.iconst 0, 1) := by decide +kernel
theorem dX7_blockersOf_43 : decode cX7_blockersOf 43 = .ok (.istore 5, 2) := by decide +kernel
theorem dX7_blockersOf_45 : decode cX7_blockersOf 45 = .ok (.iload 5, 2) := by decide +kernel
theorem dX7_blockersOf_47 : decode cX7_blockersOf 47 = .ok (.ifCond .eq 30, 3) := by decide +kernel
theorem dX7_blockersOf_50 : decode cX7_blockersOf 50 = .ok (.aload_n 0, 1) := by decide +kernel
theorem dX7_blockersOf_51 : decode cX7_blockersOf 51 = .ok (.aload_n 1, 1) := by decide +kernel
theorem dX7_blockersOf_52 : decode cX7_blockersOf 52 = .ok (.getfield 55, 3) := by decide +kernel
theorem dX7_blockersOf_55 : decode cX7_blockersOf 55 = .ok (.iload 4, 2) := by decide +kernel
theorem dX7_blockersOf_57 : decode cX7_blockersOf 57 = .ok (.iaload, 1) := by decide +kernel
theorem dX7_blockersOf_58 : decode cX7_blockersOf 58 = .ok (.aload_n 1, 1) := by decide +kernel
theorem dX7_blockersOf_59 : decode cX7_blockersOf 59 = .ok (.getfield 55, 3) := by decide +kernel
theorem dX7_blockersOf_62 : decode cX7_blockersOf 62 = .ok (.iload_n 2, 1) := by decide +kernel
theorem dX7_blockersOf_63 : decode cX7_blockersOf 63 = .ok (.iaload, 1) := by decide +kernel
theorem dX7_blockersOf_64 : decode cX7_blockersOf 64 = .ok (.invokevirtual 112, 3) := by decide +kernel
theorem dX7_blockersOf_67 : decode cX7_blockersOf 67 = .ok (.ifCond .eq 10, 3) := by decide +kernel
theorem dX7_blockersOf_70 : decode cX7_blockersOf 70 = .ok (.iload_n 3, 1) := by decide +kernel
theorem dX7_blockersOf_71 : decode cX7_blockersOf 71 = .ok (.iconst 1, 1) := by decide +kernel
theorem dX7_blockersOf_72 : decode cX7_blockersOf 72 = .ok (.iload 4, 2) := by decide +kernel
theorem dX7_blockersOf_74 : decode cX7_blockersOf 74 = .ok (.ishl, 1) := by decide +kernel
theorem dX7_blockersOf_75 : decode cX7_blockersOf 75 = .ok (.ior, 1) := by decide +kernel
theorem dX7_blockersOf_76 : decode cX7_blockersOf 76 = .ok (.istore_n 3, 1) := by decide +kernel
theorem dX7_blockersOf_77 : decode cX7_blockersOf 77 = .ok (.iinc 4 1, 3) := by decide +kernel
theorem dX7_blockersOf_80 : decode cX7_blockersOf 80 = .ok (.goto (-75), 3) := by decide +kernel
theorem dX7_blockersOf_83 : decode cX7_blockersOf 83 = .ok (.iload_n 3, 1) := by decide +kernel
theorem dX7_blockersOf_84 : decode cX7_blockersOf 84 = .ok (.ireturn, 1) := by decide +kernel
theorem dX7_stageOutOfSpan_0 : decode cX7_stageOutOfSpan 0 = .ok (.iconst 0, 1) := by decide +kernel
theorem dX7_stageOutOfSpan_1 : decode cX7_stageOutOfSpan 1 = .ok (.istore_n 2, 1) := by decide +kernel
theorem dX7_stageOutOfSpan_2 : decode cX7_stageOutOfSpan 2 = .ok (.iload_n 2, 1) := by decide +kernel
theorem dX7_stageOutOfSpan_3 : decode cX7_stageOutOfSpan 3 = .ok (.aload_n 0, 1) := by decide +kernel
theorem dX7_stageOutOfSpan_4 : decode cX7_stageOutOfSpan 4 = .ok (.getfield 116, 3) := by decide +kernel
theorem dX7_stageOutOfSpan_7 : decode cX7_stageOutOfSpan 7 = .ok (.getfield 120, 3) := by decide +kernel
theorem dX7_stageOutOfSpan_10 : decode cX7_stageOutOfSpan 10 = .ok (.if_icmp .gt 48, 3) := by decide +kernel
theorem dX7_stageOutOfSpan_13 : decode cX7_stageOutOfSpan 13 = .ok (.aload_n 0, 1) := by decide +kernel
theorem dX7_stageOutOfSpan_14 : decode cX7_stageOutOfSpan 14 = .ok (.aload_n 1, 1) := by decide +kernel
theorem dX7_stageOutOfSpan_15 : decode cX7_stageOutOfSpan 15 = .ok (.iload_n 2, 1) := by decide +kernel
theorem dX7_stageOutOfSpan_16 : decode cX7_stageOutOfSpan 16 = .ok (.invokestatic 125, 3) := by decide +kernel
theorem dX7_stageOutOfSpan_19 : decode cX7_stageOutOfSpan 19 = .ok (.istore_n 3, 1) := by decide +kernel
theorem dX7_stageOutOfSpan_20 : decode cX7_stageOutOfSpan 20 = .ok (.aload_n 0, 1) := by decide +kernel
theorem dX7_stageOutOfSpan_21 : decode cX7_stageOutOfSpan 21 = .ok (.aload_n 1, 1) := by decide +kernel
theorem dX7_stageOutOfSpan_22 : decode cX7_stageOutOfSpan 22 = .ok (.iload_n 2, 1) := by decide +kernel
theorem dX7_stageOutOfSpan_23 : decode cX7_stageOutOfSpan 23 = .ok (.invokestatic 129, 3) := by decide +kernel
theorem dX7_stageOutOfSpan_26 : decode cX7_stageOutOfSpan 26 = .ok (.istore 4, 2) := by decide +kernel
theorem dX7_stageOutOfSpan_28 : decode cX7_stageOutOfSpan 28 = .ok (.iload 4, 2) := by decide +kernel
theorem dX7_stageOutOfSpan_30 : decode cX7_stageOutOfSpan 30 = .ok (.iload_n 3, 1) := by decide +kernel
theorem dX7_stageOutOfSpan_31 : decode cX7_stageOutOfSpan 31 = .ok (.aload_n 0, 1) := by decide +kernel
theorem dX7_stageOutOfSpan_32 : decode cX7_stageOutOfSpan 32 = .ok (.getfield 132, 3) := by decide +kernel
theorem dX7_stageOutOfSpan_35 : decode cX7_stageOutOfSpan 35 = .ok (.imul, 1) := by decide +kernel
theorem dX7_stageOutOfSpan_36 : decode cX7_stageOutOfSpan 36 = .ok (.if_icmp .lt 14, 3) := by decide +kernel
theorem dX7_stageOutOfSpan_39 : decode cX7_stageOutOfSpan 39 = .ok (.iload 4, 2) := by decide +kernel
theorem dX7_stageOutOfSpan_41 : decode cX7_stageOutOfSpan 41 = .ok (.iload_n 3, 1) := by decide +kernel
theorem dX7_stageOutOfSpan_42 : decode cX7_stageOutOfSpan 42 = .ok (.aload_n 0, 1) := by decide +kernel
theorem dX7_stageOutOfSpan_43 : decode cX7_stageOutOfSpan 43 = .ok (.getfield 135, 3) := by decide +kernel
theorem dX7_stageOutOfSpan_46 : decode cX7_stageOutOfSpan 46 = .ok (.imul, 1) := by decide +kernel
theorem dX7_stageOutOfSpan_47 : decode cX7_stageOutOfSpan 47 = .ok (.if_icmp .le 5, 3) := by decide +kernel
theorem dX7_stageOutOfSpan_50 : decode cX7_stageOutOfSpan 50 = .ok (.iload_n 2, 1) := by decide +kernel
theorem dX7_stageOutOfSpan_51 : decode cX7_stageOutOfSpan 51 = .ok (.ireturn, 1) := by decide +kernel
theorem dX7_stageOutOfSpan_52 : decode cX7_stageOutOfSpan 52 = .ok (.iinc 2 1, 3) := by decide +kernel
theorem dX7_stageOutOfSpan_55 : decode cX7_stageOutOfSpan 55 = .ok (.goto (-53), 3) := by decide +kernel
theorem dX7_stageOutOfSpan_58 : decode cX7_stageOutOfSpan 58 = .ok (.iconst (-1), 1) := by decide +kernel
theorem dX7_stageOutOfSpan_59 : decode cX7_stageOutOfSpan 59 = .ok (.ireturn, 1) := by decide +kernel
theorem dX7_weightAt_0 : decode cX7_weightAt 0 = .ok (.aload_n 0, 1) := by decide +kernel
theorem dX7_weightAt_1 : decode cX7_weightAt 1 = .ok (.getfield 116, 3) := by decide +kernel
theorem dX7_weightAt_4 : decode cX7_weightAt 4 = .ok (.getfield 138, 3) := by decide +kernel
theorem dX7_weightAt_7 : decode cX7_weightAt 7 = .ok (.iload_n 2, 1) := by decide +kernel
theorem dX7_weightAt_8 : decode cX7_weightAt 8 = .ok (.iaload, 1) := by decide +kernel
theorem dX7_weightAt_9 : decode cX7_weightAt 9 = .ok (.aload_n 1, 1) := by decide +kernel
theorem dX7_weightAt_10 : decode cX7_weightAt 10 = .ok (.invokevirtual 35, 3) := by decide +kernel
theorem dX7_weightAt_13 : decode cX7_weightAt 13 = .ok (.iadd, 1) := by decide +kernel
theorem dX7_weightAt_14 : decode cX7_weightAt 14 = .ok (.istore_n 3, 1) := by decide +kernel
theorem dX7_weightAt_15 : decode cX7_weightAt 15 = .ok (.iconst 0, 1) := by decide +kernel
theorem dX7_weightAt_16 : decode cX7_weightAt 16 = .ok (.istore 4, 2) := by decide +kernel
theorem dX7_weightAt_18 : decode cX7_weightAt 18 = .ok (.iload 4, 2) := by decide +kernel
theorem dX7_weightAt_20 : decode cX7_weightAt 20 = .ok (.aload_n 1, 1) := by decide +kernel
theorem dX7_weightAt_21 : decode cX7_weightAt 21 = .ok (.getfield 52, 3) := by decide +kernel
theorem dX7_weightAt_24 : decode cX7_weightAt 24 = .ok (.if_icmp .ge 49, 3) := by decide +kernel
theorem dX7_weightAt_27 : decode cX7_weightAt 27 = .ok (.aload_n 1, 1) := by decide +kernel
theorem dX7_weightAt_28 : decode cX7_weightAt 28 = .ok (.getfield 55, 3) := by decide +kernel
theorem dX7_weightAt_31 : decode cX7_weightAt 31 = .ok (.iload 4, 2) := by decide +kernel
theorem dX7_weightAt_33 : decode cX7_weightAt 33 = .ok (.iaload, 1) := by decide +kernel
theorem dX7_weightAt_34 : decode cX7_weightAt 34 = .ok (.iconst (-1), 1) := by decide +kernel
theorem dX7_weightAt_35 : decode cX7_weightAt 35 = .ok (.if_icmp .eq 32, 3) := by decide +kernel
theorem dX7_weightAt_38 : decode cX7_weightAt 38 = .ok (.aload_n 1, 1) := by decide +kernel
theorem dX7_weightAt_39 : decode cX7_weightAt 39 = .ok (.getfield 109, 3) := by decide +kernel
theorem dX7_weightAt_42 : decode cX7_weightAt 42 = .ok (.iload 4, 2) := by decide +kernel
theorem dX7_weightAt_44 : decode cX7_weightAt 44 = .ok (.iaload, 1) := by decide +kernel
theorem dX7_weightAt_45 : decode cX7_weightAt 45 = .ok (.aload_n 0, 1) := by decide +kernel
theorem dX7_weightAt_46 : decode cX7_weightAt 46 = .ok (.getfield 116, 3) := by decide +kernel
theorem dX7_weightAt_49 : decode cX7_weightAt 49 = .ok (.getfield 140, 3) := by decide +kernel
theorem dX7_weightAt_52 : decode cX7_weightAt 52 = .ok (.iload_n 2, 1) := by decide +kernel
theorem dX7_weightAt_53 : decode cX7_weightAt 53 = .ok (.iaload, 1) := by decide +kernel
theorem dX7_weightAt_54 : decode cX7_weightAt 54 = .ok (.if_icmp .le 13, 3) := by decide +kernel
theorem dX7_weightAt_57 : decode cX7_weightAt 57 = .ok (.iload_n 3, 1) := by decide +kernel
theorem dX7_weightAt_58 : decode cX7_weightAt 58 = .ok (.aload_n 1, 1) := by decide +kernel
theorem dX7_weightAt_59 : decode cX7_weightAt 59 = .ok (.getfield 97, 3) := by decide +kernel
theorem dX7_weightAt_62 : decode cX7_weightAt 62 = .ok (.iload 4, 2) := by decide +kernel
theorem dX7_weightAt_64 : decode cX7_weightAt 64 = .ok (.iaload, 1) := by decide +kernel
theorem dX7_weightAt_65 : decode cX7_weightAt 65 = .ok (.iadd, 1) := by decide +kernel
theorem dX7_weightAt_66 : decode cX7_weightAt 66 = .ok (.istore_n 3, 1) := by decide +kernel
theorem dX7_weightAt_67 : decode cX7_weightAt 67 = .ok (.iinc 4 1, 3) := by decide +kernel
theorem dX7_weightAt_70 : decode cX7_weightAt 70 = .ok (.goto (-52), 3) := by decide +kernel
theorem dX7_weightAt_73 : decode cX7_weightAt 73 = .ok (.iload_n 3, 1) := by decide +kernel
theorem dX7_weightAt_74 : decode cX7_weightAt 74 = .ok (.ireturn, 1) := by decide +kernel
theorem dX7_momentAt_0 : decode cX7_momentAt 0 = .ok (.aload_n 0, 1) := by decide +kernel
theorem dX7_momentAt_1 : decode cX7_momentAt 1 = .ok (.getfield 116, 3) := by decide +kernel
theorem dX7_momentAt_4 : decode cX7_momentAt 4 = .ok (.getfield 143, 3) := by decide +kernel
theorem dX7_momentAt_7 : decode cX7_momentAt 7 = .ok (.iload_n 2, 1) := by decide +kernel
theorem dX7_momentAt_8 : decode cX7_momentAt 8 = .ok (.iaload, 1) := by decide +kernel
theorem dX7_momentAt_9 : decode cX7_momentAt 9 = .ok (.istore_n 3, 1) := by decide +kernel
theorem dX7_momentAt_10 : decode cX7_momentAt 10 = .ok (.iconst 0, 1) := by decide +kernel
theorem dX7_momentAt_11 : decode cX7_momentAt 11 = .ok (.istore 4, 2) := by decide +kernel
theorem dX7_momentAt_13 : decode cX7_momentAt 13 = .ok (.iload 4, 2) := by decide +kernel
theorem dX7_momentAt_15 : decode cX7_momentAt 15 = .ok (.aload_n 0, 1) := by decide +kernel
theorem dX7_momentAt_16 : decode cX7_momentAt 16 = .ok (.getfield 145, 3) := by decide +kernel
theorem dX7_momentAt_19 : decode cX7_momentAt 19 = .ok (.if_icmp .ge 27, 3) := by decide +kernel
theorem dX7_momentAt_22 : decode cX7_momentAt 22 = .ok (.iload_n 3, 1) := by decide +kernel
theorem dX7_momentAt_23 : decode cX7_momentAt 23 = .ok (.aload_n 1, 1) := by decide +kernel
theorem dX7_momentAt_24 : decode cX7_momentAt 24 = .ok (.getfield 148, 3) := by decide +kernel
theorem dX7_momentAt_27 : decode cX7_momentAt 27 = .ok (.iload 4, 2) := by decide +kernel
theorem dX7_momentAt_29 : decode cX7_momentAt 29 = .ok (.iaload, 1) := by decide +kernel
theorem dX7_momentAt_30 : decode cX7_momentAt 30 = .ok (.aload_n 0, 1) := by decide +kernel
theorem dX7_momentAt_31 : decode cX7_momentAt 31 = .ok (.getfield 151, 3) := by decide +kernel
theorem dX7_momentAt_34 : decode cX7_momentAt 34 = .ok (.iload 4, 2) := by decide +kernel
theorem dX7_momentAt_36 : decode cX7_momentAt 36 = .ok (.iaload, 1) := by decide +kernel
theorem dX7_momentAt_37 : decode cX7_momentAt 37 = .ok (.imul, 1) := by decide +kernel
theorem dX7_momentAt_38 : decode cX7_momentAt 38 = .ok (.iadd, 1) := by decide +kernel
theorem dX7_momentAt_39 : decode cX7_momentAt 39 = .ok (.istore_n 3, 1) := by decide +kernel
theorem dX7_momentAt_40 : decode cX7_momentAt 40 = .ok (.iinc 4 1, 3) := by decide +kernel
theorem dX7_momentAt_43 : decode cX7_momentAt 43 = .ok (.goto (-30), 3) := by decide +kernel
theorem dX7_momentAt_46 : decode cX7_momentAt 46 = .ok (.iconst 0, 1) := by decide +kernel
theorem dX7_momentAt_47 : decode cX7_momentAt 47 = .ok (.istore 4, 2) := by decide +kernel
theorem dX7_momentAt_49 : decode cX7_momentAt 49 = .ok (.iload 4, 2) := by decide +kernel
theorem dX7_momentAt_51 : decode cX7_momentAt 51 = .ok (.aload_n 1, 1) := by decide +kernel
theorem dX7_momentAt_52 : decode cX7_momentAt 52 = .ok (.getfield 52, 3) := by decide +kernel
theorem dX7_momentAt_55 : decode cX7_momentAt 55 = .ok (.if_icmp .ge 70, 3) := by decide +kernel
theorem dX7_momentAt_58 : decode cX7_momentAt 58 = .ok (.aload_n 1, 1) := by decide +kernel
theorem dX7_momentAt_59 : decode cX7_momentAt 59 = .ok (.getfield 55, 3) := by decide +kernel
theorem dX7_momentAt_62 : decode cX7_momentAt 62 = .ok (.iload 4, 2) := by decide +kernel
theorem dX7_momentAt_64 : decode cX7_momentAt 64 = .ok (.iaload, 1) := by decide +kernel
theorem dX7_momentAt_65 : decode cX7_momentAt 65 = .ok (.istore 5, 2) := by decide +kernel
theorem dX7_momentAt_67 : decode cX7_momentAt 67 = .ok (.aload_n 0, 1) := by decide +kernel
theorem dX7_momentAt_68 : decode cX7_momentAt 68 = .ok (.getfield 19, 3) := by decide +kernel
theorem dX7_momentAt_71 : decode cX7_momentAt 71 = .ok (.iload 5, 2) := by decide +kernel
theorem dX7_momentAt_73 : decode cX7_momentAt 73 = .ok (.invokevirtual 90, 3) := by decide +kernel
theorem dX7_momentAt_76 : decode cX7_momentAt 76 = .ok (.ifCond .eq 43, 3) := by decide +kernel
theorem dX7_momentAt_79 : decode cX7_momentAt 79 = .ok (.aload_n 1, 1) := by decide +kernel
theorem dX7_momentAt_80 : decode cX7_momentAt 80 = .ok (.getfield 109, 3) := by decide +kernel
theorem dX7_momentAt_83 : decode cX7_momentAt 83 = .ok (.iload 4, 2) := by decide +kernel
theorem dX7_momentAt_85 : decode cX7_momentAt 85 = .ok (.iaload, 1) := by decide +kernel
theorem dX7_momentAt_86 : decode cX7_momentAt 86 = .ok (.aload_n 0, 1) := by decide +kernel
theorem dX7_momentAt_87 : decode cX7_momentAt 87 = .ok (.getfield 116, 3) := by decide +kernel
theorem dX7_momentAt_90 : decode cX7_momentAt 90 = .ok (.getfield 140, 3) := by decide +kernel
theorem dX7_momentAt_93 : decode cX7_momentAt 93 = .ok (.iload_n 2, 1) := by decide +kernel
theorem dX7_momentAt_94 : decode cX7_momentAt 94 = .ok (.iaload, 1) := by decide +kernel
theorem dX7_momentAt_95 : decode cX7_momentAt 95 = .ok (.if_icmp .le 24, 3) := by decide +kernel
theorem dX7_momentAt_98 : decode cX7_momentAt 98 = .ok (.iload_n 3, 1) := by decide +kernel
theorem dX7_momentAt_99 : decode cX7_momentAt 99 = .ok (.aload_n 1, 1) := by decide +kernel
theorem dX7_momentAt_100 : decode cX7_momentAt 100 = .ok (.getfield 97, 3) := by decide +kernel
theorem dX7_momentAt_103 : decode cX7_momentAt 103 = .ok (.iload 4, 2) := by decide +kernel
theorem dX7_momentAt_105 : decode cX7_momentAt 105 = .ok (.iaload, 1) := by decide +kernel
theorem dX7_momentAt_106 : decode cX7_momentAt 106 = .ok (.aload_n 0, 1) := by decide +kernel
theorem dX7_momentAt_107 : decode cX7_momentAt 107 = .ok (.getfield 19, 3) := by decide +kernel
theorem dX7_momentAt_110 : decode cX7_momentAt 110 = .ok (.getfield 154, 3) := by decide +kernel
theorem dX7_momentAt_113 : decode cX7_momentAt 113 = .ok (.iload 5, 2) := by decide +kernel
theorem dX7_momentAt_115 : decode cX7_momentAt 115 = .ok (.iaload, 1) := by decide +kernel
theorem dX7_momentAt_116 : decode cX7_momentAt 116 = .ok (.imul, 1) := by decide +kernel
theorem dX7_momentAt_117 : decode cX7_momentAt 117 = .ok (.iadd, 1) := by decide +kernel
theorem dX7_momentAt_118 : decode cX7_momentAt 118 = .ok (.istore_n 3, 1) := by decide +kernel
theorem dX7_momentAt_119 : decode cX7_momentAt 119 = .ok (.iinc 4 1, 3) := by decide +kernel
theorem dX7_momentAt_122 : decode cX7_momentAt 122 = .ok (.goto (-73), 3) := by decide +kernel
theorem dX7_momentAt_125 : decode cX7_momentAt 125 = .ok (.iload_n 3, 1) := by decide +kernel
theorem dX7_momentAt_126 : decode cX7_momentAt 126 = .ok (.ireturn, 1) := by decide +kernel
theorem dX8_init_0 : decode cX8_init 0 = .ok (.aload_n 0, 1) := by decide +kernel
theorem dX8_init_1 : decode cX8_init 1 = .ok (.invokespecial 3, 3) := by decide +kernel
theorem dX8_init_4 : decode cX8_init 4 = .ok (.aload_n 0, 1) := by decide +kernel
theorem dX8_init_5 : decode cX8_init 5 = .ok (.sipush 720, 3) := by decide +kernel
theorem dX8_init_8 : decode cX8_init 8 = .ok (.newarray .int, 2) := by decide +kernel
theorem dX8_init_10 : decode cX8_init 10 = .ok (.putfield 11, 3) := by decide +kernel
theorem dX8_init_13 : decode cX8_init 13 = .ok (.aload_n 0, 1) := by decide +kernel
theorem dX8_init_14 : decode cX8_init 14 = .ok (.sipush 720, 3) := by decide +kernel
theorem dX8_init_17 : decode cX8_init 17 = .ok (.newarray .int, 2) := by decide +kernel
theorem dX8_init_19 : decode cX8_init 19 = .ok (.putfield 15, 3) := by decide +kernel
theorem dX8_init_22 : decode cX8_init 22 = .ok (.aload_n 0, 1) := by decide +kernel
theorem dX8_init_23 : decode cX8_init 23 = .ok (.sipush 720, 3) := by decide +kernel
theorem dX8_init_26 : decode cX8_init 26 = .ok (.newarray .int, 2) := by decide +kernel
theorem dX8_init_28 : decode cX8_init 28 = .ok (.putfield 18, 3) := by decide +kernel
theorem dX8_init_31 : decode cX8_init 31 = .ok (.aload_n 0, 1) := by decide +kernel
theorem dX8_init_32 : decode cX8_init 32 = .ok (.iconst 5, 1) := by decide +kernel
theorem dX8_init_33 : decode cX8_init 33 = .ok (.newarray .int, 2) := by decide +kernel
theorem dX8_init_35 : decode cX8_init 35 = .ok (.putfield 21, 3) := by decide +kernel
theorem dX8_init_38 : decode cX8_init 38 = .ok (.aload_n 0, 1) := by decide +kernel
theorem dX8_init_39 : decode cX8_init 39 = .ok (.iconst 5, 1) := by decide +kernel
theorem dX8_init_40 : decode cX8_init 40 = .ok (.newarray .int, 2) := by decide +kernel
theorem dX8_init_42 : decode cX8_init 42 = .ok (.putfield 24, 3) := by decide +kernel
theorem dX8_init_45 : decode cX8_init 45 = .ok (.aload_n 0, 1) := by decide +kernel
theorem dX8_init_46 : decode cX8_init 46 = .ok (.iconst 5, 1) := by decide +kernel
theorem dX8_init_47 : decode cX8_init 47 = .ok (.newarray .int, 2) := by decide +kernel
theorem dX8_init_49 : decode cX8_init 49 = .ok (.putfield 27, 3) := by decide +kernel
theorem dX8_init_52 : decode cX8_init 52 = .ok (.aload_n 0, 1) := by decide +kernel
theorem dX8_init_53 : decode cX8_init 53 = .ok (.bipush 6, 2) := by decide +kernel
theorem dX8_init_55 : decode cX8_init 55 = .ok (.newarray .int, 2) := by decide +kernel
theorem dX8_init_57 : decode cX8_init 57 = .ok (.putfield 30, 3) := by decide +kernel
theorem dX8_init_60 : decode cX8_init 60 = .ok (.aload_n 0, 1) := by decide +kernel
theorem dX8_init_61 : decode cX8_init 61 = .ok (.iconst 3, 1) := by decide +kernel
theorem dX8_init_62 : decode cX8_init 62 = .ok (.newarray .int, 2) := by decide +kernel
theorem dX8_init_64 : decode cX8_init 64 = .ok (.putfield 33, 3) := by decide +kernel
theorem dX8_init_67 : decode cX8_init 67 = .ok (.aload_n 0, 1) := by decide +kernel
theorem dX8_init_68 : decode cX8_init 68 = .ok (.bipush 10, 2) := by decide +kernel
theorem dX8_init_70 : decode cX8_init 70 = .ok (.newarray .int, 2) := by decide +kernel
theorem dX8_init_72 : decode cX8_init 72 = .ok (.putfield 36, 3) := by decide +kernel
theorem dX8_init_75 : decode cX8_init 75 = .ok (.return_, 1) := by decide +kernel
theorem dX8_forget_0 : decode cX8_forget 0 = .ok (.aload_n 0, 1) := by decide +kernel
theorem dX8_forget_1 : decode cX8_forget 1 = .ok (.iconst 0, 1) := by decide +kernel
theorem dX8_forget_2 : decode cX8_forget 2 = .ok (.putfield 39, 3) := by decide +kernel
theorem dX8_forget_5 : decode cX8_forget 5 = .ok (.return_, 1) := by decide +kernel
theorem dX9_init_0 : decode cX9_init 0 = .ok (.aload_n 0, 1) := by decide +kernel
theorem dX9_init_1 : decode cX9_init 1 = .ok (.invokespecial 3, 3) := by decide +kernel
theorem dX9_init_4 : decode cX9_init 4 = .ok (.aload_n 0, 1) := by decide +kernel
theorem dX9_init_5 : decode cX9_init 5 = .ok (.sipush 540, 3) := by decide +kernel
theorem dX9_init_8 : decode cX9_init 8 = .ok (.newarray .int, 2) := by decide +kernel
theorem dX9_init_10 : decode cX9_init 10 = .ok (.putfield 9, 3) := by decide +kernel
theorem dX9_init_13 : decode cX9_init 13 = .ok (.return_, 1) := by decide +kernel
theorem dX9_addBytes_0 : decode cX9_addBytes 0 = .ok (.bipush 24, 2) := by decide +kernel
theorem dX9_addBytes_2 : decode cX9_addBytes 2 = .ok (.istore_n 2, 1) := by decide +kernel
theorem dX9_addBytes_3 : decode cX9_addBytes 3 = .ok (.iload_n 2, 1) := by decide +kernel
theorem dX9_addBytes_4 : decode cX9_addBytes 4 = .ok (.ifCond .lt 47, 3) := by decide +kernel
theorem dX9_addBytes_7 : decode cX9_addBytes 7 = .ok (.aload_n 0, 1) := by decide +kernel
theorem dX9_addBytes_8 : decode cX9_addBytes 8 = .ok (.getfield 15, 3) := by decide +kernel
theorem dX9_addBytes_11 : decode cX9_addBytes 11 = .ok (.aload_n 0, 1) := by decide +kernel
theorem dX9_addBytes_12 : decode cX9_addBytes 12 = .ok (.getfield 9, 3) := by decide +kernel
theorem dX9_addBytes_15 : decode cX9_addBytes 15 = .ok (.arraylength, 1) := by decide +kernel
theorem dX9_addBytes_16 : decode cX9_addBytes 16 = .ok (.if_icmp .ge 29, 3) := by decide +kernel
theorem dX9_addBytes_19 : decode cX9_addBytes 19 = .ok (.aload_n 0, 1) := by decide +kernel
theorem dX9_addBytes_20 : decode cX9_addBytes 20 = .ok (.getfield 9, 3) := by decide +kernel
theorem dX9_addBytes_23 : decode cX9_addBytes 23 = .ok (.aload_n 0, 1) := by decide +kernel
theorem dX9_addBytes_24 : decode cX9_addBytes 24 = .ok (.getfield 15, 3) := by decide +kernel
theorem dX9_addBytes_27 : decode cX9_addBytes 27 = .ok (.iload_n 1, 1) := by decide +kernel
theorem dX9_addBytes_28 : decode cX9_addBytes 28 = .ok (.iload_n 2, 1) := by decide +kernel
theorem dX9_addBytes_29 : decode cX9_addBytes 29 = .ok (.iushr, 1) := by decide +kernel
theorem dX9_addBytes_30 : decode cX9_addBytes 30 = .ok (.sipush 255, 3) := by decide +kernel
theorem dX9_addBytes_33 : decode cX9_addBytes 33 = .ok (.iand, 1) := by decide +kernel
theorem dX9_addBytes_34 : decode cX9_addBytes 34 = .ok (.iastore, 1) := by decide +kernel
theorem dX9_addBytes_35 : decode cX9_addBytes 35 = .ok (.aload_n 0, 1) := by decide +kernel
theorem dX9_addBytes_36 : decode cX9_addBytes 36 = .ok (.dup, 1) := by decide +kernel
theorem dX9_addBytes_37 : decode cX9_addBytes 37 = .ok (.getfield 15, 3) := by decide +kernel
theorem dX9_addBytes_40 : decode cX9_addBytes 40 = .ok (.iconst 1, 1) := by decide +kernel
theorem dX9_addBytes_41 : decode cX9_addBytes 41 = .ok (.iadd, 1) := by decide +kernel
theorem dX9_addBytes_42 : decode cX9_addBytes 42 = .ok (.putfield 15, 3) := by decide +kernel
theorem dX9_addBytes_45 : decode cX9_addBytes 45 = .ok (.iinc 2 (-8), 3) := by decide +kernel
theorem dX9_addBytes_48 : decode cX9_addBytes 48 = .ok (.goto (-45), 3) := by decide +kernel
theorem dX9_addBytes_51 : decode cX9_addBytes 51 = .ok (.return_, 1) := by decide +kernel
theorem dX9_begin_0 : decode cX9_begin 0 = .ok (.aload_n 0, 1) := by decide +kernel
theorem dX9_begin_1 : decode cX9_begin 1 = .ok (.iconst 0, 1) := by decide +kernel
theorem dX9_begin_2 : decode cX9_begin 2 = .ok (.putfield 19, 3) := by decide +kernel
theorem dX9_begin_5 : decode cX9_begin 5 = .ok (.aload_n 0, 1) := by decide +kernel
theorem dX9_begin_6 : decode cX9_begin 6 = .ok (.iconst 0, 1) := by decide +kernel
theorem dX9_begin_7 : decode cX9_begin 7 = .ok (.putfield 22, 3) := by decide +kernel
theorem dX9_begin_10 : decode cX9_begin 10 = .ok (.aload_n 0, 1) := by decide +kernel
theorem dX9_begin_11 : decode cX9_begin 11 = .ok (.iconst 0, 1) := by decide +kernel
theorem dX9_begin_12 : decode cX9_begin 12 = .ok (.putfield 25, 3) := by decide +kernel
theorem dX9_begin_15 : decode cX9_begin 15 = .ok (.aload_n 0, 1) := by decide +kernel
theorem dX9_begin_16 : decode cX9_begin 16 = .ok (.iconst 0, 1) := by decide +kernel
theorem dX9_begin_17 : decode cX9_begin 17 = .ok (.putfield 28, 3) := by decide +kernel
theorem dX9_begin_20 : decode cX9_begin 20 = .ok (.aload_n 0, 1) := by decide +kernel
theorem dX9_begin_21 : decode cX9_begin 21 = .ok (.iconst 0, 1) := by decide +kernel
theorem dX9_begin_22 : decode cX9_begin 22 = .ok (.putfield 31, 3) := by decide +kernel
theorem dX9_begin_25 : decode cX9_begin 25 = .ok (.aload_n 0, 1) := by decide +kernel
theorem dX9_begin_26 : decode cX9_begin 26 = .ok (.getfield 15, 3) := by decide +kernel
theorem dX9_begin_29 : decode cX9_begin 29 = .ok (.iload_n 1, 1) := by decide +kernel
theorem dX9_begin_30 : decode cX9_begin 30 = .ok (.if_icmp .le 13, 3) := by decide +kernel
theorem dX9_begin_33 : decode cX9_begin 33 = .ok (.aload_n 0, 1) := by decide +kernel
theorem dX9_begin_34 : decode cX9_begin 34 = .ok (.iload_n 1, 1) := by decide +kernel
theorem dX9_begin_35 : decode cX9_begin 35 = .ok (.putfield 19, 3) := by decide +kernel
theorem dX9_begin_38 : decode cX9_begin 38 = .ok (.aload_n 0, 1) := by decide +kernel
theorem dX9_begin_39 : decode cX9_begin 39 = .ok (.iconst 1, 1) := by decide +kernel
theorem dX9_begin_40 : decode cX9_begin 40 = .ok (.invokevirtual 34, 3) := by decide +kernel
theorem dX9_begin_43 : decode cX9_begin 43 = .ok (.return_, 1) := by decide +kernel
theorem dX9_fail_0 : decode cX9_fail 0 = .ok (.aload_n 0, 1) := by decide +kernel
theorem dX9_fail_1 : decode cX9_fail 1 = .ok (.getfield 28, 3) := by decide +kernel
theorem dX9_fail_4 : decode cX9_fail 4 = .ok (.ifCond .ne 16, 3) := by decide +kernel
theorem dX9_fail_7 : decode cX9_fail 7 = .ok (.aload_n 0, 1) := by decide +kernel
theorem dX9_fail_8 : decode cX9_fail 8 = .ok (.iload_n 1, 1) := by decide +kernel
theorem dX9_fail_9 : decode cX9_fail 9 = .ok (.putfield 28, 3) := by decide +kernel
theorem dX9_fail_12 : decode cX9_fail 12 = .ok (.aload_n 0, 1) := by decide +kernel
theorem dX9_fail_13 : decode cX9_fail 13 = .ok (.aload_n 0, 1) := by decide +kernel
theorem dX9_fail_14 : decode cX9_fail 14 = .ok (.getfield 19, 3) := by decide +kernel
theorem dX9_fail_17 : decode cX9_fail 17 = .ok (.putfield 31, 3) := by decide +kernel
theorem dX9_fail_20 : decode cX9_fail 20 = .ok (.return_, 1) := by decide +kernel
theorem dX9_next_0 : decode cX9_next 0 = .ok (.aload_n 0, 1) := by decide +kernel
theorem dX9_next_1 : decode cX9_next 1 = .ok (.getfield 28, 3) := by decide +kernel
theorem dX9_next_4 : decode cX9_next 4 = .ok (.ifCond .eq 4, 3) := by decide +kernel
theorem dX9_next_7 : decode cX9_next 7 = .ok (.return_, 1) := by decide +kernel
theorem dX9_next_8 : decode cX9_next 8 = .ok (.aload_n 0, 1) := by decide +kernel
theorem dX9_next_9 : decode cX9_next 9 = .ok (.aload_n 0, 1) := by decide +kernel
theorem dX9_next_10 : decode cX9_next 10 = .ok (.getfield 22, 3) := by decide +kernel
theorem dX9_next_13 : decode cX9_next 13 = .ok (.putfield 19, 3) := by decide +kernel
theorem dX9_next_16 : decode cX9_next 16 = .ok (.aload_n 0, 1) := by decide +kernel
theorem dX9_next_17 : decode cX9_next 17 = .ok (.getfield 19, 3) := by decide +kernel
theorem dX9_next_20 : decode cX9_next 20 = .ok (.aload_n 0, 1) := by decide +kernel
theorem dX9_next_21 : decode cX9_next 21 = .ok (.getfield 15, 3) := by decide +kernel
theorem dX9_next_24 : decode cX9_next 24 = .ok (.if_icmp .ge 30, 3) := by decide +kernel
theorem dX9_next_27 : decode cX9_next 27 = .ok (.aload_n 0, 1) := by decide +kernel
theorem dX9_next_28 : decode cX9_next 28 = .ok (.getfield 9, 3) := by decide +kernel
theorem dX9_next_31 : decode cX9_next 31 = .ok (.aload_n 0, 1) := by decide +kernel
theorem dX9_next_32 : decode cX9_next 32 = .ok (.getfield 19, 3) := by decide +kernel
theorem dX9_next_35 : decode cX9_next 35 = .ok (.iaload, 1) := by decide +kernel
theorem dX9_next_36 : decode cX9_next 36 = .ok (.bipush 32, 2) := by decide +kernel
theorem dX9_next_38 : decode cX9_next 38 = .ok (.if_icmp .ne 16, 3) := by decide +kernel
theorem dX9_next_41 : decode cX9_next 41 = .ok (.aload_n 0, 1) := by decide +kernel
theorem dX9_next_42 : decode cX9_next 42 = .ok (.dup, 1) := by decide +kernel
theorem dX9_next_43 : decode cX9_next 43 = .ok (.getfield 19, 3) := by decide +kernel
theorem dX9_next_46 : decode cX9_next 46 = .ok (.iconst 1, 1) := by decide +kernel
theorem dX9_next_47 : decode cX9_next 47 = .ok (.iadd, 1) := by decide +kernel
theorem dX9_next_48 : decode cX9_next 48 = .ok (.putfield 19, 3) := by decide +kernel
theorem dX9_next_51 : decode cX9_next 51 = .ok (.goto (-35), 3) := by decide +kernel
theorem dX9_next_54 : decode cX9_next 54 = .ok (.aload_n 0, 1) := by decide +kernel
theorem dX9_next_55 : decode cX9_next 55 = .ok (.aload_n 0, 1) := by decide +kernel
theorem dX9_next_56 : decode cX9_next 56 = .ok (.getfield 19, 3) := by decide +kernel
theorem dX9_next_59 : decode cX9_next 59 = .ok (.putfield 22, 3) := by decide +kernel
theorem dX9_next_62 : decode cX9_next 62 = .ok (.aload_n 0, 1) := by decide +kernel
theorem dX9_next_63 : decode cX9_next 63 = .ok (.getfield 19, 3) := by decide +kernel
theorem dX9_next_66 : decode cX9_next 66 = .ok (.aload_n 0, 1) := by decide +kernel
theorem dX9_next_67 : decode cX9_next 67 = .ok (.getfield 15, 3) := by decide +kernel
theorem dX9_next_70 : decode cX9_next 70 = .ok (.if_icmp .lt 9, 3) := by decide +kernel
theorem dX9_next_73 : decode cX9_next 73 = .ok (.aload_n 0, 1) := by decide +kernel
theorem dX9_next_74 : decode cX9_next 74 = .ok (.iconst 0, 1) := by decide +kernel
theorem dX9_next_75 : decode cX9_next 75 = .ok (.putfield 25, 3) := by decide +kernel
theorem dX9_next_78 : decode cX9_next 78 = .ok (.return_, 1) := by decide +kernel
theorem dX9_next_79 : decode cX9_next 79 = .ok (.aload_n 0, 1) := by decide +kernel
theorem dX9_next_80 : decode cX9_next 80 = .ok (.getfield 9, 3) := by decide +kernel
theorem dX9_next_83 : decode cX9_next 83 = .ok (.aload_n 0, 1) := by decide +kernel
theorem dX9_next_84 : decode cX9_next 84 = .ok (.getfield 19, 3) := by decide +kernel
theorem dX9_next_87 : decode cX9_next 87 = .ok (.iaload, 1) := by decide +kernel
theorem dX9_next_88 : decode cX9_next 88 = .ok (.bipush 59, 2) := by decide +kernel
theorem dX9_next_90 : decode cX9_next 90 = .ok (.if_icmp .ne 19, 3) := by decide +kernel
theorem dX9_next_93 : decode cX9_next 93 = .ok (.aload_n 0, 1) := by decide +kernel
theorem dX9_next_94 : decode cX9_next 94 = .ok (.aload_n 0, 1) := by decide +kernel
theorem dX9_next_95 : decode cX9_next 95 = .ok (.getfield 19, 3) := by decide +kernel
theorem dX9_next_98 : decode cX9_next 98 = .ok (.iconst 1, 1) := by decide +kernel
theorem dX9_next_99 : decode cX9_next 99 = .ok (.iadd, 1) := by decide +kernel
theorem dX9_next_100 : decode cX9_next 100 = .ok (.putfield 22, 3) := by decide +kernel
theorem dX9_next_103 : decode cX9_next 103 = .ok (.aload_n 0, 1) := by decide +kernel
theorem dX9_next_104 : decode cX9_next 104 = .ok (.iconst 3, 1) := by decide +kernel
theorem dX9_next_105 : decode cX9_next 105 = .ok (.putfield 25, 3) := by decide +kernel
theorem dX9_next_108 : decode cX9_next 108 = .ok (.return_, 1) := by decide +kernel
theorem dX9_next_109 : decode cX9_next 109 = .ok (.iconst 0, 1) := by decide +kernel
theorem dX9_next_110 : decode cX9_next 110 = .ok (.istore_n 1, 1) := by decide +kernel
theorem dX9_next_111 : decode cX9_next 111 = .ok (.aload_n 0, 1) := by decide +kernel
theorem dX9_next_112 : decode cX9_next 112 = .ok (.aload_n 0, 1) := by decide +kernel
theorem dX9_next_113 : decode cX9_next 113 = .ok (.getfield 19, 3) := by decide +kernel
theorem dX9_next_116 : decode cX9_next 116 = .ok (.putfield 22, 3) := by decide +kernel
theorem dX9_next_119 : decode cX9_next 119 = .ok (.aload_n 0, 1) := by decide +kernel
theorem dX9_next_120 : decode cX9_next 120 = .ok (.getfield 22, 3) := by decide +kernel
theorem dX9_next_123 : decode cX9_next 123 = .ok (.aload_n 0, 1) := by decide +kernel
theorem dX9_next_124 : decode cX9_next 124 = .ok (.getfield 15, 3) := by decide +kernel
theorem dX9_next_127 : decode cX9_next 127 = .ok (.if_icmp .ge 69, 3) := by decide +kernel
theorem dX9_next_130 : decode cX9_next 130 = .ok (.aload_n 0, 1) := by decide +kernel
theorem dX9_next_131 : decode cX9_next 131 = .ok (.getfield 9, 3) := by decide +kernel
theorem dX9_next_134 : decode cX9_next 134 = .ok (.aload_n 0, 1) := by decide +kernel
theorem dX9_next_135 : decode cX9_next 135 = .ok (.getfield 22, 3) := by decide +kernel
theorem dX9_next_138 : decode cX9_next 138 = .ok (.iaload, 1) := by decide +kernel
theorem dX9_next_139 : decode cX9_next 139 = .ok (.invokestatic 38, 3) := by decide +kernel
theorem dX9_next_142 : decode cX9_next 142 = .ok (.ifCond .ne 18, 3) := by decide +kernel
theorem dX9_next_145 : decode cX9_next 145 = .ok (.aload_n 0, 1) := by decide +kernel
theorem dX9_next_146 : decode cX9_next 146 = .ok (.getfield 9, 3) := by decide +kernel
theorem dX9_next_149 : decode cX9_next 149 = .ok (.aload_n 0, 1) := by decide +kernel
theorem dX9_next_150 : decode cX9_next 150 = .ok (.getfield 22, 3) := by decide +kernel
theorem dX9_next_153 : decode cX9_next 153 = .ok (.iaload, 1) := by decide +kernel
theorem dX9_next_154 : decode cX9_next 154 = .ok (.invokestatic 42, 3) := by decide +kernel
theorem dX9_next_157 : decode cX9_next 157 = .ok (.ifCond .eq 39, 3) := by decide +kernel
theorem dX9_next_160 : decode cX9_next 160 = .ok (.iload_n 1, 1) := by decide +kernel
theorem dX9_next_161 : decode cX9_next 161 = .ok (.aload_n 0, 1) := by decide +kernel
theorem dX9_next_162 : decode cX9_next 162 = .ok (.getfield 9, 3) := by decide +kernel
theorem dX9_next_165 : decode cX9_next 165 = .ok (.aload_n 0, 1) := by decide +kernel
theorem dX9_next_166 : decode cX9_next 166 = .ok (.getfield 22, 3) := by decide +kernel
theorem dX9_next_169 : decode cX9_next 169 = .ok (.iaload, 1) := by decide +kernel
theorem dX9_next_170 : decode cX9_next 170 = .ok (.invokestatic 42, 3) := by decide +kernel
theorem dX9_next_173 : decode cX9_next 173 = .ok (.ifCond .eq 7, 3) := by decide +kernel
theorem dX9_next_176 : decode cX9_next 176 = .ok (.iconst 1, 1) := by decide +kernel
theorem dX9_next_177 : decode cX9_next 177 = .ok (.goto 4, 3) := by decide +kernel
theorem dX9_next_180 : decode cX9_next 180 = .ok (.iconst 0, 1) := by decide +kernel
theorem dX9_next_181 : decode cX9_next 181 = .ok (.iadd, 1) := by decide +kernel
theorem dX9_next_182 : decode cX9_next 182 = .ok (.istore_n 1, 1) := by decide +kernel
theorem dX9_next_183 : decode cX9_next 183 = .ok (.aload_n 0, 1) := by decide +kernel
theorem dX9_next_184 : decode cX9_next 184 = .ok (.dup, 1) := by decide +kernel
theorem dX9_next_185 : decode cX9_next 185 = .ok (.getfield 22, 3) := by decide +kernel
theorem dX9_next_188 : decode cX9_next 188 = .ok (.iconst 1, 1) := by decide +kernel
theorem dX9_next_189 : decode cX9_next 189 = .ok (.iadd, 1) := by decide +kernel
theorem dX9_next_190 : decode cX9_next 190 = .ok (.putfield 22, 3) := by decide +kernel
theorem dX9_next_193 : decode cX9_next 193 = .ok (.goto (-74), 3) := by decide +kernel
theorem dX9_next_196 : decode cX9_next 196 = .ok (.aload_n 0, 1) := by decide +kernel
theorem dX9_next_197 : decode cX9_next 197 = .ok (.aload_n 0, 1) := by decide +kernel
theorem dX9_next_198 : decode cX9_next 198 = .ok (.getfield 22, 3) := by decide +kernel
theorem dX9_next_201 : decode cX9_next 201 = .ok (.aload_n 0, 1) := by decide +kernel
theorem dX9_next_202 : decode cX9_next 202 = .ok (.getfield 19, 3) := by decide +kernel
theorem dX9_next_205 : decode cX9_next 205 = .ok (.isub, 1) := by decide +kernel
theorem dX9_next_206 : decode cX9_next 206 = .ok (.iload_n 1, 1) := by decide +kernel
theorem dX9_next_207 : decode cX9_next 207 = .ok (.invokestatic 45, 3) := by decide +kernel
theorem dX9_next_210 : decode cX9_next 210 = .ok (.putfield 25, 3) := by decide +kernel
theorem dX9_next_213 : decode cX9_next 213 = .ok (.return_, 1) := by decide +kernel
theorem dX9_number_0 : decode cX9_number 0 = .ok (.aload_n 0, 1) := by decide +kernel
theorem dX9_number_1 : decode cX9_number 1 = .ok (.invokevirtual 49, 3) := by decide +kernel
theorem dX9_number_4 : decode cX9_number 4 = .ok (.aload_n 0, 1) := by decide +kernel
theorem dX9_number_5 : decode cX9_number 5 = .ok (.getfield 28, 3) := by decide +kernel
theorem dX9_number_8 : decode cX9_number 8 = .ok (.ifCond .eq 5, 3) := by decide +kernel
theorem dX9_number_11 : decode cX9_number 11 = .ok (.iconst 0, 1) := by decide +kernel
theorem dX9_number_12 : decode cX9_number 12 = .ok (.ireturn, 1) := by decide +kernel
theorem dX9_number_13 : decode cX9_number 13 = .ok (.aload_n 0, 1) := by decide +kernel
theorem dX9_number_14 : decode cX9_number 14 = .ok (.getfield 25, 3) := by decide +kernel
theorem dX9_number_17 : decode cX9_number 17 = .ok (.iconst 2, 1) := by decide +kernel
theorem dX9_number_18 : decode cX9_number 18 = .ok (.if_icmp .eq 10, 3) := by decide +kernel
theorem dX9_number_21 : decode cX9_number 21 = .ok (.aload_n 0, 1) := by decide +kernel
theorem dX9_number_22 : decode cX9_number 22 = .ok (.iconst 1, 1) := by decide +kernel
theorem dX9_number_23 : decode cX9_number 23 = .ok (.invokevirtual 34, 3) := by decide +kernel
theorem dX9_number_26 : decode cX9_number 26 = .ok (.iconst 0, 1) := by decide +kernel
theorem dX9_number_27 : decode cX9_number 27 = .ok (.ireturn, 1) := by decide +kernel
theorem dX9_number_28 : decode cX9_number 28 = .ok (.iconst 0, 1) := by decide +kernel
theorem dX9_number_29 : decode cX9_number 29 = .ok (.istore_n 3, 1) := by decide +kernel
theorem dX9_number_30 : decode cX9_number 30 = .ok (.aload_n 0, 1) := by decide +kernel
theorem dX9_number_31 : decode cX9_number 31 = .ok (.getfield 19, 3) := by decide +kernel
theorem dX9_number_34 : decode cX9_number 34 = .ok (.istore 4, 2) := by decide +kernel
theorem dX9_number_36 : decode cX9_number 36 = .ok (.iload 4, 2) := by decide +kernel
theorem dX9_number_38 : decode cX9_number 38 = .ok (.aload_n 0, 1) := by decide +kernel
theorem dX9_number_39 : decode cX9_number 39 = .ok (.getfield 22, 3) := by decide +kernel
theorem dX9_number_42 : decode cX9_number 42 = .ok (.if_icmp .ge 25, 3) := by decide +kernel
theorem dX9_number_45 : decode cX9_number 45 = .ok (.iload_n 3, 1) := by decide +kernel
theorem dX9_number_46 : decode cX9_number 46 = .ok (.bipush 10, 2) := by decide +kernel
theorem dX9_number_48 : decode cX9_number 48 = .ok (.imul, 1) := by decide +kernel
theorem dX9_number_49 : decode cX9_number 49 = .ok (.aload_n 0, 1) := by decide +kernel
theorem dX9_number_50 : decode cX9_number 50 = .ok (.getfield 9, 3) := by decide +kernel
theorem dX9_number_53 : decode cX9_number 53 = .ok (.iload 4, 2) := by decide +kernel
theorem dX9_number_55 : decode cX9_number 55 = .ok (.iaload, 1) := by decide +kernel
theorem dX9_number_56 : decode cX9_number 56 = .ok (.iadd, 1) := by decide +kernel
theorem dX9_number_57 : decode cX9_number 57 = .ok (.bipush 48, 2) := by decide +kernel
theorem dX9_number_59 : decode cX9_number 59 = .ok (.isub, 1) := by decide +kernel
theorem dX9_number_60 : decode cX9_number 60 = .ok (.istore_n 3, 1) := by decide +kernel
theorem dX9_number_61 : decode cX9_number 61 = .ok (.iinc 4 1, 3) := by decide +kernel
theorem dX9_number_64 : decode cX9_number 64 = .ok (.goto (-28), 3) := by decide +kernel
theorem dX9_number_67 : decode cX9_number 67 = .ok (.iload_n 3, 1) := by decide +kernel
theorem dX9_number_68 : decode cX9_number 68 = .ok (.iload_n 1, 1) := by decide +kernel
theorem dX9_number_69 : decode cX9_number 69 = .ok (.if_icmp .lt 8, 3) := by decide +kernel
theorem dX9_number_72 : decode cX9_number 72 = .ok (.iload_n 3, 1) := by decide +kernel
theorem dX9_number_73 : decode cX9_number 73 = .ok (.iload_n 2, 1) := by decide +kernel
theorem dX9_number_74 : decode cX9_number 74 = .ok (.if_icmp .le 8, 3) := by decide +kernel
theorem dX9_number_77 : decode cX9_number 77 = .ok (.aload_n 0, 1) := by decide +kernel
theorem dX9_number_78 : decode cX9_number 78 = .ok (.iconst 2, 1) := by decide +kernel
theorem dX9_number_79 : decode cX9_number 79 = .ok (.invokevirtual 34, 3) := by decide +kernel
theorem dX9_number_82 : decode cX9_number 82 = .ok (.iload_n 3, 1) := by decide +kernel
theorem dX9_number_83 : decode cX9_number 83 = .ok (.ireturn, 1) := by decide +kernel
theorem dX9_newWord_0 : decode cX9_newWord 0 = .ok (.aload_n 0, 1) := by decide +kernel
theorem dX9_newWord_1 : decode cX9_newWord 1 = .ok (.invokevirtual 49, 3) := by decide +kernel
theorem dX9_newWord_4 : decode cX9_newWord 4 = .ok (.aload_n 0, 1) := by decide +kernel
theorem dX9_newWord_5 : decode cX9_newWord 5 = .ok (.getfield 28, 3) := by decide +kernel
theorem dX9_newWord_8 : decode cX9_newWord 8 = .ok (.ifCond .eq 5, 3) := by decide +kernel
theorem dX9_newWord_11 : decode cX9_newWord 11 = .ok (.lconst 0, 1) := by decide +kernel
theorem dX9_newWord_12 : decode cX9_newWord 12 = .ok (.lreturn, 1) := by decide +kernel
theorem dX9_newWord_13 : decode cX9_newWord 13 = .ok (.aload_n 0, 1) := by decide +kernel
theorem dX9_newWord_14 : decode cX9_newWord 14 = .ok (.getfield 25, 3) := by decide +kernel
theorem dX9_newWord_17 : decode cX9_newWord 17 = .ok (.iconst 1, 1) := by decide +kernel
theorem dX9_newWord_18 : decode cX9_newWord 18 = .ok (.if_icmp .ne 10, 3) := by decide +kernel
theorem dX9_newWord_21 : decode cX9_newWord 21 = .ok (.aload_n 0, 1) := by decide +kernel
theorem dX9_newWord_22 : decode cX9_newWord 22 = .ok (.invokevirtual 52, 3) := by decide +kernel
theorem dX9_newWord_25 : decode cX9_newWord 25 = .ok (.ifCond .eq 8, 3) := by decide +kernel
theorem dX9_newWord_28 : decode cX9_newWord 28 = .ok (.aload_n 0, 1) := by decide +kernel
theorem dX9_newWord_29 : decode cX9_newWord 29 = .ok (.iconst 1, 1) := by decide +kernel
theorem dX9_newWord_30 : decode cX9_newWord 30 = .ok (.invokevirtual 34, 3) := by decide +kernel
theorem dX9_newWord_33 : decode cX9_newWord 33 = .ok (.aload_n 0, 1) := by decide +kernel
theorem dX9_newWord_34 : decode cX9_newWord 34 = .ok (.aload_n 0, 1) := by decide +kernel
theorem dX9_newWord_35 : decode cX9_newWord 35 = .ok (.getfield 19, 3) := by decide +kernel
theorem dX9_newWord_38 : decode cX9_newWord 38 = .ok (.aload_n 0, 1) := by decide +kernel
theorem dX9_newWord_39 : decode cX9_newWord 39 = .ok (.getfield 22, 3) := by decide +kernel
theorem dX9_newWord_42 : decode cX9_newWord 42 = .ok (.invokevirtual 56, 3) := by decide +kernel
theorem dX9_newWord_45 : decode cX9_newWord 45 = .ok (.lreturn, 1) := by decide +kernel
theorem dX9_lineEnd_0 : decode cX9_lineEnd 0 = .ok (.aload_n 0, 1) := by decide +kernel
theorem dX9_lineEnd_1 : decode cX9_lineEnd 1 = .ok (.invokevirtual 49, 3) := by decide +kernel
theorem dX9_lineEnd_4 : decode cX9_lineEnd 4 = .ok (.aload_n 0, 1) := by decide +kernel
theorem dX9_lineEnd_5 : decode cX9_lineEnd 5 = .ok (.getfield 25, 3) := by decide +kernel
theorem dX9_lineEnd_8 : decode cX9_lineEnd 8 = .ok (.iconst 3, 1) := by decide +kernel
theorem dX9_lineEnd_9 : decode cX9_lineEnd 9 = .ok (.if_icmp .eq 8, 3) := by decide +kernel
theorem dX9_lineEnd_12 : decode cX9_lineEnd 12 = .ok (.aload_n 0, 1) := by decide +kernel
theorem dX9_lineEnd_13 : decode cX9_lineEnd 13 = .ok (.iconst 1, 1) := by decide +kernel
theorem dX9_lineEnd_14 : decode cX9_lineEnd 14 = .ok (.invokevirtual 34, 3) := by decide +kernel
theorem dX9_lineEnd_17 : decode cX9_lineEnd 17 = .ok (.return_, 1) := by decide +kernel
theorem dX9_tells_0 : decode cX9_tells 0 = .ok (.aload_n 0, 1) := by decide +kernel
theorem dX9_tells_1 : decode cX9_tells 1 = .ok (.getfield 28, 3) := by decide +kernel
theorem dX9_tells_4 : decode cX9_tells 4 = .ok (.ifCond .ne 27, 3) := by decide +kernel
theorem dX9_tells_7 : decode cX9_tells 7 = .ok (.aload_n 0, 1) := by decide +kernel
theorem dX9_tells_8 : decode cX9_tells 8 = .ok (.getfield 25, 3) := by decide +kernel
theorem dX9_tells_11 : decode cX9_tells 11 = .ok (.iconst 1, 1) := by decide +kernel
theorem dX9_tells_12 : decode cX9_tells 12 = .ok (.if_icmp .ne 19, 3) := by decide +kernel
theorem dX9_tells_15 : decode cX9_tells 15 = .ok (.aload_n 0, 1) := by decide +kernel
theorem dX9_tells_16 : decode cX9_tells 16 = .ok (.getfield 22, 3) := by decide +kernel
theorem dX9_tells_19 : decode cX9_tells 19 = .ok (.aload_n 0, 1) := by decide +kernel
theorem dX9_tells_20 : decode cX9_tells 20 = .ok (.getfield 19, 3) := by decide +kernel
theorem dX9_tells_23 : decode cX9_tells 23 = .ok (.isub, 1) := by decide +kernel
theorem dX9_tells_24 : decode cX9_tells 24 = .ok (.aload_n 1, 1) := by decide +kernel
theorem dX9_tells_25 : decode cX9_tells 25 = .ok (.invokevirtual 60, 3) := by decide +kernel
theorem dX9_tells_28 : decode cX9_tells 28 = .ok (.if_icmp .eq 5, 3) := by decide +kernel
theorem dX9_tells_31 : decode cX9_tells 31 = .ok (.iconst 0, 1) := by decide +kernel
theorem dX9_tells_32 : decode cX9_tells 32 = .ok (.ireturn, 1) := by decide +kernel
theorem dX9_tells_33 : decode cX9_tells 33 = .ok (.iconst 0, 1) := by decide +kernel
theorem dX9_tells_34 : decode cX9_tells 34 = .ok (.istore_n 2, 1) := by decide +kernel
theorem dX9_tells_35 : decode cX9_tells 35 = .ok (.iload_n 2, 1) := by decide +kernel
theorem dX9_tells_36 : decode cX9_tells 36 = .ok (.aload_n 1, 1) := by decide +kernel
theorem dX9_tells_37 : decode cX9_tells 37 = .ok (.invokevirtual 60, 3) := by decide +kernel
theorem dX9_tells_40 : decode cX9_tells 40 = .ok (.if_icmp .ge 30, 3) := by decide +kernel
theorem dX9_tells_43 : decode cX9_tells 43 = .ok (.aload_n 0, 1) := by decide +kernel
theorem dX9_tells_44 : decode cX9_tells 44 = .ok (.getfield 9, 3) := by decide +kernel
theorem dX9_tells_47 : decode cX9_tells 47 = .ok (.aload_n 0, 1) := by decide +kernel
theorem dX9_tells_48 : decode cX9_tells 48 = .ok (.getfield 19, 3) := by decide +kernel
theorem dX9_tells_51 : decode cX9_tells 51 = .ok (.iload_n 2, 1) := by decide +kernel
theorem dX9_tells_52 : decode cX9_tells 52 = .ok (.iadd, 1) := by decide +kernel
theorem dX9_tells_53 : decode cX9_tells 53 = .ok (.iaload, 1) := by decide +kernel
theorem dX9_tells_54 : decode cX9_tells 54 = .ok (.aload_n 1, 1) := by decide +kernel
theorem dX9_tells_55 : decode cX9_tells 55 = .ok (.iload_n 2, 1) := by decide +kernel
theorem dX9_tells_56 : decode cX9_tells 56 = .ok (.invokevirtual 65, 3) := by decide +kernel
theorem dX9_tells_59 : decode cX9_tells 59 = .ok (.if_icmp .eq 5, 3) := by decide +kernel
theorem dX9_tells_62 : decode cX9_tells 62 = .ok (.iconst 0, 1) := by decide +kernel
theorem dX9_tells_63 : decode cX9_tells 63 = .ok (.ireturn, 1) := by decide +kernel
theorem dX9_tells_64 : decode cX9_tells 64 = .ok (.iinc 2 1, 3) := by decide +kernel
theorem dX9_tells_67 : decode cX9_tells 67 = .ok (.goto (-32), 3) := by decide +kernel
theorem dX9_tells_70 : decode cX9_tells 70 = .ok (.iconst 1, 1) := by decide +kernel
theorem dX9_tells_71 : decode cX9_tells 71 = .ok (.ireturn, 1) := by decide +kernel
theorem dX9_isQuoted_0 : decode cX9_isQuoted 0 = .ok (.aload_n 0, 1) := by decide +kernel
theorem dX9_isQuoted_1 : decode cX9_isQuoted 1 = .ok (.ldc 69, 2) := by decide +kernel
theorem dX9_isQuoted_3 : decode cX9_isQuoted 3 = .ok (.invokevirtual 71, 3) := by decide +kernel
theorem dX9_isQuoted_6 : decode cX9_isQuoted 6 = .ok (.ifCond .ne 111, 3) := by decide +kernel
theorem dX9_isQuoted_9 : decode cX9_isQuoted 9 = .ok (.aload_n 0, 1) := by decide +kernel
theorem dX9_isQuoted_10 : decode cX9_isQuoted 10 = .ok (.ldc 75, 2) := by decide +kernel
theorem dX9_isQuoted_12 : decode cX9_isQuoted 12 = .ok (.invokevirtual 71, 3) := by decide +kernel
theorem dX9_isQuoted_15 : decode cX9_isQuoted 15 = .ok (.ifCond .ne 102, 3) := by decide +kernel
theorem dX9_isQuoted_18 : decode cX9_isQuoted 18 = .ok (.aload_n 0, 1) := by decide +kernel
theorem dX9_isQuoted_19 : decode cX9_isQuoted 19 = .ok (.ldc 77, 2) := by decide +kernel
theorem dX9_isQuoted_21 : decode cX9_isQuoted 21 = .ok (.invokevirtual 71, 3) := by decide +kernel
theorem dX9_isQuoted_24 : decode cX9_isQuoted 24 = .ok (.ifCond .ne 93, 3) := by decide +kernel
theorem dX9_isQuoted_27 : decode cX9_isQuoted 27 = .ok (.aload_n 0, 1) := by decide +kernel
theorem dX9_isQuoted_28 : decode cX9_isQuoted 28 = .ok (.ldc 79, 2) := by decide +kernel
theorem dX9_isQuoted_30 : decode cX9_isQuoted 30 = .ok (.invokevirtual 71, 3) := by decide +kernel
theorem dX9_isQuoted_33 : decode cX9_isQuoted 33 = .ok (.ifCond .ne 84, 3) := by decide +kernel
theorem dX9_isQuoted_36 : decode cX9_isQuoted 36 = .ok (.aload_n 0, 1) := by decide +kernel
theorem dX9_isQuoted_37 : decode cX9_isQuoted 37 = .ok (.ldc 81, 2) := by decide +kernel
theorem dX9_isQuoted_39 : decode cX9_isQuoted 39 = .ok (.invokevirtual 71, 3) := by decide +kernel
theorem dX9_isQuoted_42 : decode cX9_isQuoted 42 = .ok (.ifCond .ne 75, 3) := by decide +kernel
theorem dX9_isQuoted_45 : decode cX9_isQuoted 45 = .ok (.aload_n 0, 1) := by decide +kernel
theorem dX9_isQuoted_46 : decode cX9_isQuoted 46 = .ok (.ldc 83, 2) := by decide +kernel
theorem dX9_isQuoted_48 : decode cX9_isQuoted 48 = .ok (.invokevirtual 71, 3) := by decide +kernel
theorem dX9_isQuoted_51 : decode cX9_isQuoted 51 = .ok (.ifCond .ne 66, 3) := by decide +kernel
theorem dX9_isQuoted_54 : decode cX9_isQuoted 54 = .ok (.aload_n 0, 1) := by decide +kernel
theorem dX9_isQuoted_55 : decode cX9_isQuoted 55 = .ok (.ldc 85, 2) := by decide +kernel
theorem dX9_isQuoted_57 : decode cX9_isQuoted 57 = .ok (.invokevirtual 71, 3) := by decide +kernel
theorem dX9_isQuoted_60 : decode cX9_isQuoted 60 = .ok (.ifCond .ne 57, 3) := by decide +kernel
theorem dX9_isQuoted_63 : decode cX9_isQuoted 63 = .ok (.aload_n 0, 1) := by decide +kernel
theorem dX9_isQuoted_64 : decode cX9_isQuoted 64 = .ok (.ldc 87, 2) := by decide +kernel
theorem dX9_isQuoted_66 : decode cX9_isQuoted 66 = .ok (.invokevirtual 71, 3) := by decide +kernel
theorem dX9_isQuoted_69 : decode cX9_isQuoted 69 = .ok (.ifCond .ne 48, 3) := by decide +kernel
theorem dX9_isQuoted_72 : decode cX9_isQuoted 72 = .ok (.aload_n 0, 1) := by decide +kernel
theorem dX9_isQuoted_73 : decode cX9_isQuoted 73 = .ok (.ldc 89, 2) := by decide +kernel
theorem dX9_isQuoted_75 : decode cX9_isQuoted 75 = .ok (.invokevirtual 71, 3) := by decide +kernel
theorem dX9_isQuoted_78 : decode cX9_isQuoted 78 = .ok (.ifCond .ne 39, 3) := by decide +kernel
theorem dX9_isQuoted_81 : decode cX9_isQuoted 81 = .ok (.aload_n 0, 1) := by decide +kernel
theorem dX9_isQuoted_82 : decode cX9_isQuoted 82 = .ok (.ldc 91, 2) := by decide +kernel
theorem dX9_isQuoted_84 : decode cX9_isQuoted 84 = .ok (.invokevirtual 71, 3) := by decide +kernel
theorem dX9_isQuoted_87 : decode cX9_isQuoted 87 = .ok (.ifCond .ne 30, 3) := by decide +kernel
theorem dX9_isQuoted_90 : decode cX9_isQuoted 90 = .ok (.aload_n 0, 1) := by decide +kernel
theorem dX9_isQuoted_91 : decode cX9_isQuoted 91 = .ok (.ldc 93, 2) := by decide +kernel
theorem dX9_isQuoted_93 : decode cX9_isQuoted 93 = .ok (.invokevirtual 71, 3) := by decide +kernel
theorem dX9_isQuoted_96 : decode cX9_isQuoted 96 = .ok (.ifCond .ne 21, 3) := by decide +kernel
theorem dX9_isQuoted_99 : decode cX9_isQuoted 99 = .ok (.aload_n 0, 1) := by decide +kernel
theorem dX9_isQuoted_100 : decode cX9_isQuoted 100 = .ok (.ldc 95, 2) := by decide +kernel
theorem dX9_isQuoted_102 : decode cX9_isQuoted 102 = .ok (.invokevirtual 71, 3) := by decide +kernel
theorem dX9_isQuoted_105 : decode cX9_isQuoted 105 = .ok (.ifCond .ne 12, 3) := by decide +kernel
theorem dX9_isQuoted_108 : decode cX9_isQuoted 108 = .ok (.aload_n 0, 1) := by decide +kernel
theorem dX9_isQuoted_109 : decode cX9_isQuoted 109 = .ok (.ldc 97, 2) := by decide +kernel
theorem dX9_isQuoted_111 : decode cX9_isQuoted 111 = .ok (.invokevirtual 71, 3) := by decide +kernel
theorem dX9_isQuoted_114 : decode cX9_isQuoted 114 = .ok (.ifCond .eq 7, 3) := by decide +kernel
theorem dX9_isQuoted_117 : decode cX9_isQuoted 117 = .ok (.iconst 1, 1) := by decide +kernel
theorem dX9_isQuoted_118 : decode cX9_isQuoted 118 = .ok (.goto 4, 3) := by decide +kernel
theorem dX9_isQuoted_121 : decode cX9_isQuoted 121 = .ok (.iconst 0, 1) := by decide +kernel
theorem dX9_isQuoted_122 : decode cX9_isQuoted 122 = .ok (.ireturn, 1) := by decide +kernel
theorem dX9_kindOf_0 : decode cX9_kindOf 0 = .ok (.iload_n 1, 1) := by decide +kernel
theorem dX9_kindOf_1 : decode cX9_kindOf 1 = .ok (.ifCond .ne 16, 3) := by decide +kernel
theorem dX9_kindOf_4 : decode cX9_kindOf 4 = .ok (.iload_n 0, 1) := by decide +kernel
theorem dX9_kindOf_5 : decode cX9_kindOf 5 = .ok (.iconst 1, 1) := by decide +kernel
theorem dX9_kindOf_6 : decode cX9_kindOf 6 = .ok (.if_icmp .lt 11, 3) := by decide +kernel
theorem dX9_kindOf_9 : decode cX9_kindOf 9 = .ok (.iload_n 0, 1) := by decide +kernel
theorem dX9_kindOf_10 : decode cX9_kindOf 10 = .ok (.bipush 8, 2) := by decide +kernel
theorem dX9_kindOf_12 : decode cX9_kindOf 12 = .ok (.if_icmp .gt 5, 3) := by decide +kernel
theorem dX9_kindOf_15 : decode cX9_kindOf 15 = .ok (.iconst 1, 1) := by decide +kernel
theorem dX9_kindOf_16 : decode cX9_kindOf 16 = .ok (.ireturn, 1) := by decide +kernel
theorem dX9_kindOf_17 : decode cX9_kindOf 17 = .ok (.iload_n 1, 1) := by decide +kernel
theorem dX9_kindOf_18 : decode cX9_kindOf 18 = .ok (.iload_n 0, 1) := by decide +kernel
theorem dX9_kindOf_19 : decode cX9_kindOf 19 = .ok (.if_icmp .ne 17, 3) := by decide +kernel
theorem dX9_kindOf_22 : decode cX9_kindOf 22 = .ok (.iload_n 0, 1) := by decide +kernel
theorem dX9_kindOf_23 : decode cX9_kindOf 23 = .ok (.iconst 1, 1) := by decide +kernel
theorem dX9_kindOf_24 : decode cX9_kindOf 24 = .ok (.if_icmp .lt 12, 3) := by decide +kernel
theorem dX9_kindOf_27 : decode cX9_kindOf 27 = .ok (.iload_n 0, 1) := by decide +kernel
theorem dX9_kindOf_28 : decode cX9_kindOf 28 = .ok (.iconst 3, 1) := by decide +kernel
theorem dX9_kindOf_29 : decode cX9_kindOf 29 = .ok (.if_icmp .gt 7, 3) := by decide +kernel
theorem dX9_kindOf_32 : decode cX9_kindOf 32 = .ok (.iconst 2, 1) := by decide +kernel
theorem dX9_kindOf_33 : decode cX9_kindOf 33 = .ok (.goto 4, 3) := by decide +kernel
theorem dX9_kindOf_36 : decode cX9_kindOf 36 = .ok (.iconst 4, 1) := by decide +kernel
theorem dX9_kindOf_37 : decode cX9_kindOf 37 = .ok (.ireturn, 1) := by decide +kernel
theorem dX9_isLetter_0 : decode cX9_isLetter 0 = .ok (.iload_n 0, 1) := by decide +kernel
theorem dX9_isLetter_1 : decode cX9_isLetter 1 = .ok (.bipush 97, 2) := by decide +kernel
theorem dX9_isLetter_3 : decode cX9_isLetter 3 = .ok (.if_icmp .lt 13, 3) := by decide +kernel
theorem dX9_isLetter_6 : decode cX9_isLetter 6 = .ok (.iload_n 0, 1) := by decide +kernel
theorem dX9_isLetter_7 : decode cX9_isLetter 7 = .ok (.bipush 122, 2) := by decide +kernel
theorem dX9_isLetter_9 : decode cX9_isLetter 9 = .ok (.if_icmp .gt 7, 3) := by decide +kernel
theorem dX9_isLetter_12 : decode cX9_isLetter 12 = .ok (.iconst 1, 1) := by decide +kernel
theorem dX9_isLetter_13 : decode cX9_isLetter 13 = .ok (.goto 4, 3) := by decide +kernel
theorem dX9_isLetter_16 : decode cX9_isLetter 16 = .ok (.iconst 0, 1) := by decide +kernel
theorem dX9_isLetter_17 : decode cX9_isLetter 17 = .ok (.ireturn, 1) := by decide +kernel
theorem dX9_isDigit_0 : decode cX9_isDigit 0 = .ok (.iload_n 0, 1) := by decide +kernel
theorem dX9_isDigit_1 : decode cX9_isDigit 1 = .ok (.bipush 48, 2) := by decide +kernel
theorem dX9_isDigit_3 : decode cX9_isDigit 3 = .ok (.if_icmp .lt 13, 3) := by decide +kernel
theorem dX9_isDigit_6 : decode cX9_isDigit 6 = .ok (.iload_n 0, 1) := by decide +kernel
theorem dX9_isDigit_7 : decode cX9_isDigit 7 = .ok (.bipush 57, 2) := by decide +kernel
theorem dX9_isDigit_9 : decode cX9_isDigit 9 = .ok (.if_icmp .gt 7, 3) := by decide +kernel
theorem dX9_isDigit_12 : decode cX9_isDigit 12 = .ok (.iconst 1, 1) := by decide +kernel
theorem dX9_isDigit_13 : decode cX9_isDigit 13 = .ok (.goto 4, 3) := by decide +kernel
theorem dX9_isDigit_16 : decode cX9_isDigit 16 = .ok (.iconst 0, 1) := by decide +kernel
theorem dX9_isDigit_17 : decode cX9_isDigit 17 = .ok (.ireturn, 1) := by decide +kernel
theorem dX9_packed_0 : decode cX9_packed 0 = .ok (.iload_n 1, 1) := by decide +kernel
theorem dX9_packed_1 : decode cX9_packed 1 = .ok (.ifCond .lt 19, 3) := by decide +kernel
theorem dX9_packed_4 : decode cX9_packed 4 = .ok (.iload_n 2, 1) := by decide +kernel
theorem dX9_packed_5 : decode cX9_packed 5 = .ok (.aload_n 0, 1) := by decide +kernel
theorem dX9_packed_6 : decode cX9_packed 6 = .ok (.getfield 15, 3) := by decide +kernel
theorem dX9_packed_9 : decode cX9_packed 9 = .ok (.if_icmp .gt 11, 3) := by decide +kernel
theorem dX9_packed_12 : decode cX9_packed 12 = .ok (.iload_n 2, 1) := by decide +kernel
theorem dX9_packed_13 : decode cX9_packed 13 = .ok (.iload_n 1, 1) := by decide +kernel
theorem dX9_packed_14 : decode cX9_packed 14 = .ok (.isub, 1) := by decide +kernel
theorem dX9_packed_15 : decode cX9_packed 15 = .ok (.bipush 8, 2) := by decide +kernel
theorem dX9_packed_17 : decode cX9_packed 17 = .ok (.if_icmp .le 5, 3) := by decide +kernel
theorem dX9_packed_20 : decode cX9_packed 20 = .ok (.lconst 0, 1) := by decide +kernel
theorem dX9_packed_21 : decode cX9_packed 21 = .ok (.lreturn, 1) := by decide +kernel
theorem dX9_packed_22 : decode cX9_packed 22 = .ok (.lconst 0, 1) := by decide +kernel
theorem dX9_packed_23 : decode cX9_packed 23 = .ok (.lstore_n 3, 1) := by decide +kernel
theorem dX9_packed_24 : decode cX9_packed 24 = .ok (.iload_n 1, 1) := by decide +kernel
theorem dX9_packed_25 : decode cX9_packed 25 = .ok (.istore 5, 2) := by decide +kernel
theorem dX9_packed_27 : decode cX9_packed 27 = .ok (.iload 5, 2) := by decide +kernel
theorem dX9_packed_29 : decode cX9_packed 29 = .ok (.iload_n 2, 1) := by decide +kernel
theorem dX9_packed_30 : decode cX9_packed 30 = .ok (.if_icmp .ge 42, 3) := by decide +kernel
theorem dX9_packed_33 : decode cX9_packed 33 = .ok (.aload_n 0, 1) := by decide +kernel
theorem dX9_packed_34 : decode cX9_packed 34 = .ok (.getfield 9, 3) := by decide +kernel
theorem dX9_packed_37 : decode cX9_packed 37 = .ok (.iload 5, 2) := by decide +kernel
theorem dX9_packed_39 : decode cX9_packed 39 = .ok (.iaload, 1) := by decide +kernel
theorem dX9_packed_40 : decode cX9_packed 40 = .ok (.invokestatic 38, 3) := by decide +kernel
theorem dX9_packed_43 : decode cX9_packed 43 = .ok (.ifCond .ne 5, 3) := by decide +kernel
theorem dX9_packed_46 : decode cX9_packed 46 = .ok (.lconst 0, 1) := by decide +kernel
theorem dX9_packed_47 : decode cX9_packed 47 = .ok (.lreturn, 1) := by decide +kernel
theorem dX9_packed_48 : decode cX9_packed 48 = .ok (.lload_n 3, 1) := by decide +kernel
theorem dX9_packed_49 : decode cX9_packed 49 = .ok (.iconst 5, 1) := by decide +kernel
theorem dX9_packed_50 : decode cX9_packed 50 = .ok (.lshl, 1) := by decide +kernel
theorem dX9_packed_51 : decode cX9_packed 51 = .ok (.aload_n 0, 1) := by decide +kernel
theorem dX9_packed_52 : decode cX9_packed 52 = .ok (.getfield 9, 3) := by decide +kernel
theorem dX9_packed_55 : decode cX9_packed 55 = .ok (.iload 5, 2) := by decide +kernel
theorem dX9_packed_57 : decode cX9_packed 57 = .ok (.iaload, 1) := by decide +kernel
theorem dX9_packed_58 : decode cX9_packed 58 = .ok (.bipush 97, 2) := by decide +kernel
theorem dX9_packed_60 : decode cX9_packed 60 = .ok (.isub, 1) := by decide +kernel
theorem dX9_packed_61 : decode cX9_packed 61 = .ok (.iconst 1, 1) := by decide +kernel
theorem dX9_packed_62 : decode cX9_packed 62 = .ok (.iadd, 1) := by decide +kernel
theorem dX9_packed_63 : decode cX9_packed 63 = .ok (.i2l, 1) := by decide +kernel
theorem dX9_packed_64 : decode cX9_packed 64 = .ok (.ladd, 1) := by decide +kernel
theorem dX9_packed_65 : decode cX9_packed 65 = .ok (.lstore_n 3, 1) := by decide +kernel
theorem dX9_packed_66 : decode cX9_packed 66 = .ok (.iinc 5 1, 3) := by decide +kernel
theorem dX9_packed_69 : decode cX9_packed 69 = .ok (.goto (-42), 3) := by decide +kernel
theorem dX9_packed_72 : decode cX9_packed 72 = .ok (.lload_n 3, 1) := by decide +kernel
theorem dX9_packed_73 : decode cX9_packed 73 = .ok (.lreturn, 1) := by decide +kernel
theorem dX9_lettersOf_0 : decode cX9_lettersOf 0 = .ok (.iconst 0, 1) := by decide +kernel
theorem dX9_lettersOf_1 : decode cX9_lettersOf 1 = .ok (.istore_n 2, 1) := by decide +kernel
theorem dX9_lettersOf_2 : decode cX9_lettersOf 2 = .ok (.iconst 0, 1) := by decide +kernel
theorem dX9_lettersOf_3 : decode cX9_lettersOf 3 = .ok (.istore_n 3, 1) := by decide +kernel
theorem dX9_lettersOf_4 : decode cX9_lettersOf 4 = .ok (.iload_n 3, 1) := by decide +kernel
theorem dX9_lettersOf_5 : decode cX9_lettersOf 5 = .ok (.bipush 8, 2) := by decide +kernel
theorem dX9_lettersOf_7 : decode cX9_lettersOf 7 = .ok (.if_icmp .ge 22, 3) := by decide +kernel
theorem dX9_lettersOf_10 : decode cX9_lettersOf 10 = .ok (.lload_n 0, 1) := by decide +kernel
theorem dX9_lettersOf_11 : decode cX9_lettersOf 11 = .ok (.iconst 5, 1) := by decide +kernel
theorem dX9_lettersOf_12 : decode cX9_lettersOf 12 = .ok (.iload_n 3, 1) := by decide +kernel
theorem dX9_lettersOf_13 : decode cX9_lettersOf 13 = .ok (.imul, 1) := by decide +kernel
theorem dX9_lettersOf_14 : decode cX9_lettersOf 14 = .ok (.lushr, 1) := by decide +kernel
theorem dX9_lettersOf_15 : decode cX9_lettersOf 15 = .ok (.lconst 0, 1) := by decide +kernel
theorem dX9_lettersOf_16 : decode cX9_lettersOf 16 = .ok (.lcmp, 1) := by decide +kernel
theorem dX9_lettersOf_17 : decode cX9_lettersOf 17 = .ok (.ifCond .eq 6, 3) := by decide +kernel
theorem dX9_lettersOf_20 : decode cX9_lettersOf 20 = .ok (.iinc 2 1, 3) := by decide +kernel
theorem dX9_lettersOf_23 : decode cX9_lettersOf 23 = .ok (.iinc 3 1, 3) := by decide +kernel
theorem dX9_lettersOf_26 : decode cX9_lettersOf 26 = .ok (.goto (-22), 3) := by decide +kernel
theorem dX9_lettersOf_29 : decode cX9_lettersOf 29 = .ok (.iload_n 2, 1) := by decide +kernel
theorem dX9_lettersOf_30 : decode cX9_lettersOf 30 = .ok (.ireturn, 1) := by decide +kernel
theorem dX10_init_0 : decode cX10_init 0 = .ok (.aload_n 0, 1) := by decide +kernel
theorem dX10_init_1 : decode cX10_init 1 = .ok (.invokespecial 3, 3) := by decide +kernel
theorem dX10_init_4 : decode cX10_init 4 = .ok (.aload_n 0, 1) := by decide +kernel
theorem dX10_init_5 : decode cX10_init 5 = .ok (.iconst 3, 1) := by decide +kernel
theorem dX10_init_6 : decode cX10_init 6 = .ok (.newarray .long, 2) := by decide +kernel
theorem dX10_init_8 : decode cX10_init 8 = .ok (.putfield 9, 3) := by decide +kernel
theorem dX10_init_11 : decode cX10_init 11 = .ok (.aload_n 0, 1) := by decide +kernel
theorem dX10_init_12 : decode cX10_init 12 = .ok (.iconst 3, 1) := by decide +kernel
theorem dX10_init_13 : decode cX10_init 13 = .ok (.newarray .int, 2) := by decide +kernel
theorem dX10_init_15 : decode cX10_init 15 = .ok (.putfield 15, 3) := by decide +kernel
theorem dX10_init_18 : decode cX10_init 18 = .ok (.aload_n 0, 1) := by decide +kernel
theorem dX10_init_19 : decode cX10_init 19 = .ok (.iconst 3, 1) := by decide +kernel
theorem dX10_init_20 : decode cX10_init 20 = .ok (.newarray .int, 2) := by decide +kernel
theorem dX10_init_22 : decode cX10_init 22 = .ok (.putfield 19, 3) := by decide +kernel
theorem dX10_init_25 : decode cX10_init 25 = .ok (.aload_n 0, 1) := by decide +kernel
theorem dX10_init_26 : decode cX10_init 26 = .ok (.iconst 3, 1) := by decide +kernel
theorem dX10_init_27 : decode cX10_init 27 = .ok (.newarray .int, 2) := by decide +kernel
theorem dX10_init_29 : decode cX10_init 29 = .ok (.putfield 22, 3) := by decide +kernel
theorem dX10_init_32 : decode cX10_init 32 = .ok (.aload_n 0, 1) := by decide +kernel
theorem dX10_init_33 : decode cX10_init 33 = .ok (.bipush 12, 2) := by decide +kernel
theorem dX10_init_35 : decode cX10_init 35 = .ok (.newarray .int, 2) := by decide +kernel
theorem dX10_init_37 : decode cX10_init 37 = .ok (.putfield 25, 3) := by decide +kernel
theorem dX10_init_40 : decode cX10_init 40 = .ok (.aload_n 0, 1) := by decide +kernel
theorem dX10_init_41 : decode cX10_init 41 = .ok (.bipush 12, 2) := by decide +kernel
theorem dX10_init_43 : decode cX10_init 43 = .ok (.newarray .int, 2) := by decide +kernel
theorem dX10_init_45 : decode cX10_init 45 = .ok (.putfield 28, 3) := by decide +kernel
theorem dX10_init_48 : decode cX10_init 48 = .ok (.aload_n 0, 1) := by decide +kernel
theorem dX10_init_49 : decode cX10_init 49 = .ok (.bipush 13, 2) := by decide +kernel
theorem dX10_init_51 : decode cX10_init 51 = .ok (.newarray .int, 2) := by decide +kernel
theorem dX10_init_53 : decode cX10_init 53 = .ok (.putfield 31, 3) := by decide +kernel
theorem dX10_init_56 : decode cX10_init 56 = .ok (.aload_n 0, 1) := by decide +kernel
theorem dX10_init_57 : decode cX10_init 57 = .ok (.bipush 13, 2) := by decide +kernel
theorem dX10_init_59 : decode cX10_init 59 = .ok (.newarray .int, 2) := by decide +kernel
theorem dX10_init_61 : decode cX10_init 61 = .ok (.putfield 34, 3) := by decide +kernel
theorem dX10_init_64 : decode cX10_init 64 = .ok (.aload_n 0, 1) := by decide +kernel
theorem dX10_init_65 : decode cX10_init 65 = .ok (.bipush 13, 2) := by decide +kernel
theorem dX10_init_67 : decode cX10_init 67 = .ok (.newarray .int, 2) := by decide +kernel
theorem dX10_init_69 : decode cX10_init 69 = .ok (.putfield 37, 3) := by decide +kernel
theorem dX10_init_72 : decode cX10_init 72 = .ok (.return_, 1) := by decide +kernel
theorem dX10_clear_0 : decode cX10_clear 0 = .ok (.aload_n 0, 1) := by decide +kernel
theorem dX10_clear_1 : decode cX10_clear 1 = .ok (.iconst 0, 1) := by decide +kernel
theorem dX10_clear_2 : decode cX10_clear 2 = .ok (.putfield 40, 3) := by decide +kernel
theorem dX10_clear_5 : decode cX10_clear 5 = .ok (.aload_n 0, 1) := by decide +kernel
theorem dX10_clear_6 : decode cX10_clear 6 = .ok (.iconst 0, 1) := by decide +kernel
theorem dX10_clear_7 : decode cX10_clear 7 = .ok (.putfield 44, 3) := by decide +kernel
theorem dX10_clear_10 : decode cX10_clear 10 = .ok (.aload_n 0, 1) := by decide +kernel
theorem dX10_clear_11 : decode cX10_clear 11 = .ok (.iconst 0, 1) := by decide +kernel
theorem dX10_clear_12 : decode cX10_clear 12 = .ok (.putfield 47, 3) := by decide +kernel
theorem dX10_clear_15 : decode cX10_clear 15 = .ok (.return_, 1) := by decide +kernel
theorem dX10_hasTank_0 : decode cX10_hasTank 0 = .ok (.iload_n 1, 1) := by decide +kernel
theorem dX10_hasTank_1 : decode cX10_hasTank 1 = .ok (.ifCond .lt 15, 3) := by decide +kernel
theorem dX10_hasTank_4 : decode cX10_hasTank 4 = .ok (.iload_n 1, 1) := by decide +kernel
theorem dX10_hasTank_5 : decode cX10_hasTank 5 = .ok (.aload_n 0, 1) := by decide +kernel
theorem dX10_hasTank_6 : decode cX10_hasTank 6 = .ok (.getfield 40, 3) := by decide +kernel
theorem dX10_hasTank_9 : decode cX10_hasTank 9 = .ok (.if_icmp .ge 7, 3) := by decide +kernel
theorem dX10_hasTank_12 : decode cX10_hasTank 12 = .ok (.iconst 1, 1) := by decide +kernel
theorem dX10_hasTank_13 : decode cX10_hasTank 13 = .ok (.goto 4, 3) := by decide +kernel
theorem dX10_hasTank_16 : decode cX10_hasTank 16 = .ok (.iconst 0, 1) := by decide +kernel
theorem dX10_hasTank_17 : decode cX10_hasTank 17 = .ok (.ireturn, 1) := by decide +kernel
theorem dX10_tankCalled_0 : decode cX10_tankCalled 0 = .ok (.iconst 0, 1) := by decide +kernel
theorem dX10_tankCalled_1 : decode cX10_tankCalled 1 = .ok (.istore_n 3, 1) := by decide +kernel
theorem dX10_tankCalled_2 : decode cX10_tankCalled 2 = .ok (.iload_n 3, 1) := by decide +kernel
theorem dX10_tankCalled_3 : decode cX10_tankCalled 3 = .ok (.aload_n 0, 1) := by decide +kernel
theorem dX10_tankCalled_4 : decode cX10_tankCalled 4 = .ok (.getfield 40, 3) := by decide +kernel
theorem dX10_tankCalled_7 : decode cX10_tankCalled 7 = .ok (.if_icmp .ge 22, 3) := by decide +kernel
theorem dX10_tankCalled_10 : decode cX10_tankCalled 10 = .ok (.aload_n 0, 1) := by decide +kernel
theorem dX10_tankCalled_11 : decode cX10_tankCalled 11 = .ok (.getfield 9, 3) := by decide +kernel
theorem dX10_tankCalled_14 : decode cX10_tankCalled 14 = .ok (.iload_n 3, 1) := by decide +kernel
theorem dX10_tankCalled_15 : decode cX10_tankCalled 15 = .ok (.laload, 1) := by decide +kernel
theorem dX10_tankCalled_16 : decode cX10_tankCalled 16 = .ok (.lload_n 1, 1) := by decide +kernel
theorem dX10_tankCalled_17 : decode cX10_tankCalled 17 = .ok (.lcmp, 1) := by decide +kernel
theorem dX10_tankCalled_18 : decode cX10_tankCalled 18 = .ok (.ifCond .ne 5, 3) := by decide +kernel
theorem dX10_tankCalled_21 : decode cX10_tankCalled 21 = .ok (.iload_n 3, 1) := by decide +kernel
theorem dX10_tankCalled_22 : decode cX10_tankCalled 22 = .ok (.ireturn, 1) := by decide +kernel
theorem dX10_tankCalled_23 : decode cX10_tankCalled 23 = .ok (.iinc 3 1, 3) := by decide +kernel
theorem dX10_tankCalled_26 : decode cX10_tankCalled 26 = .ok (.goto (-24), 3) := by decide +kernel
theorem dX10_tankCalled_29 : decode cX10_tankCalled 29 = .ok (.iconst (-1), 1) := by decide +kernel
theorem dX10_tankCalled_30 : decode cX10_tankCalled 30 = .ok (.ireturn, 1) := by decide +kernel
theorem dX10_leftIn_0 : decode cX10_leftIn 0 = .ok (.aload_n 0, 1) := by decide +kernel
theorem dX10_leftIn_1 : decode cX10_leftIn 1 = .ok (.iload_n 1, 1) := by decide +kernel
theorem dX10_leftIn_2 : decode cX10_leftIn 2 = .ok (.invokevirtual 56, 3) := by decide +kernel
theorem dX10_leftIn_5 : decode cX10_leftIn 5 = .ok (.ifCond .eq 12, 3) := by decide +kernel
theorem dX10_leftIn_8 : decode cX10_leftIn 8 = .ok (.aload_n 0, 1) := by decide +kernel
theorem dX10_leftIn_9 : decode cX10_leftIn 9 = .ok (.getfield 22, 3) := by decide +kernel
theorem dX10_leftIn_12 : decode cX10_leftIn 12 = .ok (.iload_n 1, 1) := by decide +kernel
theorem dX10_leftIn_13 : decode cX10_leftIn 13 = .ok (.iaload, 1) := by decide +kernel
theorem dX10_leftIn_14 : decode cX10_leftIn 14 = .ok (.goto 4, 3) := by decide +kernel
theorem dX10_leftIn_17 : decode cX10_leftIn 17 = .ok (.iconst 0, 1) := by decide +kernel
theorem dX10_leftIn_18 : decode cX10_leftIn 18 = .ok (.ireturn, 1) := by decide +kernel
theorem dX10_addTank_0 : decode cX10_addTank 0 = .ok (.aload_n 0, 1) := by decide +kernel
theorem dX10_addTank_1 : decode cX10_addTank 1 = .ok (.getfield 40, 3) := by decide +kernel
theorem dX10_addTank_4 : decode cX10_addTank 4 = .ok (.iconst 3, 1) := by decide +kernel
theorem dX10_addTank_5 : decode cX10_addTank 5 = .ok (.if_icmp .lt 4, 3) := by decide +kernel
theorem dX10_addTank_8 : decode cX10_addTank 8 = .ok (.return_, 1) := by decide +kernel
theorem dX10_addTank_9 : decode cX10_addTank 9 = .ok (.aload_n 0, 1) := by decide +kernel
theorem dX10_addTank_10 : decode cX10_addTank 10 = .ok (.getfield 9, 3) := by decide +kernel
theorem dX10_addTank_13 : decode cX10_addTank 13 = .ok (.aload_n 0, 1) := by decide +kernel
theorem dX10_addTank_14 : decode cX10_addTank 14 = .ok (.getfield 40, 3) := by decide +kernel
theorem dX10_addTank_17 : decode cX10_addTank 17 = .ok (.lload_n 1, 1) := by decide +kernel
theorem dX10_addTank_18 : decode cX10_addTank 18 = .ok (.lastore, 1) := by decide +kernel
theorem dX10_addTank_19 : decode cX10_addTank 19 = .ok (.aload_n 0, 1) := by decide +kernel
theorem dX10_addTank_20 : decode cX10_addTank 20 = .ok (.getfield 15, 3) := by decide +kernel
theorem dX10_addTank_23 : decode cX10_addTank 23 = .ok (.aload_n 0, 1) := by decide +kernel
theorem dX10_addTank_24 : decode cX10_addTank 24 = .ok (.getfield 40, 3) := by decide +kernel
theorem dX10_addTank_27 : decode cX10_addTank 27 = .ok (.iload_n 3, 1) := by decide +kernel
theorem dX10_addTank_28 : decode cX10_addTank 28 = .ok (.iastore, 1) := by decide +kernel
theorem dX10_addTank_29 : decode cX10_addTank 29 = .ok (.aload_n 0, 1) := by decide +kernel
theorem dX10_addTank_30 : decode cX10_addTank 30 = .ok (.getfield 19, 3) := by decide +kernel
theorem dX10_addTank_33 : decode cX10_addTank 33 = .ok (.aload_n 0, 1) := by decide +kernel
theorem dX10_addTank_34 : decode cX10_addTank 34 = .ok (.getfield 40, 3) := by decide +kernel
theorem dX10_addTank_37 : decode cX10_addTank 37 = .ok (.iload 4, 2) := by decide +kernel
theorem dX10_addTank_39 : decode cX10_addTank 39 = .ok (.iastore, 1) := by decide +kernel
theorem dX10_addTank_40 : decode cX10_addTank 40 = .ok (.aload_n 0, 1) := by decide +kernel
theorem dX10_addTank_41 : decode cX10_addTank 41 = .ok (.getfield 22, 3) := by decide +kernel
theorem dX10_addTank_44 : decode cX10_addTank 44 = .ok (.aload_n 0, 1) := by decide +kernel
theorem dX10_addTank_45 : decode cX10_addTank 45 = .ok (.getfield 40, 3) := by decide +kernel
theorem dX10_addTank_48 : decode cX10_addTank 48 = .ok (.iload 4, 2) := by decide +kernel
theorem dX10_addTank_50 : decode cX10_addTank 50 = .ok (.iastore, 1) := by decide +kernel
theorem dX10_addTank_51 : decode cX10_addTank 51 = .ok (.aload_n 0, 1) := by decide +kernel
theorem dX10_addTank_52 : decode cX10_addTank 52 = .ok (.dup, 1) := by decide +kernel
theorem dX10_addTank_53 : decode cX10_addTank 53 = .ok (.getfield 40, 3) := by decide +kernel
theorem dX10_addTank_56 : decode cX10_addTank 56 = .ok (.iconst 1, 1) := by decide +kernel
theorem dX10_addTank_57 : decode cX10_addTank 57 = .ok (.iadd, 1) := by decide +kernel
theorem dX10_addTank_58 : decode cX10_addTank 58 = .ok (.putfield 40, 3) := by decide +kernel
theorem dX10_addTank_61 : decode cX10_addTank 61 = .ok (.return_, 1) := by decide +kernel
theorem dX10_addBurn_0 : decode cX10_addBurn 0 = .ok (.aload_n 0, 1) := by decide +kernel
theorem dX10_addBurn_1 : decode cX10_addBurn 1 = .ok (.getfield 44, 3) := by decide +kernel
theorem dX10_addBurn_4 : decode cX10_addBurn 4 = .ok (.bipush 12, 2) := by decide +kernel
theorem dX10_addBurn_6 : decode cX10_addBurn 6 = .ok (.if_icmp .ge 11, 3) := by decide +kernel
theorem dX10_addBurn_9 : decode cX10_addBurn 9 = .ok (.aload_n 0, 1) := by decide +kernel
theorem dX10_addBurn_10 : decode cX10_addBurn 10 = .ok (.iload_n 1, 1) := by decide +kernel
theorem dX10_addBurn_11 : decode cX10_addBurn 11 = .ok (.invokevirtual 56, 3) := by decide +kernel
theorem dX10_addBurn_14 : decode cX10_addBurn 14 = .ok (.ifCond .ne 4, 3) := by decide +kernel
theorem dX10_addBurn_17 : decode cX10_addBurn 17 = .ok (.return_, 1) := by decide +kernel
theorem dX10_addBurn_18 : decode cX10_addBurn 18 = .ok (.aload_n 0, 1) := by decide +kernel
theorem dX10_addBurn_19 : decode cX10_addBurn 19 = .ok (.getfield 22, 3) := by decide +kernel
theorem dX10_addBurn_22 : decode cX10_addBurn 22 = .ok (.iload_n 1, 1) := by decide +kernel
theorem dX10_addBurn_23 : decode cX10_addBurn 23 = .ok (.dup2, 1) := by decide +kernel
theorem dX10_addBurn_24 : decode cX10_addBurn 24 = .ok (.iaload, 1) := by decide +kernel
theorem dX10_addBurn_25 : decode cX10_addBurn 25 = .ok (.iload_n 2, 1) := by decide +kernel
theorem dX10_addBurn_26 : decode cX10_addBurn 26 = .ok (.isub, 1) := by decide +kernel
theorem dX10_addBurn_27 : decode cX10_addBurn 27 = .ok (.iastore, 1) := by decide +kernel
theorem dX10_addBurn_28 : decode cX10_addBurn 28 = .ok (.aload_n 0, 1) := by decide +kernel
theorem dX10_addBurn_29 : decode cX10_addBurn 29 = .ok (.getfield 25, 3) := by decide +kernel
theorem dX10_addBurn_32 : decode cX10_addBurn 32 = .ok (.aload_n 0, 1) := by decide +kernel
theorem dX10_addBurn_33 : decode cX10_addBurn 33 = .ok (.getfield 44, 3) := by decide +kernel
theorem dX10_addBurn_36 : decode cX10_addBurn 36 = .ok (.iload_n 1, 1) := by decide +kernel
theorem dX10_addBurn_37 : decode cX10_addBurn 37 = .ok (.iastore, 1) := by decide +kernel
theorem dX10_addBurn_38 : decode cX10_addBurn 38 = .ok (.aload_n 0, 1) := by decide +kernel
theorem dX10_addBurn_39 : decode cX10_addBurn 39 = .ok (.getfield 28, 3) := by decide +kernel
theorem dX10_addBurn_42 : decode cX10_addBurn 42 = .ok (.aload_n 0, 1) := by decide +kernel
theorem dX10_addBurn_43 : decode cX10_addBurn 43 = .ok (.getfield 44, 3) := by decide +kernel
theorem dX10_addBurn_46 : decode cX10_addBurn 46 = .ok (.iload_n 2, 1) := by decide +kernel
