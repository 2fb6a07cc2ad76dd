theorem dX0_init_0 : decode cX0_init 0 = .ok (.aload_n 0, 1) := by decide +kernel
theorem dX0_init_1 : decode cX0_init 1 = .ok (.invokespecial 3, 3) := by decide +kernel
theorem dX0_init_4 : decode cX0_init 4 = .ok (.aload_n 0, 1) := by decide +kernel
theorem dX0_init_5 : decode cX0_init 5 = .ok (.iconst 5, 1) := by decide +kernel
theorem dX0_init_6 : decode cX0_init 6 = .ok (.newarray .long, 2) := by decide +kernel
theorem dX0_init_8 : decode cX0_init 8 = .ok (.putfield 9, 3) := by decide +kernel
theorem dX0_init_11 : decode cX0_init 11 = .ok (.aload_n 0, 1) := by decide +kernel
theorem dX0_init_12 : decode cX0_init 12 = .ok (.iconst 5, 1) := by decide +kernel
theorem dX0_init_13 : decode cX0_init 13 = .ok (.newarray .int, 2) := by decide +kernel
theorem dX0_init_15 : decode cX0_init 15 = .ok (.putfield 15, 3) := by decide +kernel
theorem dX0_init_18 : decode cX0_init 18 = .ok (.aload_n 0, 1) := by decide +kernel
theorem dX0_init_19 : decode cX0_init 19 = .ok (.iconst 5, 1) := by decide +kernel
theorem dX0_init_20 : decode cX0_init 20 = .ok (.newarray .int, 2) := by decide +kernel
theorem dX0_init_22 : decode cX0_init 22 = .ok (.putfield 19, 3) := by decide +kernel
theorem dX0_init_25 : decode cX0_init 25 = .ok (.aload_n 0, 1) := by decide +kernel
theorem dX0_init_26 : decode cX0_init 26 = .ok (.iconst 5, 1) := by decide +kernel
theorem dX0_init_27 : decode cX0_init 27 = .ok (.newarray .int, 2) := by decide +kernel
theorem dX0_init_29 : decode cX0_init 29 = .ok (.putfield 22, 3) := by decide +kernel
theorem dX0_init_32 : decode cX0_init 32 = .ok (.aload_n 0, 1) := by decide +kernel
theorem dX0_init_33 : decode cX0_init 33 = .ok (.iconst 2, 1) := by decide +kernel
theorem dX0_init_34 : decode cX0_init 34 = .ok (.newarray .int, 2) := by decide +kernel
theorem dX0_init_36 : decode cX0_init 36 = .ok (.putfield 25, 3) := by decide +kernel
theorem dX0_init_39 : decode cX0_init 39 = .ok (.return_, 1) := by decide +kernel
theorem dX0_clear_0 : decode cX0_clear 0 = .ok (.aload_n 0, 1) := by decide +kernel
theorem dX0_clear_1 : decode cX0_clear 1 = .ok (.iconst 0, 1) := by decide +kernel
theorem dX0_clear_2 : decode cX0_clear 2 = .ok (.putfield 28, 3) := by decide +kernel
theorem dX0_clear_5 : decode cX0_clear 5 = .ok (.aload_n 0, 1) := by decide +kernel
theorem dX0_clear_6 : decode cX0_clear 6 = .ok (.iconst 0, 1) := by decide +kernel
theorem dX0_clear_7 : decode cX0_clear 7 = .ok (.putfield 32, 3) := by decide +kernel
theorem dX0_clear_10 : decode cX0_clear 10 = .ok (.aload_n 0, 1) := by decide +kernel
theorem dX0_clear_11 : decode cX0_clear 11 = .ok (.invokevirtual 35, 3) := by decide +kernel
theorem dX0_clear_14 : decode cX0_clear 14 = .ok (.return_, 1) := by decide +kernel
theorem dX0_clearPlaces_0 : decode cX0_clearPlaces 0 = .ok (.iconst 0, 1) := by decide +kernel
theorem dX0_clearPlaces_1 : decode cX0_clearPlaces 1 = .ok (.istore_n 1, 1) := by decide +kernel
theorem dX0_clearPlaces_2 : decode cX0_clearPlaces 2 = .ok (.iload_n 1, 1) := by decide +kernel
theorem dX0_clearPlaces_3 : decode cX0_clearPlaces 3 = .ok (.iconst 5, 1) := by decide +kernel
theorem dX0_clearPlaces_4 : decode cX0_clearPlaces 4 = .ok (.if_icmp .ge 16, 3) := by decide +kernel
theorem dX0_clearPlaces_7 : decode cX0_clearPlaces 7 = .ok (.aload_n 0, 1) := by decide +kernel
theorem dX0_clearPlaces_8 : decode cX0_clearPlaces 8 = .ok (.getfield 22, 3) := by decide +kernel
theorem dX0_clearPlaces_11 : decode cX0_clearPlaces 11 = .ok (.iload_n 1, 1) := by decide +kernel
theorem dX0_clearPlaces_12 : decode cX0_clearPlaces 12 = .ok (.iconst (-1), 1) := by decide +kernel
theorem dX0_clearPlaces_13 : decode cX0_clearPlaces 13 = .ok (.iastore, 1) := by decide +kernel
theorem dX0_clearPlaces_14 : decode cX0_clearPlaces 14 = .ok (.iinc 1 1, 3) := by decide +kernel
theorem dX0_clearPlaces_17 : decode cX0_clearPlaces 17 = .ok (.goto (-15), 3) := by decide +kernel
theorem dX0_clearPlaces_20 : decode cX0_clearPlaces 20 = .ok (.iconst 0, 1) := by decide +kernel
theorem dX0_clearPlaces_21 : decode cX0_clearPlaces 21 = .ok (.istore_n 1, 1) := by decide +kernel
theorem dX0_clearPlaces_22 : decode cX0_clearPlaces 22 = .ok (.iload_n 1, 1) := by decide +kernel
theorem dX0_clearPlaces_23 : decode cX0_clearPlaces 23 = .ok (.iconst 2, 1) := by decide +kernel
theorem dX0_clearPlaces_24 : decode cX0_clearPlaces 24 = .ok (.if_icmp .ge 16, 3) := by decide +kernel
theorem dX0_clearPlaces_27 : decode cX0_clearPlaces 27 = .ok (.aload_n 0, 1) := by decide +kernel
theorem dX0_clearPlaces_28 : decode cX0_clearPlaces 28 = .ok (.getfield 25, 3) := by decide +kernel
theorem dX0_clearPlaces_31 : decode cX0_clearPlaces 31 = .ok (.iload_n 1, 1) := by decide +kernel
theorem dX0_clearPlaces_32 : decode cX0_clearPlaces 32 = .ok (.iconst 0, 1) := by decide +kernel
theorem dX0_clearPlaces_33 : decode cX0_clearPlaces 33 = .ok (.iastore, 1) := by decide +kernel
theorem dX0_clearPlaces_34 : decode cX0_clearPlaces 34 = .ok (.iinc 1 1, 3) := by decide +kernel
theorem dX0_clearPlaces_37 : decode cX0_clearPlaces 37 = .ok (.goto (-15), 3) := by decide +kernel
theorem dX0_clearPlaces_40 : decode cX0_clearPlaces 40 = .ok (.return_, 1) := by decide +kernel
theorem dX0_copyFrom_0 : decode cX0_copyFrom 0 = .ok (.aload_n 0, 1) := by decide +kernel
theorem dX0_copyFrom_1 : decode cX0_copyFrom 1 = .ok (.aload_n 1, 1) := by decide +kernel
theorem dX0_copyFrom_2 : decode cX0_copyFrom 2 = .ok (.getfield 28, 3) := by decide +kernel
theorem dX0_copyFrom_5 : decode cX0_copyFrom 5 = .ok (.putfield 28, 3) := by decide +kernel
theorem dX0_copyFrom_8 : decode cX0_copyFrom 8 = .ok (.aload_n 1, 1) := by decide +kernel
theorem dX0_copyFrom_9 : decode cX0_copyFrom 9 = .ok (.getfield 9, 3) := by decide +kernel
theorem dX0_copyFrom_12 : decode cX0_copyFrom 12 = .ok (.iconst 0, 1) := by decide +kernel
theorem dX0_copyFrom_13 : decode cX0_copyFrom 13 = .ok (.aload_n 0, 1) := by decide +kernel
theorem dX0_copyFrom_14 : decode cX0_copyFrom 14 = .ok (.getfield 9, 3) := by decide +kernel
theorem dX0_copyFrom_17 : decode cX0_copyFrom 17 = .ok (.iconst 0, 1) := by decide +kernel
theorem dX0_copyFrom_18 : decode cX0_copyFrom 18 = .ok (.iconst 5, 1) := by decide +kernel
theorem dX0_copyFrom_19 : decode cX0_copyFrom 19 = .ok (.invokestatic 38, 3) := by decide +kernel
theorem dX0_copyFrom_22 : decode cX0_copyFrom 22 = .ok (.aload_n 1, 1) := by decide +kernel
theorem dX0_copyFrom_23 : decode cX0_copyFrom 23 = .ok (.getfield 15, 3) := by decide +kernel
theorem dX0_copyFrom_26 : decode cX0_copyFrom 26 = .ok (.iconst 0, 1) := by decide +kernel
theorem dX0_copyFrom_27 : decode cX0_copyFrom 27 = .ok (.aload_n 0, 1) := by decide +kernel
theorem dX0_copyFrom_28 : decode cX0_copyFrom 28 = .ok (.getfield 15, 3) := by decide +kernel
theorem dX0_copyFrom_31 : decode cX0_copyFrom 31 = .ok (.iconst 0, 1) := by decide +kernel
theorem dX0_copyFrom_32 : decode cX0_copyFrom 32 = .ok (.iconst 5, 1) := by decide +kernel
theorem dX0_copyFrom_33 : decode cX0_copyFrom 33 = .ok (.invokestatic 38, 3) := by decide +kernel
theorem dX0_copyFrom_36 : decode cX0_copyFrom 36 = .ok (.aload_n 1, 1) := by decide +kernel
theorem dX0_copyFrom_37 : decode cX0_copyFrom 37 = .ok (.getfield 19, 3) := by decide +kernel
theorem dX0_copyFrom_40 : decode cX0_copyFrom 40 = .ok (.iconst 0, 1) := by decide +kernel
theorem dX0_copyFrom_41 : decode cX0_copyFrom 41 = .ok (.aload_n 0, 1) := by decide +kernel
theorem dX0_copyFrom_42 : decode cX0_copyFrom 42 = .ok (.getfield 19, 3) := by decide +kernel
theorem dX0_copyFrom_45 : decode cX0_copyFrom 45 = .ok (.iconst 0, 1) := by decide +kernel
theorem dX0_copyFrom_46 : decode cX0_copyFrom 46 = .ok (.iconst 5, 1) := by decide +kernel
theorem dX0_copyFrom_47 : decode cX0_copyFrom 47 = .ok (.invokestatic 38, 3) := by decide +kernel
theorem dX0_copyFrom_50 : decode cX0_copyFrom 50 = .ok (.aload_n 1, 1) := by decide +kernel
theorem dX0_copyFrom_51 : decode cX0_copyFrom 51 = .ok (.getfield 22, 3) := by decide +kernel
theorem dX0_copyFrom_54 : decode cX0_copyFrom 54 = .ok (.iconst 0, 1) := by decide +kernel
theorem dX0_copyFrom_55 : decode cX0_copyFrom 55 = .ok (.aload_n 0, 1) := by decide +kernel
theorem dX0_copyFrom_56 : decode cX0_copyFrom 56 = .ok (.getfield 22, 3) := by decide +kernel
theorem dX0_copyFrom_59 : decode cX0_copyFrom 59 = .ok (.iconst 0, 1) := by decide +kernel
theorem dX0_copyFrom_60 : decode cX0_copyFrom 60 = .ok (.iconst 5, 1) := by decide +kernel
theorem dX0_copyFrom_61 : decode cX0_copyFrom 61 = .ok (.invokestatic 38, 3) := by decide +kernel
theorem dX0_copyFrom_64 : decode cX0_copyFrom 64 = .ok (.aload_n 0, 1) := by decide +kernel
theorem dX0_copyFrom_65 : decode cX0_copyFrom 65 = .ok (.aload_n 1, 1) := by decide +kernel
theorem dX0_copyFrom_66 : decode cX0_copyFrom 66 = .ok (.getfield 32, 3) := by decide +kernel
theorem dX0_copyFrom_69 : decode cX0_copyFrom 69 = .ok (.putfield 32, 3) := by decide +kernel
theorem dX0_copyFrom_72 : decode cX0_copyFrom 72 = .ok (.aload_n 1, 1) := by decide +kernel
theorem dX0_copyFrom_73 : decode cX0_copyFrom 73 = .ok (.getfield 25, 3) := by decide +kernel
theorem dX0_copyFrom_76 : decode cX0_copyFrom 76 = .ok (.iconst 0, 1) := by decide +kernel
theorem dX0_copyFrom_77 : decode cX0_copyFrom 77 = .ok (.aload_n 0, 1) := by decide +kernel
theorem dX0_copyFrom_78 : decode cX0_copyFrom 78 = .ok (.getfield 25, 3) := by decide +kernel
theorem dX0_copyFrom_81 : decode cX0_copyFrom 81 = .ok (.iconst 0, 1) := by decide +kernel
theorem dX0_copyFrom_82 : decode cX0_copyFrom 82 = .ok (.iconst 2, 1) := by decide +kernel
theorem dX0_copyFrom_83 : decode cX0_copyFrom 83 = .ok (.invokestatic 38, 3) := by decide +kernel
theorem dX0_copyFrom_86 : decode cX0_copyFrom 86 = .ok (.return_, 1) := by decide +kernel
theorem dX0_has_0 : decode cX0_has 0 = .ok (.iload_n 1, 1) := by decide +kernel
theorem dX0_has_1 : decode cX0_has 1 = .ok (.ifCond .lt 15, 3) := by decide +kernel
theorem dX0_has_4 : decode cX0_has 4 = .ok (.iload_n 1, 1) := by decide +kernel
theorem dX0_has_5 : decode cX0_has 5 = .ok (.aload_n 0, 1) := by decide +kernel
theorem dX0_has_6 : decode cX0_has 6 = .ok (.getfield 28, 3) := by decide +kernel
theorem dX0_has_9 : decode cX0_has 9 = .ok (.if_icmp .ge 7, 3) := by decide +kernel
theorem dX0_has_12 : decode cX0_has 12 = .ok (.iconst 1, 1) := by decide +kernel
theorem dX0_has_13 : decode cX0_has 13 = .ok (.goto 4, 3) := by decide +kernel
theorem dX0_has_16 : decode cX0_has 16 = .ok (.iconst 0, 1) := by decide +kernel
theorem dX0_has_17 : decode cX0_has 17 = .ok (.ireturn, 1) := by decide +kernel
theorem dX0_called_0 : decode cX0_called 0 = .ok (.iconst 0, 1) := by decide +kernel
theorem dX0_called_1 : decode cX0_called 1 = .ok (.istore_n 3, 1) := by decide +kernel
theorem dX0_called_2 : decode cX0_called 2 = .ok (.iload_n 3, 1) := by decide +kernel
theorem dX0_called_3 : decode cX0_called 3 = .ok (.aload_n 0, 1) := by decide +kernel
theorem dX0_called_4 : decode cX0_called 4 = .ok (.getfield 28, 3) := by decide +kernel
theorem dX0_called_7 : decode cX0_called 7 = .ok (.if_icmp .ge 28, 3) := by decide +kernel
theorem dX0_called_10 : decode cX0_called 10 = .ok (.lload_n 1, 1) := by decide +kernel
theorem dX0_called_11 : decode cX0_called 11 = .ok (.lconst 0, 1) := by decide +kernel
theorem dX0_called_12 : decode cX0_called 12 = .ok (.lcmp, 1) := by decide +kernel
theorem dX0_called_13 : decode cX0_called 13 = .ok (.ifCond .eq 16, 3) := by decide +kernel
theorem dX0_called_16 : decode cX0_called 16 = .ok (.aload_n 0, 1) := by decide +kernel
theorem dX0_called_17 : decode cX0_called 17 = .ok (.getfield 9, 3) := by decide +kernel
theorem dX0_called_20 : decode cX0_called 20 = .ok (.iload_n 3, 1) := by decide +kernel
theorem dX0_called_21 : decode cX0_called 21 = .ok (.laload, 1) := by decide +kernel
theorem dX0_called_22 : decode cX0_called 22 = .ok (.lload_n 1, 1) := by decide +kernel
theorem dX0_called_23 : decode cX0_called 23 = .ok (.lcmp, 1) := by decide +kernel
theorem dX0_called_24 : decode cX0_called 24 = .ok (.ifCond .ne 5, 3) := by decide +kernel
theorem dX0_called_27 : decode cX0_called 27 = .ok (.iload_n 3, 1) := by decide +kernel
theorem dX0_called_28 : decode cX0_called 28 = .ok (.ireturn, 1) := by decide +kernel
theorem dX0_called_29 : decode cX0_called 29 = .ok (.iinc 3 1, 3) := by decide +kernel
theorem dX0_called_32 : decode cX0_called 32 = .ok (.goto (-30), 3) := by decide +kernel
theorem dX0_called_35 : decode cX0_called 35 = .ok (.iconst (-1), 1) := by decide +kernel
theorem dX0_called_36 : decode cX0_called 36 = .ok (.ireturn, 1) := by decide +kernel
theorem dX0_lyingOn_0 : decode cX0_lyingOn 0 = .ok (.iconst 0, 1) := by decide +kernel
theorem dX0_lyingOn_1 : decode cX0_lyingOn 1 = .ok (.istore_n 2, 1) := by decide +kernel
theorem dX0_lyingOn_2 : decode cX0_lyingOn 2 = .ok (.iload_n 2, 1) := by decide +kernel
theorem dX0_lyingOn_3 : decode cX0_lyingOn 3 = .ok (.aload_n 0, 1) := by decide +kernel
theorem dX0_lyingOn_4 : decode cX0_lyingOn 4 = .ok (.getfield 28, 3) := by decide +kernel
theorem dX0_lyingOn_7 : decode cX0_lyingOn 7 = .ok (.if_icmp .ge 26, 3) := by decide +kernel
theorem dX0_lyingOn_10 : decode cX0_lyingOn 10 = .ok (.iload_n 1, 1) := by decide +kernel
theorem dX0_lyingOn_11 : decode cX0_lyingOn 11 = .ok (.iconst (-1), 1) := by decide +kernel
theorem dX0_lyingOn_12 : decode cX0_lyingOn 12 = .ok (.if_icmp .eq 15, 3) := by decide +kernel
theorem dX0_lyingOn_15 : decode cX0_lyingOn 15 = .ok (.aload_n 0, 1) := by decide +kernel
theorem dX0_lyingOn_16 : decode cX0_lyingOn 16 = .ok (.getfield 22, 3) := by decide +kernel
theorem dX0_lyingOn_19 : decode cX0_lyingOn 19 = .ok (.iload_n 2, 1) := by decide +kernel
theorem dX0_lyingOn_20 : decode cX0_lyingOn 20 = .ok (.iaload, 1) := by decide +kernel
theorem dX0_lyingOn_21 : decode cX0_lyingOn 21 = .ok (.iload_n 1, 1) := by decide +kernel
theorem dX0_lyingOn_22 : decode cX0_lyingOn 22 = .ok (.if_icmp .ne 5, 3) := by decide +kernel
theorem dX0_lyingOn_25 : decode cX0_lyingOn 25 = .ok (.iload_n 2, 1) := by decide +kernel
theorem dX0_lyingOn_26 : decode cX0_lyingOn 26 = .ok (.ireturn, 1) := by decide +kernel
theorem dX0_lyingOn_27 : decode cX0_lyingOn 27 = .ok (.iinc 2 1, 3) := by decide +kernel
theorem dX0_lyingOn_30 : decode cX0_lyingOn 30 = .ok (.goto (-28), 3) := by decide +kernel
theorem dX0_lyingOn_33 : decode cX0_lyingOn 33 = .ok (.iconst (-1), 1) := by decide +kernel
theorem dX0_lyingOn_34 : decode cX0_lyingOn 34 = .ok (.ireturn, 1) := by decide +kernel
theorem dX0_weightOn_0 : decode cX0_weightOn 0 = .ok (.aload_n 0, 1) := by decide +kernel
theorem dX0_weightOn_1 : decode cX0_weightOn 1 = .ok (.iload_n 1, 1) := by decide +kernel
theorem dX0_weightOn_2 : decode cX0_weightOn 2 = .ok (.invokevirtual 44, 3) := by decide +kernel
theorem dX0_weightOn_5 : decode cX0_weightOn 5 = .ok (.istore_n 2, 1) := by decide +kernel
theorem dX0_weightOn_6 : decode cX0_weightOn 6 = .ok (.aload_n 0, 1) := by decide +kernel
theorem dX0_weightOn_7 : decode cX0_weightOn 7 = .ok (.iload_n 2, 1) := by decide +kernel
theorem dX0_weightOn_8 : decode cX0_weightOn 8 = .ok (.invokevirtual 48, 3) := by decide +kernel
theorem dX0_weightOn_11 : decode cX0_weightOn 11 = .ok (.ifCond .eq 12, 3) := by decide +kernel
theorem dX0_weightOn_14 : decode cX0_weightOn 14 = .ok (.aload_n 0, 1) := by decide +kernel
theorem dX0_weightOn_15 : decode cX0_weightOn 15 = .ok (.getfield 15, 3) := by decide +kernel
theorem dX0_weightOn_18 : decode cX0_weightOn 18 = .ok (.iload_n 2, 1) := by decide +kernel
theorem dX0_weightOn_19 : decode cX0_weightOn 19 = .ok (.iaload, 1) := by decide +kernel
theorem dX0_weightOn_20 : decode cX0_weightOn 20 = .ok (.goto 4, 3) := by decide +kernel
theorem dX0_weightOn_23 : decode cX0_weightOn 23 = .ok (.iconst 0, 1) := by decide +kernel
theorem dX0_weightOn_24 : decode cX0_weightOn 24 = .ok (.ireturn, 1) := by decide +kernel
theorem dX0_outCount_0 : decode cX0_outCount 0 = .ok (.iconst 0, 1) := by decide +kernel
theorem dX0_outCount_1 : decode cX0_outCount 1 = .ok (.istore_n 1, 1) := by decide +kernel
theorem dX0_outCount_2 : decode cX0_outCount 2 = .ok (.iconst 0, 1) := by decide +kernel
theorem dX0_outCount_3 : decode cX0_outCount 3 = .ok (.istore_n 2, 1) := by decide +kernel
theorem dX0_outCount_4 : decode cX0_outCount 4 = .ok (.iload_n 2, 1) := by decide +kernel
theorem dX0_outCount_5 : decode cX0_outCount 5 = .ok (.aload_n 0, 1) := by decide +kernel
theorem dX0_outCount_6 : decode cX0_outCount 6 = .ok (.getfield 28, 3) := by decide +kernel
theorem dX0_outCount_9 : decode cX0_outCount 9 = .ok (.if_icmp .ge 27, 3) := by decide +kernel
theorem dX0_outCount_12 : decode cX0_outCount 12 = .ok (.iload_n 1, 1) := by decide +kernel
theorem dX0_outCount_13 : decode cX0_outCount 13 = .ok (.aload_n 0, 1) := by decide +kernel
theorem dX0_outCount_14 : decode cX0_outCount 14 = .ok (.getfield 22, 3) := by decide +kernel
theorem dX0_outCount_17 : decode cX0_outCount 17 = .ok (.iload_n 2, 1) := by decide +kernel
theorem dX0_outCount_18 : decode cX0_outCount 18 = .ok (.iaload, 1) := by decide +kernel
theorem dX0_outCount_19 : decode cX0_outCount 19 = .ok (.iconst (-1), 1) := by decide +kernel
theorem dX0_outCount_20 : decode cX0_outCount 20 = .ok (.if_icmp .ne 7, 3) := by decide +kernel
theorem dX0_outCount_23 : decode cX0_outCount 23 = .ok (.iconst 1, 1) := by decide +kernel
theorem dX0_outCount_24 : decode cX0_outCount 24 = .ok (.goto 4, 3) := by decide +kernel
theorem dX0_outCount_27 : decode cX0_outCount 27 = .ok (.iconst 0, 1) := by decide +kernel
theorem dX0_outCount_28 : decode cX0_outCount 28 = .ok (.iadd, 1) := by decide +kernel
theorem dX0_outCount_29 : decode cX0_outCount 29 = .ok (.istore_n 1, 1) := by decide +kernel
theorem dX0_outCount_30 : decode cX0_outCount 30 = .ok (.iinc 2 1, 3) := by decide +kernel
theorem dX0_outCount_33 : decode cX0_outCount 33 = .ok (.goto (-29), 3) := by decide +kernel
theorem dX0_outCount_36 : decode cX0_outCount 36 = .ok (.iload_n 1, 1) := by decide +kernel
theorem dX0_outCount_37 : decode cX0_outCount 37 = .ok (.ireturn, 1) := by decide +kernel
theorem dX0_inBins_0 : decode cX0_inBins 0 = .ok (.iconst 0, 1) := by decide +kernel
theorem dX0_inBins_1 : decode cX0_inBins 1 = .ok (.istore_n 1, 1) := by decide +kernel
theorem dX0_inBins_2 : decode cX0_inBins 2 = .ok (.iconst 0, 1) := by decide +kernel
theorem dX0_inBins_3 : decode cX0_inBins 3 = .ok (.istore_n 2, 1) := by decide +kernel
theorem dX0_inBins_4 : decode cX0_inBins 4 = .ok (.iload_n 2, 1) := by decide +kernel
theorem dX0_inBins_5 : decode cX0_inBins 5 = .ok (.iconst 2, 1) := by decide +kernel
theorem dX0_inBins_6 : decode cX0_inBins 6 = .ok (.if_icmp .ge 18, 3) := by decide +kernel
theorem dX0_inBins_9 : decode cX0_inBins 9 = .ok (.iload_n 1, 1) := by decide +kernel
theorem dX0_inBins_10 : decode cX0_inBins 10 = .ok (.aload_n 0, 1) := by decide +kernel
theorem dX0_inBins_11 : decode cX0_inBins 11 = .ok (.getfield 25, 3) := by decide +kernel
theorem dX0_inBins_14 : decode cX0_inBins 14 = .ok (.iload_n 2, 1) := by decide +kernel
theorem dX0_inBins_15 : decode cX0_inBins 15 = .ok (.iaload, 1) := by decide +kernel
theorem dX0_inBins_16 : decode cX0_inBins 16 = .ok (.iadd, 1) := by decide +kernel
theorem dX0_inBins_17 : decode cX0_inBins 17 = .ok (.istore_n 1, 1) := by decide +kernel
theorem dX0_inBins_18 : decode cX0_inBins 18 = .ok (.iinc 2 1, 3) := by decide +kernel
theorem dX0_inBins_21 : decode cX0_inBins 21 = .ok (.goto (-17), 3) := by decide +kernel
theorem dX0_inBins_24 : decode cX0_inBins 24 = .ok (.iload_n 1, 1) := by decide +kernel
theorem dX0_inBins_25 : decode cX0_inBins 25 = .ok (.ireturn, 1) := by decide +kernel
theorem dX0_add_0 : decode cX0_add 0 = .ok (.aload_n 0, 1) := by decide +kernel
theorem dX0_add_1 : decode cX0_add 1 = .ok (.getfield 28, 3) := by decide +kernel
theorem dX0_add_4 : decode cX0_add 4 = .ok (.iconst 5, 1) := by decide +kernel
theorem dX0_add_5 : decode cX0_add 5 = .ok (.if_icmp .ge 26, 3) := by decide +kernel
theorem dX0_add_8 : decode cX0_add 8 = .ok (.aload_n 0, 1) := by decide +kernel
theorem dX0_add_9 : decode cX0_add 9 = .ok (.aload_n 0, 1) := by decide +kernel
theorem dX0_add_10 : decode cX0_add 10 = .ok (.getfield 28, 3) := by decide +kernel
theorem dX0_add_13 : decode cX0_add 13 = .ok (.lload_n 1, 1) := by decide +kernel
theorem dX0_add_14 : decode cX0_add 14 = .ok (.iload_n 3, 1) := by decide +kernel
theorem dX0_add_15 : decode cX0_add 15 = .ok (.iload 4, 2) := by decide +kernel
theorem dX0_add_17 : decode cX0_add 17 = .ok (.iconst (-1), 1) := by decide +kernel
theorem dX0_add_18 : decode cX0_add 18 = .ok (.invokevirtual 52, 3) := by decide +kernel
theorem dX0_add_21 : decode cX0_add 21 = .ok (.aload_n 0, 1) := by decide +kernel
theorem dX0_add_22 : decode cX0_add 22 = .ok (.dup, 1) := by decide +kernel
theorem dX0_add_23 : decode cX0_add 23 = .ok (.getfield 28, 3) := by decide +kernel
theorem dX0_add_26 : decode cX0_add 26 = .ok (.iconst 1, 1) := by decide +kernel
theorem dX0_add_27 : decode cX0_add 27 = .ok (.iadd, 1) := by decide +kernel
theorem dX0_add_28 : decode cX0_add 28 = .ok (.putfield 28, 3) := by decide +kernel
theorem dX0_add_31 : decode cX0_add 31 = .ok (.return_, 1) := by decide +kernel
theorem dX0_moveLast_0 : decode cX0_moveLast 0 = .ok (.aload_n 0, 1) := by decide +kernel
theorem dX0_moveLast_1 : decode cX0_moveLast 1 = .ok (.iload_n 1, 1) := by decide +kernel
theorem dX0_moveLast_2 : decode cX0_moveLast 2 = .ok (.invokevirtual 48, 3) := by decide +kernel
theorem dX0_moveLast_5 : decode cX0_moveLast 5 = .ok (.ifCond .ne 4, 3) := by decide +kernel
theorem dX0_moveLast_8 : decode cX0_moveLast 8 = .ok (.return_, 1) := by decide +kernel
theorem dX0_moveLast_9 : decode cX0_moveLast 9 = .ok (.aload_n 0, 1) := by decide +kernel
theorem dX0_moveLast_10 : decode cX0_moveLast 10 = .ok (.getfield 9, 3) := by decide +kernel
theorem dX0_moveLast_13 : decode cX0_moveLast 13 = .ok (.iload_n 1, 1) := by decide +kernel
theorem dX0_moveLast_14 : decode cX0_moveLast 14 = .ok (.laload, 1) := by decide +kernel
theorem dX0_moveLast_15 : decode cX0_moveLast 15 = .ok (.lstore_n 2, 1) := by decide +kernel
theorem dX0_moveLast_16 : decode cX0_moveLast 16 = .ok (.aload_n 0, 1) := by decide +kernel
theorem dX0_moveLast_17 : decode cX0_moveLast 17 = .ok (.getfield 15, 3) := by decide +kernel
theorem dX0_moveLast_20 : decode cX0_moveLast 20 = .ok (.iload_n 1, 1) := by decide +kernel
theorem dX0_moveLast_21 : decode cX0_moveLast 21 = .ok (.iaload, 1) := by decide +kernel
theorem dX0_moveLast_22 : decode cX0_moveLast 22 = .ok (.istore 4, 2) := by decide +kernel
theorem dX0_moveLast_24 : decode cX0_moveLast 24 = .ok (.aload_n 0, 1) := by decide +kernel
theorem dX0_moveLast_25 : decode cX0_moveLast 25 = .ok (.getfield 19, 3) := by decide +kernel
theorem dX0_moveLast_28 : decode cX0_moveLast 28 = .ok (.iload_n 1, 1) := by decide +kernel
theorem dX0_moveLast_29 : decode cX0_moveLast 29 = .ok (.iaload, 1) := by decide +kernel
theorem dX0_moveLast_30 : decode cX0_moveLast 30 = .ok (.istore 5, 2) := by decide +kernel
theorem dX0_moveLast_32 : decode cX0_moveLast 32 = .ok (.aload_n 0, 1) := by decide +kernel
theorem dX0_moveLast_33 : decode cX0_moveLast 33 = .ok (.getfield 22, 3) := by decide +kernel
theorem dX0_moveLast_36 : decode cX0_moveLast 36 = .ok (.iload_n 1, 1) := by decide +kernel
theorem dX0_moveLast_37 : decode cX0_moveLast 37 = .ok (.iaload, 1) := by decide +kernel
theorem dX0_moveLast_38 : decode cX0_moveLast 38 = .ok (.istore 6, 2) := by decide +kernel
theorem dX0_moveLast_40 : decode cX0_moveLast 40 = .ok (.iload_n 1, 1) := by decide +kernel
theorem dX0_moveLast_41 : decode cX0_moveLast 41 = .ok (.istore 7, 2) := by decide +kernel
theorem dX0_moveLast_43 : decode cX0_moveLast 43 = .ok (.iload 7, 2) := by decide +kernel
theorem dX0_moveLast_45 : decode cX0_moveLast 45 = .ok (.iconst 1, 1) := by decide +kernel
theorem dX0_moveLast_46 : decode cX0_moveLast 46 = .ok (.iadd, 1) := by decide +kernel
theorem dX0_moveLast_47 : decode cX0_moveLast 47 = .ok (.aload_n 0, 1) := by decide +kernel
theorem dX0_moveLast_48 : decode cX0_moveLast 48 = .ok (.getfield 28, 3) := by decide +kernel
theorem dX0_moveLast_51 : decode cX0_moveLast 51 = .ok (.if_icmp .ge 51, 3) := by decide +kernel
theorem dX0_moveLast_54 : decode cX0_moveLast 54 = .ok (.aload_n 0, 1) := by decide +kernel
theorem dX0_moveLast_55 : decode cX0_moveLast 55 = .ok (.iload 7, 2) := by decide +kernel
theorem dX0_moveLast_57 : decode cX0_moveLast 57 = .ok (.aload_n 0, 1) := by decide +kernel
theorem dX0_moveLast_58 : decode cX0_moveLast 58 = .ok (.getfield 9, 3) := by decide +kernel
theorem dX0_moveLast_61 : decode cX0_moveLast 61 = .ok (.iload 7, 2) := by decide +kernel
theorem dX0_moveLast_63 : decode cX0_moveLast 63 = .ok (.iconst 1, 1) := by decide +kernel
theorem dX0_moveLast_64 : decode cX0_moveLast 64 = .ok (.iadd, 1) := by decide +kernel
theorem dX0_moveLast_65 : decode cX0_moveLast 65 = .ok (.laload, 1) := by decide +kernel
theorem dX0_moveLast_66 : decode cX0_moveLast 66 = .ok (.aload_n 0, 1) := by decide +kernel
theorem dX0_moveLast_67 : decode cX0_moveLast 67 = .ok (.getfield 15, 3) := by decide +kernel
theorem dX0_moveLast_70 : decode cX0_moveLast 70 = .ok (.iload 7, 2) := by decide +kernel
theorem dX0_moveLast_72 : decode cX0_moveLast 72 = .ok (.iconst 1, 1) := by decide +kernel
theorem dX0_moveLast_73 : decode cX0_moveLast 73 = .ok (.iadd, 1) := by decide +kernel
theorem dX0_moveLast_74 : decode cX0_moveLast 74 = .ok (.iaload, 1) := by decide +kernel
theorem dX0_moveLast_75 : decode cX0_moveLast 75 = .ok (.aload_n 0, 1) := by decide +kernel
theorem dX0_moveLast_76 : decode cX0_moveLast 76 = .ok (.getfield 19, 3) := by decide +kernel
theorem dX0_moveLast_79 : decode cX0_moveLast 79 = .ok (.iload 7, 2) := by decide +kernel
theorem dX0_moveLast_81 : decode cX0_moveLast 81 = .ok (.iconst 1, 1) := by decide +kernel
theorem dX0_moveLast_82 : decode cX0_moveLast 82 = .ok (.iadd, 1) := by decide +kernel
theorem dX0_moveLast_83 : decode cX0_moveLast 83 = .ok (.iaload, 1) := by decide +kernel
theorem dX0_moveLast_84 : decode cX0_moveLast 84 = .ok (.aload_n 0, 1) := by decide +kernel
theorem dX0_moveLast_85 : decode cX0_moveLast 85 = .ok (.getfield 22, 3) := by decide +kernel
theorem dX0_moveLast_88 : decode cX0_moveLast 88 = .ok (.iload 7, 2) := by decide +kernel
theorem dX0_moveLast_90 : decode cX0_moveLast 90 = .ok (.iconst 1, 1) := by decide +kernel
theorem dX0_moveLast_91 : decode cX0_moveLast 91 = .ok (.iadd, 1) := by decide +kernel
theorem dX0_moveLast_92 : decode cX0_moveLast 92 = .ok (.iaload, 1) := by decide +kernel
theorem dX0_moveLast_93 : decode cX0_moveLast 93 = .ok (.invokevirtual 52, 3) := by decide +kernel
theorem dX0_moveLast_96 : decode cX0_moveLast 96 = .ok (.iinc 7 1, 3) := by decide +kernel
theorem dX0_moveLast_99 : decode cX0_moveLast 99 = .ok (.goto (-56), 3) := by decide +kernel
theorem dX0_moveLast_102 : decode cX0_moveLast 102 = .ok (.aload_n 0, 1) := by decide +kernel
theorem dX0_moveLast_103 : decode cX0_moveLast 103 = .ok (.aload_n 0, 1) := by decide +kernel
theorem dX0_moveLast_104 : decode cX0_moveLast 104 = .ok (.getfield 28, 3) := by decide +kernel
theorem dX0_moveLast_107 : decode cX0_moveLast 107 = .ok (.iconst 1, 1) := by decide +kernel
theorem dX0_moveLast_108 : decode cX0_moveLast 108 = .ok (.isub, 1) := by decide +kernel
theorem dX0_moveLast_109 : decode cX0_moveLast 109 = .ok (.lload_n 2, 1) := by decide +kernel
theorem dX0_moveLast_110 : decode cX0_moveLast 110 = .ok (.iload 4, 2) := by decide +kernel
theorem dX0_moveLast_112 : decode cX0_moveLast 112 = .ok (.iload 5, 2) := by decide +kernel
theorem dX0_moveLast_114 : decode cX0_moveLast 114 = .ok (.iload 6, 2) := by decide +kernel
theorem dX0_moveLast_116 : decode cX0_moveLast 116 = .ok (.invokevirtual 52, 3) := by decide +kernel
theorem dX0_moveLast_119 : decode cX0_moveLast 119 = .ok (.return_, 1) := by decide +kernel
theorem dX0_write_0 : decode cX0_write 0 = .ok (.aload_n 0, 1) := by decide +kernel
theorem dX0_write_1 : decode cX0_write 1 = .ok (.getfield 9, 3) := by decide +kernel
theorem dX0_write_4 : decode cX0_write 4 = .ok (.iload_n 1, 1) := by decide +kernel
theorem dX0_write_5 : decode cX0_write 5 = .ok (.lload_n 2, 1) := by decide +kernel
theorem dX0_write_6 : decode cX0_write 6 = .ok (.lastore, 1) := by decide +kernel
theorem dX0_write_7 : decode cX0_write 7 = .ok (.aload_n 0, 1) := by decide +kernel
theorem dX0_write_8 : decode cX0_write 8 = .ok (.getfield 15, 3) := by decide +kernel
theorem dX0_write_11 : decode cX0_write 11 = .ok (.iload_n 1, 1) := by decide +kernel
theorem dX0_write_12 : decode cX0_write 12 = .ok (.iload 4, 2) := by decide +kernel
theorem dX0_write_14 : decode cX0_write 14 = .ok (.iastore, 1) := by decide +kernel
theorem dX0_write_15 : decode cX0_write 15 = .ok (.aload_n 0, 1) := by decide +kernel
theorem dX0_write_16 : decode cX0_write 16 = .ok (.getfield 19, 3) := by decide +kernel
theorem dX0_write_19 : decode cX0_write 19 = .ok (.iload_n 1, 1) := by decide +kernel
theorem dX0_write_20 : decode cX0_write 20 = .ok (.iload 5, 2) := by decide +kernel
theorem dX0_write_22 : decode cX0_write 22 = .ok (.iastore, 1) := by decide +kernel
theorem dX0_write_23 : decode cX0_write 23 = .ok (.aload_n 0, 1) := by decide +kernel
theorem dX0_write_24 : decode cX0_write 24 = .ok (.getfield 22, 3) := by decide +kernel
theorem dX0_write_27 : decode cX0_write 27 = .ok (.iload_n 1, 1) := by decide +kernel
theorem dX0_write_28 : decode cX0_write 28 = .ok (.iload 6, 2) := by decide +kernel
theorem dX0_write_30 : decode cX0_write 30 = .ok (.iastore, 1) := by decide +kernel
theorem dX0_write_31 : decode cX0_write 31 = .ok (.return_, 1) := by decide +kernel
theorem dX1_init_0 : decode cX1_init 0 = .ok (.aload_n 0, 1) := by decide +kernel
theorem dX1_init_1 : decode cX1_init 1 = .ok (.invokespecial 3, 3) := by decide +kernel
theorem dX1_init_4 : decode cX1_init 4 = .ok (.aload_n 0, 1) := by decide +kernel
theorem dX1_init_5 : decode cX1_init 5 = .ok (.iconst 3, 1) := by decide +kernel
theorem dX1_init_6 : decode cX1_init 6 = .ok (.newarray .long, 2) := by decide +kernel
theorem dX1_init_8 : decode cX1_init 8 = .ok (.putfield 9, 3) := by decide +kernel
theorem dX1_init_11 : decode cX1_init 11 = .ok (.aload_n 0, 1) := by decide +kernel
theorem dX1_init_12 : decode cX1_init 12 = .ok (.iconst 3, 1) := by decide +kernel
theorem dX1_init_13 : decode cX1_init 13 = .ok (.newarray .int, 2) := by decide +kernel
theorem dX1_init_15 : decode cX1_init 15 = .ok (.putfield 15, 3) := by decide +kernel
theorem dX1_init_18 : decode cX1_init 18 = .ok (.aload_n 0, 1) := by decide +kernel
theorem dX1_init_19 : decode cX1_init 19 = .ok (.iconst 3, 1) := by decide +kernel
theorem dX1_init_20 : decode cX1_init 20 = .ok (.newarray .boolean, 2) := by decide +kernel
theorem dX1_init_22 : decode cX1_init 22 = .ok (.putfield 19, 3) := by decide +kernel
theorem dX1_init_25 : decode cX1_init 25 = .ok (.aload_n 0, 1) := by decide +kernel
theorem dX1_init_26 : decode cX1_init 26 = .ok (.bipush 6, 2) := by decide +kernel
theorem dX1_init_28 : decode cX1_init 28 = .ok (.newarray .int, 2) := by decide +kernel
theorem dX1_init_30 : decode cX1_init 30 = .ok (.putfield 23, 3) := by decide +kernel
theorem dX1_init_33 : decode cX1_init 33 = .ok (.aload_n 0, 1) := by decide +kernel
theorem dX1_init_34 : decode cX1_init 34 = .ok (.bipush 6, 2) := by decide +kernel
theorem dX1_init_36 : decode cX1_init 36 = .ok (.newarray .int, 2) := by decide +kernel
theorem dX1_init_38 : decode cX1_init 38 = .ok (.putfield 26, 3) := by decide +kernel
theorem dX1_init_41 : decode cX1_init 41 = .ok (.aload_n 0, 1) := by decide +kernel
theorem dX1_init_42 : decode cX1_init 42 = .ok (.bipush 6, 2) := by decide +kernel
theorem dX1_init_44 : decode cX1_init 44 = .ok (.newarray .int, 2) := by decide +kernel
theorem dX1_init_46 : decode cX1_init 46 = .ok (.putfield 29, 3) := by decide +kernel
theorem dX1_init_49 : decode cX1_init 49 = .ok (.aload_n 0, 1) := by decide +kernel
theorem dX1_init_50 : decode cX1_init 50 = .ok (.bipush 6, 2) := by decide +kernel
theorem dX1_init_52 : decode cX1_init 52 = .ok (.newarray .int, 2) := by decide +kernel
theorem dX1_init_54 : decode cX1_init 54 = .ok (.putfield 32, 3) := by decide +kernel
theorem dX1_init_57 : decode cX1_init 57 = .ok (.aload_n 0, 1) := by decide +kernel
theorem dX1_init_58 : decode cX1_init 58 = .ok (.bipush 6, 2) := by decide +kernel
theorem dX1_init_60 : decode cX1_init 60 = .ok (.newarray .int, 2) := by decide +kernel
theorem dX1_init_62 : decode cX1_init 62 = .ok (.putfield 35, 3) := by decide +kernel
theorem dX1_init_65 : decode cX1_init 65 = .ok (.aload_n 0, 1) := by decide +kernel
theorem dX1_init_66 : decode cX1_init 66 = .ok (.bipush 6, 2) := by decide +kernel
theorem dX1_init_68 : decode cX1_init 68 = .ok (.newarray .int, 2) := by decide +kernel
theorem dX1_init_70 : decode cX1_init 70 = .ok (.putfield 38, 3) := by decide +kernel
theorem dX1_init_73 : decode cX1_init 73 = .ok (.return_, 1) := by decide +kernel
theorem dX1_clear_0 : decode cX1_clear 0 = .ok (.aload_n 0, 1) := by decide +kernel
theorem dX1_clear_1 : decode cX1_clear 1 = .ok (.iconst 0, 1) := by decide +kernel
theorem dX1_clear_2 : decode cX1_clear 2 = .ok (.putfield 41, 3) := by decide +kernel
theorem dX1_clear_5 : decode cX1_clear 5 = .ok (.aload_n 0, 1) := by decide +kernel
theorem dX1_clear_6 : decode cX1_clear 6 = .ok (.iconst 0, 1) := by decide +kernel
theorem dX1_clear_7 : decode cX1_clear 7 = .ok (.putfield 45, 3) := by decide +kernel
theorem dX1_clear_10 : decode cX1_clear 10 = .ok (.aload_n 0, 1) := by decide +kernel
theorem dX1_clear_11 : decode cX1_clear 11 = .ok (.iconst 0, 1) := by decide +kernel
theorem dX1_clear_12 : decode cX1_clear 12 = .ok (.putfield 48, 3) := by decide +kernel
theorem dX1_clear_15 : decode cX1_clear 15 = .ok (.return_, 1) := by decide +kernel
theorem dX1_copyFrom_0 : decode cX1_copyFrom 0 = .ok (.aload_n 0, 1) := by decide +kernel
theorem dX1_copyFrom_1 : decode cX1_copyFrom 1 = .ok (.aload_n 1, 1) := by decide +kernel
theorem dX1_copyFrom_2 : decode cX1_copyFrom 2 = .ok (.getfield 41, 3) := by decide +kernel
theorem dX1_copyFrom_5 : decode cX1_copyFrom 5 = .ok (.putfield 41, 3) := by decide +kernel
theorem dX1_copyFrom_8 : decode cX1_copyFrom 8 = .ok (.aload_n 1, 1) := by decide +kernel
theorem dX1_copyFrom_9 : decode cX1_copyFrom 9 = .ok (.getfield 9, 3) := by decide +kernel
theorem dX1_copyFrom_12 : decode cX1_copyFrom 12 = .ok (.iconst 0, 1) := by decide +kernel
theorem dX1_copyFrom_13 : decode cX1_copyFrom 13 = .ok (.aload_n 0, 1) := by decide +kernel
theorem dX1_copyFrom_14 : decode cX1_copyFrom 14 = .ok (.getfield 9, 3) := by decide +kernel
theorem dX1_copyFrom_17 : decode cX1_copyFrom 17 = .ok (.iconst 0, 1) := by decide +kernel
theorem dX1_copyFrom_18 : decode cX1_copyFrom 18 = .ok (.iconst 3, 1) := by decide +kernel
theorem dX1_copyFrom_19 : decode cX1_copyFrom 19 = .ok (.invokestatic 51, 3) := by decide +kernel
theorem dX1_copyFrom_22 : decode cX1_copyFrom 22 = .ok (.aload_n 1, 1) := by decide +kernel
theorem dX1_copyFrom_23 : decode cX1_copyFrom 23 = .ok (.getfield 15, 3) := by decide +kernel
theorem dX1_copyFrom_26 : decode cX1_copyFrom 26 = .ok (.iconst 0, 1) := by decide +kernel
theorem dX1_copyFrom_27 : decode cX1_copyFrom 27 = .ok (.aload_n 0, 1) := by decide +kernel
theorem dX1_copyFrom_28 : decode cX1_copyFrom 28 = .ok (.getfield 15, 3) := by decide +kernel
theorem dX1_copyFrom_31 : decode cX1_copyFrom 31 = .ok (.iconst 0, 1) := by decide +kernel
theorem dX1_copyFrom_32 : decode cX1_copyFrom 32 = .ok (.iconst 3, 1) := by decide +kernel
theorem dX1_copyFrom_33 : decode cX1_copyFrom 33 = .ok (.invokestatic 51, 3) := by decide +kernel
theorem dX1_copyFrom_36 : decode cX1_copyFrom 36 = .ok (.aload_n 1, 1) := by decide +kernel
theorem dX1_copyFrom_37 : decode cX1_copyFrom 37 = .ok (.getfield 19, 3) := by decide +kernel
theorem dX1_copyFrom_40 : decode cX1_copyFrom 40 = .ok (.iconst 0, 1) := by decide +kernel
theorem dX1_copyFrom_41 : decode cX1_copyFrom 41 = .ok (.aload_n 0, 1) := by decide +kernel
theorem dX1_copyFrom_42 : decode cX1_copyFrom 42 = .ok (.getfield 19, 3) := by decide +kernel
theorem dX1_copyFrom_45 : decode cX1_copyFrom 45 = .ok (.iconst 0, 1) := by decide +kernel
theorem dX1_copyFrom_46 : decode cX1_copyFrom 46 = .ok (.iconst 3, 1) := by decide +kernel
theorem dX1_copyFrom_47 : decode cX1_copyFrom 47 = .ok (.invokestatic 51, 3) := by decide +kernel
theorem dX1_copyFrom_50 : decode cX1_copyFrom 50 = .ok (.aload_n 0, 1) := by decide +kernel
theorem dX1_copyFrom_51 : decode cX1_copyFrom 51 = .ok (.aload_n 1, 1) := by decide +kernel
theorem dX1_copyFrom_52 : decode cX1_copyFrom 52 = .ok (.getfield 45, 3) := by decide +kernel
theorem dX1_copyFrom_55 : decode cX1_copyFrom 55 = .ok (.putfield 45, 3) := by decide +kernel
theorem dX1_copyFrom_58 : decode cX1_copyFrom 58 = .ok (.aload_n 1, 1) := by decide +kernel
theorem dX1_copyFrom_59 : decode cX1_copyFrom 59 = .ok (.getfield 23, 3) := by decide +kernel
theorem dX1_copyFrom_62 : decode cX1_copyFrom 62 = .ok (.iconst 0, 1) := by decide +kernel
theorem dX1_copyFrom_63 : decode cX1_copyFrom 63 = .ok (.aload_n 0, 1) := by decide +kernel
theorem dX1_copyFrom_64 : decode cX1_copyFrom 64 = .ok (.getfield 23, 3) := by decide +kernel
theorem dX1_copyFrom_67 : decode cX1_copyFrom 67 = .ok (.iconst 0, 1) := by decide +kernel
theorem dX1_copyFrom_68 : decode cX1_copyFrom 68 = .ok (.bipush 6, 2) := by decide +kernel
theorem dX1_copyFrom_70 : decode cX1_copyFrom 70 = .ok (.invokestatic 51, 3) := by decide +kernel
theorem dX1_copyFrom_73 : decode cX1_copyFrom 73 = .ok (.aload_n 1, 1) := by decide +kernel
theorem dX1_copyFrom_74 : decode cX1_copyFrom 74 = .ok (.getfield 26, 3) := by decide +kernel
theorem dX1_copyFrom_77 : decode cX1_copyFrom 77 = .ok (.iconst 0, 1) := by decide +kernel
theorem dX1_copyFrom_78 : decode cX1_copyFrom 78 = .ok (.aload_n 0, 1) := by decide +kernel
theorem dX1_copyFrom_79 : decode cX1_copyFrom 79 = .ok (.getfield 26, 3) := by decide +kernel
theorem dX1_copyFrom_82 : decode cX1_copyFrom 82 = .ok (.iconst 0, 1) := by decide +kernel
theorem dX1_copyFrom_83 : decode cX1_copyFrom 83 = .ok (.bipush 6, 2) := by decide +kernel
theorem dX1_copyFrom_85 : decode cX1_copyFrom 85 = .ok (.invokestatic 51, 3) := by decide +kernel
theorem dX1_copyFrom_88 : decode cX1_copyFrom 88 = .ok (.aload_n 1, 1) := by decide +kernel
theorem dX1_copyFrom_89 : decode cX1_copyFrom 89 = .ok (.getfield 29, 3) := by decide +kernel
theorem dX1_copyFrom_92 : decode cX1_copyFrom 92 = .ok (.iconst 0, 1) := by decide +kernel
theorem dX1_copyFrom_93 : decode cX1_copyFrom 93 = .ok (.aload_n 0, 1) := by decide +kernel
theorem dX1_copyFrom_94 : decode cX1_copyFrom 94 = .ok (.getfield 29, 3) := by decide +kernel
theorem dX1_copyFrom_97 : decode cX1_copyFrom 97 = .ok (.iconst 0, 1) := by decide +kernel
theorem dX1_copyFrom_98 : decode cX1_copyFrom 98 = .ok (.bipush 6, 2) := by decide +kernel
theorem dX1_copyFrom_100 : decode cX1_copyFrom 100 = .ok (.invokestatic 51, 3) := by decide +kernel
theorem dX1_copyFrom_103 : decode cX1_copyFrom 103 = .ok (.aload_n 1, 1) := by decide +kernel
theorem dX1_copyFrom_104 : decode cX1_copyFrom 104 = .ok (.getfield 32, 3) := by decide +kernel
theorem dX1_copyFrom_107 : decode cX1_copyFrom 107 = .ok (.iconst 0, 1) := by decide +kernel
theorem dX1_copyFrom_108 : decode cX1_copyFrom 108 = .ok (.aload_n 0, 1) := by decide +kernel
theorem dX1_copyFrom_109 : decode cX1_copyFrom 109 = .ok (.getfield 32, 3) := by decide +kernel
theorem dX1_copyFrom_112 : decode cX1_copyFrom 112 = .ok (.iconst 0, 1) := by decide +kernel
theorem dX1_copyFrom_113 : decode cX1_copyFrom 113 = .ok (.bipush 6, 2) := by decide +kernel
theorem dX1_copyFrom_115 : decode cX1_copyFrom 115 = .ok (.invokestatic 51, 3) := by decide +kernel
theorem dX1_copyFrom_118 : decode cX1_copyFrom 118 = .ok (.aload_n 0, 1) := by decide +kernel
theorem dX1_copyFrom_119 : decode cX1_copyFrom 119 = .ok (.aload_n 1, 1) := by decide +kernel
theorem dX1_copyFrom_120 : decode cX1_copyFrom 120 = .ok (.getfield 48, 3) := by decide +kernel
theorem dX1_copyFrom_123 : decode cX1_copyFrom 123 = .ok (.putfield 48, 3) := by decide +kernel
theorem dX1_copyFrom_126 : decode cX1_copyFrom 126 = .ok (.aload_n 1, 1) := by decide +kernel
theorem dX1_copyFrom_127 : decode cX1_copyFrom 127 = .ok (.getfield 35, 3) := by decide +kernel
theorem dX1_copyFrom_130 : decode cX1_copyFrom 130 = .ok (.iconst 0, 1) := by decide +kernel
theorem dX1_copyFrom_131 : decode cX1_copyFrom 131 = .ok (.aload_n 0, 1) := by decide +kernel
theorem dX1_copyFrom_132 : decode cX1_copyFrom 132 = .ok (.getfield 35, 3) := by decide +kernel
theorem dX1_copyFrom_135 : decode cX1_copyFrom 135 = .ok (.iconst 0, 1) := by decide +kernel
theorem dX1_copyFrom_136 : decode cX1_copyFrom 136 = .ok (.bipush 6, 2) := by decide +kernel
theorem dX1_copyFrom_138 : decode cX1_copyFrom 138 = .ok (.invokestatic 51, 3) := by decide +kernel
theorem dX1_copyFrom_141 : decode cX1_copyFrom 141 = .ok (.aload_n 1, 1) := by decide +kernel
theorem dX1_copyFrom_142 : decode cX1_copyFrom 142 = .ok (.getfield 38, 3) := by decide +kernel
theorem dX1_copyFrom_145 : decode cX1_copyFrom 145 = .ok (.iconst 0, 1) := by decide +kernel
theorem dX1_copyFrom_146 : decode cX1_copyFrom 146 = .ok (.aload_n 0, 1) := by decide +kernel
theorem dX1_copyFrom_147 : decode cX1_copyFrom 147 = .ok (.getfield 38, 3) := by decide +kernel
theorem dX1_copyFrom_150 : decode cX1_copyFrom 150 = .ok (.iconst 0, 1) := by decide +kernel
theorem dX1_copyFrom_151 : decode cX1_copyFrom 151 = .ok (.bipush 6, 2) := by decide +kernel
theorem dX1_copyFrom_153 : decode cX1_copyFrom 153 = .ok (.invokestatic 51, 3) := by decide +kernel
theorem dX1_copyFrom_156 : decode cX1_copyFrom 156 = .ok (.return_, 1) := by decide +kernel
theorem dX1_hasHold_0 : decode cX1_hasHold 0 = .ok (.iload_n 1, 1) := by decide +kernel
theorem dX1_hasHold_1 : decode cX1_hasHold 1 = .ok (.ifCond .lt 15, 3) := by decide +kernel
theorem dX1_hasHold_4 : decode cX1_hasHold 4 = .ok (.iload_n 1, 1) := by decide +kernel
theorem dX1_hasHold_5 : decode cX1_hasHold 5 = .ok (.aload_n 0, 1) := by decide +kernel
theorem dX1_hasHold_6 : decode cX1_hasHold 6 = .ok (.getfield 41, 3) := by decide +kernel
theorem dX1_hasHold_9 : decode cX1_hasHold 9 = .ok (.if_icmp .ge 7, 3) := by decide +kernel
theorem dX1_hasHold_12 : decode cX1_hasHold 12 = .ok (.iconst 1, 1) := by decide +kernel
theorem dX1_hasHold_13 : decode cX1_hasHold 13 = .ok (.goto 4, 3) := by decide +kernel
theorem dX1_hasHold_16 : decode cX1_hasHold 16 = .ok (.iconst 0, 1) := by decide +kernel
theorem dX1_hasHold_17 : decode cX1_hasHold 17 = .ok (.ireturn, 1) := by decide +kernel
theorem dX1_hasSpot_0 : decode cX1_hasSpot 0 = .ok (.iload_n 1, 1) := by decide +kernel
theorem dX1_hasSpot_1 : decode cX1_hasSpot 1 = .ok (.ifCond .lt 15, 3) := by decide +kernel
theorem dX1_hasSpot_4 : decode cX1_hasSpot 4 = .ok (.iload_n 1, 1) := by decide +kernel
theorem dX1_hasSpot_5 : decode cX1_hasSpot 5 = .ok (.aload_n 0, 1) := by decide +kernel
theorem dX1_hasSpot_6 : decode cX1_hasSpot 6 = .ok (.getfield 45, 3) := by decide +kernel
theorem dX1_hasSpot_9 : decode cX1_hasSpot 9 = .ok (.if_icmp .ge 7, 3) := by decide +kernel
theorem dX1_hasSpot_12 : decode cX1_hasSpot 12 = .ok (.iconst 1, 1) := by decide +kernel
theorem dX1_hasSpot_13 : decode cX1_hasSpot 13 = .ok (.goto 4, 3) := by decide +kernel
theorem dX1_hasSpot_16 : decode cX1_hasSpot 16 = .ok (.iconst 0, 1) := by decide +kernel
theorem dX1_hasSpot_17 : decode cX1_hasSpot 17 = .ok (.ireturn, 1) := by decide +kernel
theorem dX1_isHoldCalled_0 : decode cX1_isHoldCalled 0 = .ok (.iconst 0, 1) := by decide +kernel
theorem dX1_isHoldCalled_1 : decode cX1_isHoldCalled 1 = .ok (.istore_n 3, 1) := by decide +kernel
theorem dX1_isHoldCalled_2 : decode cX1_isHoldCalled 2 = .ok (.iload_n 3, 1) := by decide +kernel
theorem dX1_isHoldCalled_3 : decode cX1_isHoldCalled 3 = .ok (.aload_n 0, 1) := by decide +kernel
theorem dX1_isHoldCalled_4 : decode cX1_isHoldCalled 4 = .ok (.getfield 41, 3) := by decide +kernel
theorem dX1_isHoldCalled_7 : decode cX1_isHoldCalled 7 = .ok (.if_icmp .ge 22, 3) := by decide +kernel
theorem dX1_isHoldCalled_10 : decode cX1_isHoldCalled 10 = .ok (.aload_n 0, 1) := by decide +kernel
theorem dX1_isHoldCalled_11 : decode cX1_isHoldCalled 11 = .ok (.getfield 9, 3) := by decide +kernel
theorem dX1_isHoldCalled_14 : decode cX1_isHoldCalled 14 = .ok (.iload_n 3, 1) := by decide +kernel
theorem dX1_isHoldCalled_15 : decode cX1_isHoldCalled 15 = .ok (.laload, 1) := by decide +kernel
theorem dX1_isHoldCalled_16 : decode cX1_isHoldCalled 16 = .ok (.lload_n 1, 1) := by decide +kernel
theorem dX1_isHoldCalled_17 : decode cX1_isHoldCalled 17 = .ok (.lcmp, 1) := by decide +kernel
theorem dX1_isHoldCalled_18 : decode cX1_isHoldCalled 18 = .ok (.ifCond .ne 5, 3) := by decide +kernel
theorem dX1_isHoldCalled_21 : decode cX1_isHoldCalled 21 = .ok (.iconst 1, 1) := by decide +kernel
theorem dX1_isHoldCalled_22 : decode cX1_isHoldCalled 22 = .ok (.ireturn, 1) := by decide +kernel
theorem dX1_isHoldCalled_23 : decode cX1_isHoldCalled 23 = .ok (.iinc 3 1, 3) := by decide +kernel
theorem dX1_isHoldCalled_26 : decode cX1_isHoldCalled 26 = .ok (.goto (-24), 3) := by decide +kernel
theorem dX1_isHoldCalled_29 : decode cX1_isHoldCalled 29 = .ok (.iconst 0, 1) := by decide +kernel
theorem dX1_isHoldCalled_30 : decode cX1_isHoldCalled 30 = .ok (.ireturn, 1) := by decide +kernel
theorem dX1_addHold_0 : decode cX1_addHold 0 = .ok (.aload_n 0, 1) := by decide +kernel
theorem dX1_addHold_1 : decode cX1_addHold 1 = .ok (.getfield 41, 3) := by decide +kernel
theorem dX1_addHold_4 : decode cX1_addHold 4 = .ok (.iconst 3, 1) := by decide +kernel
theorem dX1_addHold_5 : decode cX1_addHold 5 = .ok (.if_icmp .lt 4, 3) := by decide +kernel
theorem dX1_addHold_8 : decode cX1_addHold 8 = .ok (.return_, 1) := by decide +kernel
theorem dX1_addHold_9 : decode cX1_addHold 9 = .ok (.aload_n 0, 1) := by decide +kernel
theorem dX1_addHold_10 : decode cX1_addHold 10 = .ok (.getfield 9, 3) := by decide +kernel
theorem dX1_addHold_13 : decode cX1_addHold 13 = .ok (.aload_n 0, 1) := by decide +kernel
theorem dX1_addHold_14 : decode cX1_addHold 14 = .ok (.getfield 41, 3) := by decide +kernel
theorem dX1_addHold_17 : decode cX1_addHold 17 = .ok (.lload_n 1, 1) := by decide +kernel
theorem dX1_addHold_18 : decode cX1_addHold 18 = .ok (.lastore, 1) := by decide +kernel
theorem dX1_addHold_19 : decode cX1_addHold 19 = .ok (.aload_n 0, 1) := by decide +kernel
theorem dX1_addHold_20 : decode cX1_addHold 20 = .ok (.getfield 15, 3) := by decide +kernel
theorem dX1_addHold_23 : decode cX1_addHold 23 = .ok (.aload_n 0, 1) := by decide +kernel
theorem dX1_addHold_24 : decode cX1_addHold 24 = .ok (.getfield 41, 3) := by decide +kernel
theorem dX1_addHold_27 : decode cX1_addHold 27 = .ok (.iload_n 3, 1) := by decide +kernel
theorem dX1_addHold_28 : decode cX1_addHold 28 = .ok (.iastore, 1) := by decide +kernel
theorem dX1_addHold_29 : decode cX1_addHold 29 = .ok (.aload_n 0, 1) := by decide +kernel
theorem dX1_addHold_30 : decode cX1_addHold 30 = .ok (.getfield 19, 3) := by decide +kernel
theorem dX1_addHold_33 : decode cX1_addHold 33 = .ok (.aload_n 0, 1) := by decide +kernel
theorem dX1_addHold_34 : decode cX1_addHold 34 = .ok (.getfield 41, 3) := by decide +kernel
theorem dX1_addHold_37 : decode cX1_addHold 37 = .ok (.iload 4, 2) := by decide +kernel
theorem dX1_addHold_39 : decode cX1_addHold 39 = .ok (.bastore, 1) := by decide +kernel
theorem dX1_addHold_40 : decode cX1_addHold 40 = .ok (.aload_n 0, 1) := by decide +kernel
theorem dX1_addHold_41 : decode cX1_addHold 41 = .ok (.dup, 1) := by decide +kernel
theorem dX1_addHold_42 : decode cX1_addHold 42 = .ok (.getfield 41, 3) := by decide +kernel
theorem dX1_addHold_45 : decode cX1_addHold 45 = .ok (.iconst 1, 1) := by decide +kernel
theorem dX1_addHold_46 : decode cX1_addHold 46 = .ok (.iadd, 1) := by decide +kernel
theorem dX1_addHold_47 : decode cX1_addHold 47 = .ok (.putfield 41, 3) := by decide +kernel
theorem dX1_addHold_50 : decode cX1_addHold 50 = .ok (.return_, 1) := by decide +kernel
theorem dX1_addSpot_0 : decode cX1_addSpot 0 = .ok (.aload_n 0, 1) := by decide +kernel
theorem dX1_addSpot_1 : decode cX1_addSpot 1 = .ok (.getfield 41, 3) := by decide +kernel
theorem dX1_addSpot_4 : decode cX1_addSpot 4 = .ok (.iconst 1, 1) := by decide +kernel
theorem dX1_addSpot_5 : decode cX1_addSpot 5 = .ok (.isub, 1) := by decide +kernel
theorem dX1_addSpot_6 : decode cX1_addSpot 6 = .ok (.istore_n 3, 1) := by decide +kernel
theorem dX1_addSpot_7 : decode cX1_addSpot 7 = .ok (.aload_n 0, 1) := by decide +kernel
theorem dX1_addSpot_8 : decode cX1_addSpot 8 = .ok (.getfield 45, 3) := by decide +kernel
theorem dX1_addSpot_11 : decode cX1_addSpot 11 = .ok (.bipush 6, 2) := by decide +kernel
theorem dX1_addSpot_13 : decode cX1_addSpot 13 = .ok (.if_icmp .ge 11, 3) := by decide +kernel
theorem dX1_addSpot_16 : decode cX1_addSpot 16 = .ok (.aload_n 0, 1) := by decide +kernel
theorem dX1_addSpot_17 : decode cX1_addSpot 17 = .ok (.iload_n 3, 1) := by decide +kernel
theorem dX1_addSpot_18 : decode cX1_addSpot 18 = .ok (.invokevirtual 57, 3) := by decide +kernel
theorem dX1_addSpot_21 : decode cX1_addSpot 21 = .ok (.ifCond .ne 4, 3) := by decide +kernel
theorem dX1_addSpot_24 : decode cX1_addSpot 24 = .ok (.return_, 1) := by decide +kernel
theorem dX1_addSpot_25 : decode cX1_addSpot 25 = .ok (.aload_n 0, 1) := by decide +kernel
theorem dX1_addSpot_26 : decode cX1_addSpot 26 = .ok (.getfield 45, 3) := by decide +kernel
theorem dX1_addSpot_29 : decode cX1_addSpot 29 = .ok (.istore 4, 2) := by decide +kernel
theorem dX1_addSpot_31 : decode cX1_addSpot 31 = .ok (.aload_n 0, 1) := by decide +kernel
theorem dX1_addSpot_32 : decode cX1_addSpot 32 = .ok (.getfield 23, 3) := by decide +kernel
theorem dX1_addSpot_35 : decode cX1_addSpot 35 = .ok (.iload 4, 2) := by decide +kernel
theorem dX1_addSpot_37 : decode cX1_addSpot 37 = .ok (.iload_n 3, 1) := by decide +kernel
theorem dX1_addSpot_38 : decode cX1_addSpot 38 = .ok (.iastore, 1) := by decide +kernel
theorem dX1_addSpot_39 : decode cX1_addSpot 39 = .ok (.aload_n 0, 1) := by decide +kernel
theorem dX1_addSpot_40 : decode cX1_addSpot 40 = .ok (.getfield 26, 3) := by decide +kernel
theorem dX1_addSpot_43 : decode cX1_addSpot 43 = .ok (.iload 4, 2) := by decide +kernel
theorem dX1_addSpot_45 : decode cX1_addSpot 45 = .ok (.iload_n 1, 1) := by decide +kernel
theorem dX1_addSpot_46 : decode cX1_addSpot 46 = .ok (.iastore, 1) := by decide +kernel
theorem dX1_addSpot_47 : decode cX1_addSpot 47 = .ok (.aload_n 0, 1) := by decide +kernel
theorem dX1_addSpot_48 : decode cX1_addSpot 48 = .ok (.getfield 29, 3) := by decide +kernel
theorem dX1_addSpot_51 : decode cX1_addSpot 51 = .ok (.iload 4, 2) := by decide +kernel
theorem dX1_addSpot_53 : decode cX1_addSpot 53 = .ok (.iload_n 2, 1) := by decide +kernel
theorem dX1_addSpot_54 : decode cX1_addSpot 54 = .ok (.iastore, 1) := by decide +kernel
theorem dX1_addSpot_55 : decode cX1_addSpot 55 = .ok (.aload_n 0, 1) := by decide +kernel
theorem dX1_addSpot_56 : decode cX1_addSpot 56 = .ok (.getfield 32, 3) := by decide +kernel
theorem dX1_addSpot_59 : decode cX1_addSpot 59 = .ok (.iload 4, 2) := by decide +kernel
theorem dX1_addSpot_61 : decode cX1_addSpot 61 = .ok (.iconst 0, 1) := by decide +kernel
theorem dX1_addSpot_62 : decode cX1_addSpot 62 = .ok (.iastore, 1) := by decide +kernel
theorem dX1_addSpot_63 : decode cX1_addSpot 63 = .ok (.iconst 0, 1) := by decide +kernel
theorem dX1_addSpot_64 : decode cX1_addSpot 64 = .ok (.istore 5, 2) := by decide +kernel
theorem dX1_addSpot_66 : decode cX1_addSpot 66 = .ok (.iload 5, 2) := by decide +kernel
theorem dX1_addSpot_68 : decode cX1_addSpot 68 = .ok (.iload 4, 2) := by decide +kernel
theorem dX1_addSpot_70 : decode cX1_addSpot 70 = .ok (.if_icmp .ge 71, 3) := by decide +kernel
theorem dX1_addSpot_73 : decode cX1_addSpot 73 = .ok (.aload_n 0, 1) := by decide +kernel
theorem dX1_addSpot_74 : decode cX1_addSpot 74 = .ok (.getfield 23, 3) := by decide +kernel
theorem dX1_addSpot_77 : decode cX1_addSpot 77 = .ok (.iload 5, 2) := by decide +kernel
theorem dX1_addSpot_79 : decode cX1_addSpot 79 = .ok (.iaload, 1) := by decide +kernel
theorem dX1_addSpot_80 : decode cX1_addSpot 80 = .ok (.iload_n 3, 1) := by decide +kernel
theorem dX1_addSpot_81 : decode cX1_addSpot 81 = .ok (.if_icmp .ne 29, 3) := by decide +kernel
theorem dX1_addSpot_84 : decode cX1_addSpot 84 = .ok (.aload_n 0, 1) := by decide +kernel
theorem dX1_addSpot_85 : decode cX1_addSpot 85 = .ok (.getfield 19, 3) := by decide +kernel
theorem dX1_addSpot_88 : decode cX1_addSpot 88 = .ok (.iload_n 3, 1) := by decide +kernel
theorem dX1_addSpot_89 : decode cX1_addSpot 89 = .ok (.baload, 1) := by decide +kernel
theorem dX1_addSpot_90 : decode cX1_addSpot 90 = .ok (.ifCond .eq 20, 3) := by decide +kernel
theorem dX1_addSpot_93 : decode cX1_addSpot 93 = .ok (.aload_n 0, 1) := by decide +kernel
theorem dX1_addSpot_94 : decode cX1_addSpot 94 = .ok (.getfield 32, 3) := by decide +kernel
theorem dX1_addSpot_97 : decode cX1_addSpot 97 = .ok (.iload 4, 2) := by decide +kernel
theorem dX1_addSpot_99 : decode cX1_addSpot 99 = .ok (.dup2, 1) := by decide +kernel
theorem dX1_addSpot_100 : decode cX1_addSpot 100 = .ok (.iaload, 1) := by decide +kernel
theorem dX1_addSpot_101 : decode cX1_addSpot 101 = .ok (.iconst 1, 1) := by decide +kernel
theorem dX1_addSpot_102 : decode cX1_addSpot 102 = .ok (.iload 5, 2) := by decide +kernel
theorem dX1_addSpot_104 : decode cX1_addSpot 104 = .ok (.ishl, 1) := by decide +kernel
theorem dX1_addSpot_105 : decode cX1_addSpot 105 = .ok (.ior, 1) := by decide +kernel
theorem dX1_addSpot_106 : decode cX1_addSpot 106 = .ok (.iastore, 1) := by decide +kernel
theorem dX1_addSpot_107 : decode cX1_addSpot 107 = .ok (.goto 28, 3) := by decide +kernel
theorem dX1_addSpot_110 : decode cX1_addSpot 110 = .ok (.aload_n 0, 1) := by decide +kernel
theorem dX1_addSpot_111 : decode cX1_addSpot 111 = .ok (.getfield 23, 3) := by decide +kernel
theorem dX1_addSpot_114 : decode cX1_addSpot 114 = .ok (.iload 5, 2) := by decide +kernel
theorem dX1_addSpot_116 : decode cX1_addSpot 116 = .ok (.iaload, 1) := by decide +kernel
theorem dX1_addSpot_117 : decode cX1_addSpot 117 = .ok (.iload_n 3, 1) := by decide +kernel
theorem dX1_addSpot_118 : decode cX1_addSpot 118 = .ok (.if_icmp .ne 17, 3) := by decide +kernel
theorem dX1_addSpot_121 : decode cX1_addSpot 121 = .ok (.aload_n 0, 1) := by decide +kernel
theorem dX1_addSpot_122 : decode cX1_addSpot 122 = .ok (.getfield 32, 3) := by decide +kernel
theorem dX1_addSpot_125 : decode cX1_addSpot 125 = .ok (.iload 5, 2) := by decide +kernel
theorem dX1_addSpot_127 : decode cX1_addSpot 127 = .ok (.dup2, 1) := by decide +kernel
theorem dX1_addSpot_128 : decode cX1_addSpot 128 = .ok (.iaload, 1) := by decide +kernel
theorem dX1_addSpot_129 : decode cX1_addSpot 129 = .ok (.iconst 1, 1) := by decide +kernel
theorem dX1_addSpot_130 : decode cX1_addSpot 130 = .ok (.iload 4, 2) := by decide +kernel
theorem dX1_addSpot_132 : decode cX1_addSpot 132 = .ok (.ishl, 1) := by decide +kernel
theorem dX1_addSpot_133 : decode cX1_addSpot 133 = .ok (.ior, 1) := by decide +kernel
theorem dX1_addSpot_134 : decode cX1_addSpot 134 = .ok (.iastore, 1) := by decide +kernel
theorem dX1_addSpot_135 : decode cX1_addSpot 135 = .ok (.iinc 5 1, 3) := by decide +kernel
theorem dX1_addSpot_138 : decode cX1_addSpot 138 = .ok (.goto (-72), 3) := by decide +kernel
theorem dX1_addSpot_141 : decode cX1_addSpot 141 = .ok (.aload_n 0, 1) := by decide +kernel
theorem dX1_addSpot_142 : decode cX1_addSpot 142 = .ok (.dup, 1) := by decide +kernel
theorem dX1_addSpot_143 : decode cX1_addSpot 143 = .ok (.getfield 45, 3) := by decide +kernel
theorem dX1_addSpot_146 : decode cX1_addSpot 146 = .ok (.iconst 1, 1) := by decide +kernel
theorem dX1_addSpot_147 : decode cX1_addSpot 147 = .ok (.iadd, 1) := by decide +kernel
theorem dX1_addSpot_148 : decode cX1_addSpot 148 = .ok (.putfield 45, 3) := by decide +kernel
theorem dX1_addSpot_151 : decode cX1_addSpot 151 = .ok (.return_, 1) := by decide +kernel
theorem dX1_takesJoint_0 : decode cX1_takesJoint 0 = .ok (.aload_n 0, 1) := by decide +kernel
theorem dX1_takesJoint_1 : decode cX1_takesJoint 1 = .ok (.getfield 45, 3) := by decide +kernel
theorem dX1_takesJoint_4 : decode cX1_takesJoint 4 = .ok (.iconst 1, 1) := by decide +kernel
theorem dX1_takesJoint_5 : decode cX1_takesJoint 5 = .ok (.isub, 1) := by decide +kernel
theorem dX1_takesJoint_6 : decode cX1_takesJoint 6 = .ok (.istore_n 1, 1) := by decide +kernel
theorem dX1_takesJoint_7 : decode cX1_takesJoint 7 = .ok (.iload_n 1, 1) := by decide +kernel
theorem dX1_takesJoint_8 : decode cX1_takesJoint 8 = .ok (.iconst 1, 1) := by decide +kernel
theorem dX1_takesJoint_9 : decode cX1_takesJoint 9 = .ok (.if_icmp .lt 35, 3) := by decide +kernel
theorem dX1_takesJoint_12 : decode cX1_takesJoint 12 = .ok (.aload_n 0, 1) := by decide +kernel
theorem dX1_takesJoint_13 : decode cX1_takesJoint 13 = .ok (.getfield 23, 3) := by decide +kernel
theorem dX1_takesJoint_16 : decode cX1_takesJoint 16 = .ok (.iload_n 1, 1) := by decide +kernel
theorem dX1_takesJoint_17 : decode cX1_takesJoint 17 = .ok (.iaload, 1) := by decide +kernel
theorem dX1_takesJoint_18 : decode cX1_takesJoint 18 = .ok (.aload_n 0, 1) := by decide +kernel
theorem dX1_takesJoint_19 : decode cX1_takesJoint 19 = .ok (.getfield 41, 3) := by decide +kernel
theorem dX1_takesJoint_22 : decode cX1_takesJoint 22 = .ok (.iconst 1, 1) := by decide +kernel
theorem dX1_takesJoint_23 : decode cX1_takesJoint 23 = .ok (.isub, 1) := by decide +kernel
theorem dX1_takesJoint_24 : decode cX1_takesJoint 24 = .ok (.if_icmp .ne 20, 3) := by decide +kernel
theorem dX1_takesJoint_27 : decode cX1_takesJoint 27 = .ok (.aload_n 0, 1) := by decide +kernel
theorem dX1_takesJoint_28 : decode cX1_takesJoint 28 = .ok (.getfield 23, 3) := by decide +kernel
theorem dX1_takesJoint_31 : decode cX1_takesJoint 31 = .ok (.iload_n 1, 1) := by decide +kernel
theorem dX1_takesJoint_32 : decode cX1_takesJoint 32 = .ok (.iconst 1, 1) := by decide +kernel
theorem dX1_takesJoint_33 : decode cX1_takesJoint 33 = .ok (.isub, 1) := by decide +kernel
theorem dX1_takesJoint_34 : decode cX1_takesJoint 34 = .ok (.iaload, 1) := by decide +kernel
theorem dX1_takesJoint_35 : decode cX1_takesJoint 35 = .ok (.aload_n 0, 1) := by decide +kernel
theorem dX1_takesJoint_36 : decode cX1_takesJoint 36 = .ok (.getfield 41, 3) := by decide +kernel
theorem dX1_takesJoint_39 : decode cX1_takesJoint 39 = .ok (.iconst 1, 1) := by decide +kernel
theorem dX1_takesJoint_40 : decode cX1_takesJoint 40 = .ok (.isub, 1) := by decide +kernel
theorem dX1_takesJoint_41 : decode cX1_takesJoint 41 = .ok (.if_icmp .eq 5, 3) := by decide +kernel
theorem dX1_takesJoint_44 : decode cX1_takesJoint 44 = .ok (.iconst 0, 1) := by decide +kernel
theorem dX1_takesJoint_45 : decode cX1_takesJoint 45 = .ok (.ireturn, 1) := by decide +kernel
theorem dX1_takesJoint_46 : decode cX1_takesJoint 46 = .ok (.aload_n 0, 1) := by decide +kernel
theorem dX1_takesJoint_47 : decode cX1_takesJoint 47 = .ok (.getfield 48, 3) := by decide +kernel
theorem dX1_takesJoint_50 : decode cX1_takesJoint 50 = .ok (.ifCond .eq 18, 3) := by decide +kernel
theorem dX1_takesJoint_53 : decode cX1_takesJoint 53 = .ok (.aload_n 0, 1) := by decide +kernel
theorem dX1_takesJoint_54 : decode cX1_takesJoint 54 = .ok (.getfield 35, 3) := by decide +kernel
theorem dX1_takesJoint_57 : decode cX1_takesJoint 57 = .ok (.aload_n 0, 1) := by decide +kernel
theorem dX1_takesJoint_58 : decode cX1_takesJoint 58 = .ok (.getfield 48, 3) := by decide +kernel
theorem dX1_takesJoint_61 : decode cX1_takesJoint 61 = .ok (.iconst 1, 1) := by decide +kernel
theorem dX1_takesJoint_62 : decode cX1_takesJoint 62 = .ok (.isub, 1) := by decide +kernel
theorem dX1_takesJoint_63 : decode cX1_takesJoint 63 = .ok (.iaload, 1) := by decide +kernel
theorem dX1_takesJoint_64 : decode cX1_takesJoint 64 = .ok (.iload_n 1, 1) := by decide +kernel
theorem dX1_takesJoint_65 : decode cX1_takesJoint 65 = .ok (.if_icmp .eq 7, 3) := by decide +kernel
theorem dX1_takesJoint_68 : decode cX1_takesJoint 68 = .ok (.iconst 1, 1) := by decide +kernel
theorem dX1_takesJoint_69 : decode cX1_takesJoint 69 = .ok (.goto 4, 3) := by decide +kernel
theorem dX1_takesJoint_72 : decode cX1_takesJoint 72 = .ok (.iconst 0, 1) := by decide +kernel
theorem dX1_takesJoint_73 : decode cX1_takesJoint 73 = .ok (.ireturn, 1) := by decide +kernel
theorem dX1_addJoint_0 : decode cX1_addJoint 0 = .ok (.aload_n 0, 1) := by decide +kernel
theorem dX1_addJoint_1 : decode cX1_addJoint 1 = .ok (.getfield 48, 3) := by decide +kernel
theorem dX1_addJoint_4 : decode cX1_addJoint 4 = .ok (.bipush 6, 2) := by decide +kernel
theorem dX1_addJoint_6 : decode cX1_addJoint 6 = .ok (.if_icmp .ge 38, 3) := by decide +kernel
theorem dX1_addJoint_9 : decode cX1_addJoint 9 = .ok (.aload_n 0, 1) := by decide +kernel
theorem dX1_addJoint_10 : decode cX1_addJoint 10 = .ok (.getfield 35, 3) := by decide +kernel
theorem dX1_addJoint_13 : decode cX1_addJoint 13 = .ok (.aload_n 0, 1) := by decide +kernel
theorem dX1_addJoint_14 : decode cX1_addJoint 14 = .ok (.getfield 48, 3) := by decide +kernel
theorem dX1_addJoint_17 : decode cX1_addJoint 17 = .ok (.aload_n 0, 1) := by decide +kernel
theorem dX1_addJoint_18 : decode cX1_addJoint 18 = .ok (.getfield 45, 3) := by decide +kernel
theorem dX1_addJoint_21 : decode cX1_addJoint 21 = .ok (.iconst 1, 1) := by decide +kernel
theorem dX1_addJoint_22 : decode cX1_addJoint 22 = .ok (.isub, 1) := by decide +kernel
theorem dX1_addJoint_23 : decode cX1_addJoint 23 = .ok (.iastore, 1) := by decide +kernel
theorem dX1_addJoint_24 : decode cX1_addJoint 24 = .ok (.aload_n 0, 1) := by decide +kernel
theorem dX1_addJoint_25 : decode cX1_addJoint 25 = .ok (.getfield 38, 3) := by decide +kernel
theorem dX1_addJoint_28 : decode cX1_addJoint 28 = .ok (.aload_n 0, 1) := by decide +kernel
theorem dX1_addJoint_29 : decode cX1_addJoint 29 = .ok (.getfield 48, 3) := by decide +kernel
theorem dX1_addJoint_32 : decode cX1_addJoint 32 = .ok (.iload_n 1, 1) := by decide +kernel
theorem dX1_addJoint_33 : decode cX1_addJoint 33 = .ok (.iastore, 1) := by decide +kernel
theorem dX1_addJoint_34 : decode cX1_addJoint 34 = .ok (.aload_n 0, 1) := by decide +kernel
theorem dX1_addJoint_35 : decode cX1_addJoint 35 = .ok (.dup, 1) := by decide +kernel
theorem dX1_addJoint_36 : decode cX1_addJoint 36 = .ok (.getfield 48, 3) := by decide +kernel
theorem dX1_addJoint_39 : decode cX1_addJoint 39 = .ok (.iconst 1, 1) := by decide +kernel
theorem dX1_addJoint_40 : decode cX1_addJoint 40 = .ok (.iadd, 1) := by decide +kernel
theorem dX1_addJoint_41 : decode cX1_addJoint 41 = .ok (.putfield 48, 3) := by decide +kernel
theorem dX1_addJoint_44 : decode cX1_addJoint 44 = .ok (.return_, 1) := by decide +kernel
theorem dX1_isOnWay_0 : decode cX1_isOnWay 0 = .ok (.aload_n 0, 1) := by decide +kernel
theorem dX1_isOnWay_1 : decode cX1_isOnWay 1 = .ok (.iload_n 1, 1) := by decide +kernel
theorem dX1_isOnWay_2 : decode cX1_isOnWay 2 = .ok (.invokevirtual 61, 3) := by decide +kernel
theorem dX1_isOnWay_5 : decode cX1_isOnWay 5 = .ok (.ifCond .eq 29, 3) := by decide +kernel
theorem dX1_isOnWay_8 : decode cX1_isOnWay 8 = .ok (.aload_n 0, 1) := by decide +kernel
theorem dX1_isOnWay_9 : decode cX1_isOnWay 9 = .ok (.iload_n 2, 1) := by decide +kernel
theorem dX1_isOnWay_10 : decode cX1_isOnWay 10 = .ok (.invokevirtual 61, 3) := by decide +kernel
theorem dX1_isOnWay_13 : decode cX1_isOnWay 13 = .ok (.ifCond .eq 21, 3) := by decide +kernel
theorem dX1_isOnWay_16 : decode cX1_isOnWay 16 = .ok (.aload_n 0, 1) := by decide +kernel
theorem dX1_isOnWay_17 : decode cX1_isOnWay 17 = .ok (.getfield 32, 3) := by decide +kernel
theorem dX1_isOnWay_20 : decode cX1_isOnWay 20 = .ok (.iload_n 2, 1) := by decide +kernel
theorem dX1_isOnWay_21 : decode cX1_isOnWay 21 = .ok (.iaload, 1) := by decide +kernel
theorem dX1_isOnWay_22 : decode cX1_isOnWay 22 = .ok (.iload_n 1, 1) := by decide +kernel
theorem dX1_isOnWay_23 : decode cX1_isOnWay 23 = .ok (.ishr, 1) := by decide +kernel
theorem dX1_isOnWay_24 : decode cX1_isOnWay 24 = .ok (.iconst 1, 1) := by decide +kernel
theorem dX1_isOnWay_25 : decode cX1_isOnWay 25 = .ok (.iand, 1) := by decide +kernel
theorem dX1_isOnWay_26 : decode cX1_isOnWay 26 = .ok (.iconst 1, 1) := by decide +kernel
theorem dX1_isOnWay_27 : decode cX1_isOnWay 27 = .ok (.if_icmp .ne 7, 3) := by decide +kernel
theorem dX1_isOnWay_30 : decode cX1_isOnWay 30 = .ok (.iconst 1, 1) := by decide +kernel
theorem dX1_isOnWay_31 : decode cX1_isOnWay 31 = .ok (.goto 4, 3) := by decide +kernel
theorem dX1_isOnWay_34 : decode cX1_isOnWay 34 = .ok (.iconst 0, 1) := by decide +kernel
theorem dX1_isOnWay_35 : decode cX1_isOnWay 35 = .ok (.ireturn, 1) := by decide +kernel
theorem dX2_init_0 : decode cX2_init 0 = .ok (.aload_n 0, 1) := by decide +kernel
theorem dX2_init_1 : decode cX2_init 1 = .ok (.invokespecial 3, 3) := by decide +kernel
theorem dX2_init_4 : decode cX2_init 4 = .ok (.aload_n 0, 1) := by decide +kernel
theorem dX2_init_5 : decode cX2_init 5 = .ok (.bipush 8, 2) := by decide +kernel
theorem dX2_init_7 : decode cX2_init 7 = .ok (.anewarray 9, 3) := by decide +kernel
theorem dX2_init_10 : decode cX2_init 10 = .ok (.putfield 11, 3) := by decide +kernel
theorem dX2_init_13 : decode cX2_init 13 = .ok (.iconst 0, 1) := by decide +kernel
theorem dX2_init_14 : decode cX2_init 14 = .ok (.istore_n 1, 1) := by decide +kernel
theorem dX2_init_15 : decode cX2_init 15 = .ok (.iload_n 1, 1) := by decide +kernel
theorem dX2_init_16 : decode cX2_init 16 = .ok (.bipush 8, 2) := by decide +kernel
theorem dX2_init_18 : decode cX2_init 18 = .ok (.if_icmp .ge 22, 3) := by decide +kernel
theorem dX2_init_21 : decode cX2_init 21 = .ok (.aload_n 0, 1) := by decide +kernel
theorem dX2_init_22 : decode cX2_init 22 = .ok (.getfield 11, 3) := by decide +kernel
theorem dX2_init_25 : decode cX2_init 25 = .ok (.iload_n 1, 1) := by decide +kernel
theorem dX2_init_26 : decode cX2_init 26 = .ok (.new 9, 3) := by decide +kernel
theorem dX2_init_29 : decode cX2_init 29 = .ok (.dup, 1) := by decide +kernel
theorem dX2_init_30 : decode cX2_init 30 = .ok (.invokespecial 17, 3) := by decide +kernel
theorem dX2_init_33 : decode cX2_init 33 = .ok (.aastore, 1) := by decide +kernel
theorem dX2_init_34 : decode cX2_init 34 = .ok (.iinc 1 1, 3) := by decide +kernel
theorem dX2_init_37 : decode cX2_init 37 = .ok (.goto (-22), 3) := by decide +kernel
theorem dX2_init_40 : decode cX2_init 40 = .ok (.return_, 1) := by decide +kernel
theorem dX2_keep_0 : decode cX2_keep 0 = .ok (.aload_n 0, 1) := by decide +kernel
theorem dX2_keep_1 : decode cX2_keep 1 = .ok (.getfield 11, 3) := by decide +kernel
theorem dX2_keep_4 : decode cX2_keep 4 = .ok (.aload_n 0, 1) := by decide +kernel
theorem dX2_keep_5 : decode cX2_keep 5 = .ok (.getfield 18, 3) := by decide +kernel
theorem dX2_keep_8 : decode cX2_keep 8 = .ok (.aaload, 1) := by decide +kernel
theorem dX2_keep_9 : decode cX2_keep 9 = .ok (.astore_n 2, 1) := by decide +kernel
theorem dX2_keep_10 : decode cX2_keep 10 = .ok (.aload_n 2, 1) := by decide +kernel
theorem dX2_keep_11 : decode cX2_keep 11 = .ok (.ifnull 8, 3) := by decide +kernel
theorem dX2_keep_14 : decode cX2_keep 14 = .ok (.aload_n 2, 1) := by decide +kernel
theorem dX2_keep_15 : decode cX2_keep 15 = .ok (.aload_n 1, 1) := by decide +kernel
theorem dX2_keep_16 : decode cX2_keep 16 = .ok (.invokevirtual 22, 3) := by decide +kernel
theorem dX2_keep_19 : decode cX2_keep 19 = .ok (.aload_n 0, 1) := by decide +kernel
theorem dX2_keep_20 : decode cX2_keep 20 = .ok (.aload_n 0, 1) := by decide +kernel
theorem dX2_keep_21 : decode cX2_keep 21 = .ok (.getfield 18, 3) := by decide +kernel
theorem dX2_keep_24 : decode cX2_keep 24 = .ok (.iconst 1, 1) := by decide +kernel
theorem dX2_keep_25 : decode cX2_keep 25 = .ok (.iadd, 1) := by decide +kernel
theorem dX2_keep_26 : decode cX2_keep 26 = .ok (.bipush 8, 2) := by decide +kernel
theorem dX2_keep_28 : decode cX2_keep 28 = .ok (.irem, 1) := by decide +kernel
theorem dX2_keep_29 : decode cX2_keep 29 = .ok (.putfield 18, 3) := by decide +kernel
theorem dX2_keep_32 : decode cX2_keep 32 = .ok (.aload_n 0, 1) := by decide +kernel
theorem dX2_keep_33 : decode cX2_keep 33 = .ok (.aload_n 0, 1) := by decide +kernel
theorem dX2_keep_34 : decode cX2_keep 34 = .ok (.getfield 26, 3) := by decide +kernel
theorem dX2_keep_37 : decode cX2_keep 37 = .ok (.iconst 1, 1) := by decide +kernel
theorem dX2_keep_38 : decode cX2_keep 38 = .ok (.iadd, 1) := by decide +kernel
theorem dX2_keep_39 : decode cX2_keep 39 = .ok (.bipush 8, 2) := by decide +kernel
theorem dX2_keep_41 : decode cX2_keep 41 = .ok (.invokestatic 29, 3) := by decide +kernel
theorem dX2_keep_44 : decode cX2_keep 44 = .ok (.putfield 26, 3) := by decide +kernel
theorem dX2_keep_47 : decode cX2_keep 47 = .ok (.return_, 1) := by decide +kernel
theorem dX2_bringBack_0 : decode cX2_bringBack 0 = .ok (.aload_n 0, 1) := by decide +kernel
theorem dX2_bringBack_1 : decode cX2_bringBack 1 = .ok (.aload_n 0, 1) := by decide +kernel
theorem dX2_bringBack_2 : decode cX2_bringBack 2 = .ok (.getfield 18, 3) := by decide +kernel
theorem dX2_bringBack_5 : decode cX2_bringBack 5 = .ok (.bipush 8, 2) := by decide +kernel
theorem dX2_bringBack_7 : decode cX2_bringBack 7 = .ok (.iadd, 1) := by decide +kernel
theorem dX2_bringBack_8 : decode cX2_bringBack 8 = .ok (.iconst 1, 1) := by decide +kernel
theorem dX2_bringBack_9 : decode cX2_bringBack 9 = .ok (.isub, 1) := by decide +kernel
theorem dX2_bringBack_10 : decode cX2_bringBack 10 = .ok (.bipush 8, 2) := by decide +kernel
theorem dX2_bringBack_12 : decode cX2_bringBack 12 = .ok (.irem, 1) := by decide +kernel
theorem dX2_bringBack_13 : decode cX2_bringBack 13 = .ok (.putfield 18, 3) := by decide +kernel
theorem dX2_bringBack_16 : decode cX2_bringBack 16 = .ok (.aload_n 0, 1) := by decide +kernel
theorem dX2_bringBack_17 : decode cX2_bringBack 17 = .ok (.getfield 11, 3) := by decide +kernel
theorem dX2_bringBack_20 : decode cX2_bringBack 20 = .ok (.aload_n 0, 1) := by decide +kernel
theorem dX2_bringBack_21 : decode cX2_bringBack 21 = .ok (.getfield 18, 3) := by decide +kernel
theorem dX2_bringBack_24 : decode cX2_bringBack 24 = .ok (.aaload, 1) := by decide +kernel
theorem dX2_bringBack_25 : decode cX2_bringBack 25 = .ok (.astore_n 2, 1) := by decide +kernel
theorem dX2_bringBack_26 : decode cX2_bringBack 26 = .ok (.aload_n 2, 1) := by decide +kernel
theorem dX2_bringBack_27 : decode cX2_bringBack 27 = .ok (.ifnull 8, 3) := by decide +kernel
theorem dX2_bringBack_30 : decode cX2_bringBack 30 = .ok (.aload_n 1, 1) := by decide +kernel
theorem dX2_bringBack_31 : decode cX2_bringBack 31 = .ok (.aload_n 2, 1) := by decide +kernel
theorem dX2_bringBack_32 : decode cX2_bringBack 32 = .ok (.invokevirtual 22, 3) := by decide +kernel
theorem dX2_bringBack_35 : decode cX2_bringBack 35 = .ok (.aload_n 0, 1) := by decide +kernel
theorem dX2_bringBack_36 : decode cX2_bringBack 36 = .ok (.aload_n 0, 1) := by decide +kernel
theorem dX2_bringBack_37 : decode cX2_bringBack 37 = .ok (.getfield 26, 3) := by decide +kernel
theorem dX2_bringBack_40 : decode cX2_bringBack 40 = .ok (.iconst 1, 1) := by decide +kernel
theorem dX2_bringBack_41 : decode cX2_bringBack 41 = .ok (.isub, 1) := by decide +kernel
theorem dX2_bringBack_42 : decode cX2_bringBack 42 = .ok (.iconst 0, 1) := by decide +kernel
theorem dX2_bringBack_43 : decode cX2_bringBack 43 = .ok (.invokestatic 35, 3) := by decide +kernel
theorem dX2_bringBack_46 : decode cX2_bringBack 46 = .ok (.putfield 26, 3) := by decide +kernel
theorem dX2_bringBack_49 : decode cX2_bringBack 49 = .ok (.return_, 1) := by decide +kernel
theorem dX3_init_0 : decode cX3_init 0 = .ok (.aload_n 0, 1) := by decide +kernel
theorem dX3_init_1 : decode cX3_init 1 = .ok (.invokespecial 1, 3) := by decide +kernel
theorem dX3_init_4 : decode cX3_init 4 = .ok (.aload_n 0, 1) := by decide +kernel
theorem dX3_init_5 : decode cX3_init 5 = .ok (.new 7, 3) := by decide +kernel
theorem dX3_init_8 : decode cX3_init 8 = .ok (.dup, 1) := by decide +kernel
theorem dX3_init_9 : decode cX3_init 9 = .ok (.invokespecial 9, 3) := by decide +kernel
theorem dX3_init_12 : decode cX3_init 12 = .ok (.putfield 10, 3) := by decide +kernel
theorem dX3_init_15 : decode cX3_init 15 = .ok (.aload_n 0, 1) := by decide +kernel
theorem dX3_init_16 : decode cX3_init 16 = .ok (.new 16, 3) := by decide +kernel
theorem dX3_init_19 : decode cX3_init 19 = .ok (.dup, 1) := by decide +kernel
theorem dX3_init_20 : decode cX3_init 20 = .ok (.invokespecial 18, 3) := by decide +kernel
theorem dX3_init_23 : decode cX3_init 23 = .ok (.putfield 19, 3) := by decide +kernel
theorem dX3_init_26 : decode cX3_init 26 = .ok (.return_, 1) := by decide +kernel
theorem dX4_init_0 : decode cX4_init 0 = .ok (.aload_n 0, 1) := by decide +kernel
theorem dX4_init_1 : decode cX4_init 1 = .ok (.invokespecial 3, 3) := by decide +kernel
theorem dX4_init_4 : decode cX4_init 4 = .ok (.aload_n 0, 1) := by decide +kernel
theorem dX4_init_5 : decode cX4_init 5 = .ok (.bipush 10, 2) := by decide +kernel
theorem dX4_init_7 : decode cX4_init 7 = .ok (.newarray .int, 2) := by decide +kernel
theorem dX4_init_9 : decode cX4_init 9 = .ok (.putfield 11, 3) := by decide +kernel
theorem dX4_init_12 : decode cX4_init 12 = .ok (.aload_n 0, 1) := by decide +kernel
theorem dX4_init_13 : decode cX4_init 13 = .ok (.bipush 10, 2) := by decide +kernel
theorem dX4_init_15 : decode cX4_init 15 = .ok (.newarray .int, 2) := by decide +kernel
theorem dX4_init_17 : decode cX4_init 17 = .ok (.putfield 15, 3) := by decide +kernel
theorem dX4_init_20 : decode cX4_init 20 = .ok (.aload_n 0, 1) := by decide +kernel
theorem dX4_init_21 : decode cX4_init 21 = .ok (.iconst 5, 1) := by decide +kernel
theorem dX4_init_22 : decode cX4_init 22 = .ok (.newarray .int, 2) := by decide +kernel
theorem dX4_init_24 : decode cX4_init 24 = .ok (.putfield 18, 3) := by decide +kernel
theorem dX4_init_27 : decode cX4_init 27 = .ok (.aload_n 0, 1) := by decide +kernel
theorem dX4_init_28 : decode cX4_init 28 = .ok (.bipush 6, 2) := by decide +kernel
theorem dX4_init_30 : decode cX4_init 30 = .ok (.newarray .int, 2) := by decide +kernel
theorem dX4_init_32 : decode cX4_init 32 = .ok (.putfield 21, 3) := by decide +kernel
theorem dX4_init_35 : decode cX4_init 35 = .ok (.aload_n 0, 1) := by decide +kernel
theorem dX4_init_36 : decode cX4_init 36 = .ok (.sipush 720, 3) := by decide +kernel
theorem dX4_init_39 : decode cX4_init 39 = .ok (.newarray .int, 2) := by decide +kernel
theorem dX4_init_41 : decode cX4_init 41 = .ok (.putfield 26, 3) := by decide +kernel
theorem dX4_init_44 : decode cX4_init 44 = .ok (.return_, 1) := by decide +kernel
theorem dX4_seek_0 : decode cX4_seek 0 = .ok (.aload_n 2, 1) := by decide +kernel
theorem dX4_seek_1 : decode cX4_seek 1 = .ok (.invokevirtual 29, 3) := by decide +kernel
theorem dX4_seek_4 : decode cX4_seek 4 = .ok (.aload_n 2, 1) := by decide +kernel
theorem dX4_seek_5 : decode cX4_seek 5 = .ok (.getfield 35, 3) := by decide +kernel
theorem dX4_seek_8 : decode cX4_seek 8 = .ok (.if_icmp .eq 5, 3) := by decide +kernel
theorem dX4_seek_11 : decode cX4_seek 11 = .ok (.iconst (-1), 1) := by decide +kernel
theorem dX4_seek_12 : decode cX4_seek 12 = .ok (.ireturn, 1) := by decide +kernel
theorem dX4_seek_13 : decode cX4_seek 13 = .ok (.aload_n 0, 1) := by decide +kernel
theorem dX4_seek_14 : decode cX4_seek 14 = .ok (.aload_n 3, 1) := by decide +kernel
theorem dX4_seek_15 : decode cX4_seek 15 = .ok (.putfield 39, 3) := by decide +kernel
theorem dX4_seek_18 : decode cX4_seek 18 = .ok (.aload_n 0, 1) := by decide +kernel
theorem dX4_seek_19 : decode cX4_seek 19 = .ok (.aload_n 2, 1) := by decide +kernel
theorem dX4_seek_20 : decode cX4_seek 20 = .ok (.getfield 43, 3) := by decide +kernel
theorem dX4_seek_23 : decode cX4_seek 23 = .ok (.putfield 46, 3) := by decide +kernel
theorem dX4_seek_26 : decode cX4_seek 26 = .ok (.aload_n 0, 1) := by decide +kernel
theorem dX4_seek_27 : decode cX4_seek 27 = .ok (.aload_n 1, 1) := by decide +kernel
theorem dX4_seek_28 : decode cX4_seek 28 = .ok (.getfield 47, 3) := by decide +kernel
theorem dX4_seek_31 : decode cX4_seek 31 = .ok (.getfield 53, 3) := by decide +kernel
theorem dX4_seek_34 : decode cX4_seek 34 = .ok (.putfield 58, 3) := by decide +kernel
theorem dX4_seek_37 : decode cX4_seek 37 = .ok (.iconst 0, 1) := by decide +kernel
theorem dX4_seek_38 : decode cX4_seek 38 = .ok (.istore 4, 2) := by decide +kernel
theorem dX4_seek_40 : decode cX4_seek 40 = .ok (.iload 4, 2) := by decide +kernel
theorem dX4_seek_42 : decode cX4_seek 42 = .ok (.bipush 6, 2) := by decide +kernel
theorem dX4_seek_44 : decode cX4_seek 44 = .ok (.if_icmp .ge 22, 3) := by decide +kernel
theorem dX4_seek_47 : decode cX4_seek 47 = .ok (.aload_n 0, 1) := by decide +kernel
theorem dX4_seek_48 : decode cX4_seek 48 = .ok (.getfield 21, 3) := by decide +kernel
theorem dX4_seek_51 : decode cX4_seek 51 = .ok (.iload 4, 2) := by decide +kernel
theorem dX4_seek_53 : decode cX4_seek 53 = .ok (.aload_n 2, 1) := by decide +kernel
theorem dX4_seek_54 : decode cX4_seek 54 = .ok (.iload 4, 2) := by decide +kernel
theorem dX4_seek_56 : decode cX4_seek 56 = .ok (.invokevirtual 59, 3) := by decide +kernel
theorem dX4_seek_59 : decode cX4_seek 59 = .ok (.iastore, 1) := by decide +kernel
theorem dX4_seek_60 : decode cX4_seek 60 = .ok (.iinc 4 1, 3) := by decide +kernel
theorem dX4_seek_63 : decode cX4_seek 63 = .ok (.goto (-23), 3) := by decide +kernel
theorem dX4_seek_66 : decode cX4_seek 66 = .ok (.aload_n 2, 1) := by decide +kernel
theorem dX4_seek_67 : decode cX4_seek 67 = .ok (.getfield 63, 3) := by decide +kernel
theorem dX4_seek_70 : decode cX4_seek 70 = .ok (.iconst 0, 1) := by decide +kernel
theorem dX4_seek_71 : decode cX4_seek 71 = .ok (.aload_n 0, 1) := by decide +kernel
theorem dX4_seek_72 : decode cX4_seek 72 = .ok (.getfield 18, 3) := by decide +kernel
theorem dX4_seek_75 : decode cX4_seek 75 = .ok (.iconst 0, 1) := by decide +kernel
theorem dX4_seek_76 : decode cX4_seek 76 = .ok (.iconst 5, 1) := by decide +kernel
theorem dX4_seek_77 : decode cX4_seek 77 = .ok (.invokestatic 66, 3) := by decide +kernel
theorem dX4_seek_80 : decode cX4_seek 80 = .ok (.aload_n 0, 1) := by decide +kernel
theorem dX4_seek_81 : decode cX4_seek 81 = .ok (.aload_n 2, 1) := by decide +kernel
theorem dX4_seek_82 : decode cX4_seek 82 = .ok (.getfield 72, 3) := by decide +kernel
theorem dX4_seek_85 : decode cX4_seek 85 = .ok (.iconst 0, 1) := by decide +kernel
theorem dX4_seek_86 : decode cX4_seek 86 = .ok (.iaload, 1) := by decide +kernel
theorem dX4_seek_87 : decode cX4_seek 87 = .ok (.invokevirtual 75, 3) := by decide +kernel
theorem dX4_seek_90 : decode cX4_seek 90 = .ok (.istore 4, 2) := by decide +kernel
theorem dX4_seek_92 : decode cX4_seek 92 = .ok (.iload 4, 2) := by decide +kernel
theorem dX4_seek_94 : decode cX4_seek 94 = .ok (.bipush 10, 2) := by decide +kernel
theorem dX4_seek_96 : decode cX4_seek 96 = .ok (.if_icmp .le 5, 3) := by decide +kernel
theorem dX4_seek_99 : decode cX4_seek 99 = .ok (.iconst (-1), 1) := by decide +kernel
theorem dX4_seek_100 : decode cX4_seek 100 = .ok (.ireturn, 1) := by decide +kernel
theorem dX4_seek_101 : decode cX4_seek 101 = .ok (.iconst 0, 1) := by decide +kernel
theorem dX4_seek_102 : decode cX4_seek 102 = .ok (.istore 5, 2) := by decide +kernel
theorem dX4_seek_104 : decode cX4_seek 104 = .ok (.iload 5, 2) := by decide +kernel
theorem dX4_seek_106 : decode cX4_seek 106 = .ok (.iload 4, 2) := by decide +kernel
theorem dX4_seek_108 : decode cX4_seek 108 = .ok (.if_icmp .ge 73, 3) := by decide +kernel
theorem dX4_seek_111 : decode cX4_seek 111 = .ok (.aload_n 0, 1) := by decide +kernel
theorem dX4_seek_112 : decode cX4_seek 112 = .ok (.getfield 15, 3) := by decide +kernel
theorem dX4_seek_115 : decode cX4_seek 115 = .ok (.iload 5, 2) := by decide +kernel
theorem dX4_seek_117 : decode cX4_seek 117 = .ok (.aload_n 0, 1) := by decide +kernel
theorem dX4_seek_118 : decode cX4_seek 118 = .ok (.iload 4, 2) := by decide +kernel
theorem dX4_seek_120 : decode cX4_seek 120 = .ok (.iload 5, 2) := by decide +kernel
theorem dX4_seek_122 : decode cX4_seek 122 = .ok (.isub, 1) := by decide +kernel
theorem dX4_seek_123 : decode cX4_seek 123 = .ok (.invokevirtual 78, 3) := by decide +kernel
theorem dX4_seek_126 : decode cX4_seek 126 = .ok (.iastore, 1) := by decide +kernel
theorem dX4_seek_127 : decode cX4_seek 127 = .ok (.aload_n 0, 1) := by decide +kernel
theorem dX4_seek_128 : decode cX4_seek 128 = .ok (.getfield 15, 3) := by decide +kernel
theorem dX4_seek_131 : decode cX4_seek 131 = .ok (.iload 5, 2) := by decide +kernel
theorem dX4_seek_133 : decode cX4_seek 133 = .ok (.iaload, 1) := by decide +kernel
theorem dX4_seek_134 : decode cX4_seek 134 = .ok (.iconst (-1), 1) := by decide +kernel
theorem dX4_seek_135 : decode cX4_seek 135 = .ok (.if_icmp .ne 5, 3) := by decide +kernel
theorem dX4_seek_138 : decode cX4_seek 138 = .ok (.iconst (-1), 1) := by decide +kernel
theorem dX4_seek_139 : decode cX4_seek 139 = .ok (.ireturn, 1) := by decide +kernel
theorem dX4_seek_140 : decode cX4_seek 140 = .ok (.aload_n 0, 1) := by decide +kernel
theorem dX4_seek_141 : decode cX4_seek 141 = .ok (.aload_n 0, 1) := by decide +kernel
theorem dX4_seek_142 : decode cX4_seek 142 = .ok (.getfield 15, 3) := by decide +kernel
theorem dX4_seek_145 : decode cX4_seek 145 = .ok (.iload 5, 2) := by decide +kernel
theorem dX4_seek_147 : decode cX4_seek 147 = .ok (.iaload, 1) := by decide +kernel
theorem dX4_seek_148 : decode cX4_seek 148 = .ok (.bipush 10, 2) := by decide +kernel
theorem dX4_seek_150 : decode cX4_seek 150 = .ok (.idiv, 1) := by decide +kernel
theorem dX4_seek_151 : decode cX4_seek 151 = .ok (.aload_n 0, 1) := by decide +kernel
theorem dX4_seek_152 : decode cX4_seek 152 = .ok (.getfield 15, 3) := by decide +kernel
theorem dX4_seek_155 : decode cX4_seek 155 = .ok (.iload 5, 2) := by decide +kernel
theorem dX4_seek_157 : decode cX4_seek 157 = .ok (.iaload, 1) := by decide +kernel
theorem dX4_seek_158 : decode cX4_seek 158 = .ok (.bipush 10, 2) := by decide +kernel
theorem dX4_seek_160 : decode cX4_seek 160 = .ok (.irem, 1) := by decide +kernel
theorem dX4_seek_161 : decode cX4_seek 161 = .ok (.invokevirtual 81, 3) := by decide +kernel
theorem dX4_seek_164 : decode cX4_seek 164 = .ok (.aload_n 0, 1) := by decide +kernel
theorem dX4_seek_165 : decode cX4_seek 165 = .ok (.iload 4, 2) := by decide +kernel
theorem dX4_seek_167 : decode cX4_seek 167 = .ok (.iload 5, 2) := by decide +kernel
theorem dX4_seek_169 : decode cX4_seek 169 = .ok (.isub, 1) := by decide +kernel
theorem dX4_seek_170 : decode cX4_seek 170 = .ok (.iconst 1, 1) := by decide +kernel
theorem dX4_seek_171 : decode cX4_seek 171 = .ok (.isub, 1) := by decide +kernel
theorem dX4_seek_172 : decode cX4_seek 172 = .ok (.invokevirtual 85, 3) := by decide +kernel
theorem dX4_seek_175 : decode cX4_seek 175 = .ok (.iinc 5 1, 3) := by decide +kernel
theorem dX4_seek_178 : decode cX4_seek 178 = .ok (.goto (-74), 3) := by decide +kernel
theorem dX4_seek_181 : decode cX4_seek 181 = .ok (.iload 4, 2) := by decide +kernel
theorem dX4_seek_183 : decode cX4_seek 183 = .ok (.ireturn, 1) := by decide +kernel
theorem dX4_tell_0 : decode cX4_tell 0 = .ok (.aload_n 0, 1) := by decide +kernel
theorem dX4_tell_1 : decode cX4_tell 1 = .ok (.iload_n 1, 1) := by decide +kernel
theorem dX4_tell_2 : decode cX4_tell 2 = .ok (.bipush 10, 2) := by decide +kernel
theorem dX4_tell_4 : decode cX4_tell 4 = .ok (.invokestatic 89, 3) := by decide +kernel
theorem dX4_tell_7 : decode cX4_tell 7 = .ok (.putfield 95, 3) := by decide +kernel
theorem dX4_tell_10 : decode cX4_tell 10 = .ok (.iconst 0, 1) := by decide +kernel
theorem dX4_tell_11 : decode cX4_tell 11 = .ok (.istore_n 2, 1) := by decide +kernel
theorem dX4_tell_12 : decode cX4_tell 12 = .ok (.iload_n 2, 1) := by decide +kernel
theorem dX4_tell_13 : decode cX4_tell 13 = .ok (.aload_n 0, 1) := by decide +kernel
theorem dX4_tell_14 : decode cX4_tell 14 = .ok (.getfield 95, 3) := by decide +kernel
theorem dX4_tell_17 : decode cX4_tell 17 = .ok (.if_icmp .ge 21, 3) := by decide +kernel
theorem dX4_tell_20 : decode cX4_tell 20 = .ok (.aload_n 0, 1) := by decide +kernel
theorem dX4_tell_21 : decode cX4_tell 21 = .ok (.getfield 11, 3) := by decide +kernel
theorem dX4_tell_24 : decode cX4_tell 24 = .ok (.iload_n 2, 1) := by decide +kernel
theorem dX4_tell_25 : decode cX4_tell 25 = .ok (.aload_n 0, 1) := by decide +kernel
theorem dX4_tell_26 : decode cX4_tell 26 = .ok (.getfield 15, 3) := by decide +kernel
theorem dX4_tell_29 : decode cX4_tell 29 = .ok (.iload_n 2, 1) := by decide +kernel
theorem dX4_tell_30 : decode cX4_tell 30 = .ok (.iaload, 1) := by decide +kernel
theorem dX4_tell_31 : decode cX4_tell 31 = .ok (.iastore, 1) := by decide +kernel
theorem dX4_tell_32 : decode cX4_tell 32 = .ok (.iinc 2 1, 3) := by decide +kernel
theorem dX4_tell_35 : decode cX4_tell 35 = .ok (.goto (-23), 3) := by decide +kernel
theorem dX4_tell_38 : decode cX4_tell 38 = .ok (.return_, 1) := by decide +kernel
theorem dX4_toldMove_0 : decode cX4_toldMove 0 = .ok (.iload_n 1, 1) := by decide +kernel
theorem dX4_toldMove_1 : decode cX4_toldMove 1 = .ok (.ifCond .lt 20, 3) := by decide +kernel
theorem dX4_toldMove_4 : decode cX4_toldMove 4 = .ok (.iload_n 1, 1) := by decide +kernel
theorem dX4_toldMove_5 : decode cX4_toldMove 5 = .ok (.aload_n 0, 1) := by decide +kernel
theorem dX4_toldMove_6 : decode cX4_toldMove 6 = .ok (.getfield 95, 3) := by decide +kernel
theorem dX4_toldMove_9 : decode cX4_toldMove 9 = .ok (.if_icmp .ge 12, 3) := by decide +kernel
theorem dX4_toldMove_12 : decode cX4_toldMove 12 = .ok (.aload_n 0, 1) := by decide +kernel
theorem dX4_toldMove_13 : decode cX4_toldMove 13 = .ok (.getfield 11, 3) := by decide +kernel
theorem dX4_toldMove_16 : decode cX4_toldMove 16 = .ok (.iload_n 1, 1) := by decide +kernel
theorem dX4_toldMove_17 : decode cX4_toldMove 17 = .ok (.iaload, 1) := by decide +kernel
theorem dX4_toldMove_18 : decode cX4_toldMove 18 = .ok (.goto 4, 3) := by decide +kernel
theorem dX4_toldMove_21 : decode cX4_toldMove 21 = .ok (.iconst (-1), 1) := by decide +kernel
theorem dX4_toldMove_22 : decode cX4_toldMove 22 = .ok (.ireturn, 1) := by decide +kernel
theorem dX4_putAllInto_0 : decode cX4_putAllInto 0 = .ok (.aload_n 0, 1) := by decide +kernel
theorem dX4_putAllInto_1 : decode cX4_putAllInto 1 = .ok (.getfield 18, 3) := by decide +kernel
theorem dX4_putAllInto_4 : decode cX4_putAllInto 4 = .ok (.iconst 0, 1) := by decide +kernel
theorem dX4_putAllInto_5 : decode cX4_putAllInto 5 = .ok (.aload_n 1, 1) := by decide +kernel
theorem dX4_putAllInto_6 : decode cX4_putAllInto 6 = .ok (.getfield 63, 3) := by decide +kernel
theorem dX4_putAllInto_9 : decode cX4_putAllInto 9 = .ok (.iconst 0, 1) := by decide +kernel
theorem dX4_putAllInto_10 : decode cX4_putAllInto 10 = .ok (.iconst 5, 1) := by decide +kernel
theorem dX4_putAllInto_11 : decode cX4_putAllInto 11 = .ok (.invokestatic 66, 3) := by decide +kernel
theorem dX4_putAllInto_14 : decode cX4_putAllInto 14 = .ok (.return_, 1) := by decide +kernel
theorem dX4_findNearRows_0 : decode cX4_findNearRows 0 = .ok (.iconst (-1), 1) := by decide +kernel
theorem dX4_findNearRows_1 : decode cX4_findNearRows 1 = .ok (.istore_n 2, 1) := by decide +kernel
theorem dX4_findNearRows_2 : decode cX4_findNearRows 2 = .ok (.aload_n 0, 1) := by decide +kernel
theorem dX4_findNearRows_3 : decode cX4_findNearRows 3 = .ok (.iconst 0, 1) := by decide +kernel
theorem dX4_findNearRows_4 : decode cX4_findNearRows 4 = .ok (.putfield 98, 3) := by decide +kernel
theorem dX4_findNearRows_7 : decode cX4_findNearRows 7 = .ok (.iconst 0, 1) := by decide +kernel
theorem dX4_findNearRows_8 : decode cX4_findNearRows 8 = .ok (.istore_n 3, 1) := by decide +kernel
theorem dX4_findNearRows_9 : decode cX4_findNearRows 9 = .ok (.iload_n 3, 1) := by decide +kernel
theorem dX4_findNearRows_10 : decode cX4_findNearRows 10 = .ok (.aload_n 0, 1) := by decide +kernel
theorem dX4_findNearRows_11 : decode cX4_findNearRows 11 = .ok (.getfield 39, 3) := by decide +kernel
theorem dX4_findNearRows_14 : decode cX4_findNearRows 14 = .ok (.getfield 101, 3) := by decide +kernel
theorem dX4_findNearRows_17 : decode cX4_findNearRows 17 = .ok (.if_icmp .ge 93, 3) := by decide +kernel
theorem dX4_findNearRows_20 : decode cX4_findNearRows 20 = .ok (.aload_n 0, 1) := by decide +kernel
theorem dX4_findNearRows_21 : decode cX4_findNearRows 21 = .ok (.getfield 39, 3) := by decide +kernel
theorem dX4_findNearRows_24 : decode cX4_findNearRows 24 = .ok (.iload_n 3, 1) := by decide +kernel
theorem dX4_findNearRows_25 : decode cX4_findNearRows 25 = .ok (.iload_n 1, 1) := by decide +kernel
theorem dX4_findNearRows_26 : decode cX4_findNearRows 26 = .ok (.invokevirtual 104, 3) := by decide +kernel
theorem dX4_findNearRows_29 : decode cX4_findNearRows 29 = .ok (.ifCond .eq 11, 3) := by decide +kernel
theorem dX4_findNearRows_32 : decode cX4_findNearRows 32 = .ok (.aload_n 0, 1) := by decide +kernel
theorem dX4_findNearRows_33 : decode cX4_findNearRows 33 = .ok (.iload_n 3, 1) := by decide +kernel
theorem dX4_findNearRows_34 : decode cX4_findNearRows 34 = .ok (.invokevirtual 108, 3) := by decide +kernel
theorem dX4_findNearRows_37 : decode cX4_findNearRows 37 = .ok (.goto 4, 3) := by decide +kernel
theorem dX4_findNearRows_40 : decode cX4_findNearRows 40 = .ok (.iconst (-1), 1) := by decide +kernel
theorem dX4_findNearRows_41 : decode cX4_findNearRows 41 = .ok (.istore 4, 2) := by decide +kernel
theorem dX4_findNearRows_43 : decode cX4_findNearRows 43 = .ok (.iload 4, 2) := by decide +kernel
theorem dX4_findNearRows_45 : decode cX4_findNearRows 45 = .ok (.iconst (-1), 1) := by decide +kernel
theorem dX4_findNearRows_46 : decode cX4_findNearRows 46 = .ok (.if_icmp .eq 58, 3) := by decide +kernel
theorem dX4_findNearRows_49 : decode cX4_findNearRows 49 = .ok (.iload_n 2, 1) := by decide +kernel
theorem dX4_findNearRows_50 : decode cX4_findNearRows 50 = .ok (.iconst (-1), 1) := by decide +kernel
theorem dX4_findNearRows_51 : decode cX4_findNearRows 51 = .ok (.if_icmp .eq 12, 3) := by decide +kernel
theorem dX4_findNearRows_54 : decode cX4_findNearRows 54 = .ok (.iload 4, 2) := by decide +kernel
theorem dX4_findNearRows_56 : decode cX4_findNearRows 56 = .ok (.iload_n 2, 1) := by decide +kernel
theorem dX4_findNearRows_57 : decode cX4_findNearRows 57 = .ok (.if_icmp .le 6, 3) := by decide +kernel
theorem dX4_findNearRows_60 : decode cX4_findNearRows 60 = .ok (.goto 44, 3) := by decide +kernel
theorem dX4_findNearRows_63 : decode cX4_findNearRows 63 = .ok (.aload_n 0, 1) := by decide +kernel
theorem dX4_findNearRows_64 : decode cX4_findNearRows 64 = .ok (.iload 4, 2) := by decide +kernel
theorem dX4_findNearRows_66 : decode cX4_findNearRows 66 = .ok (.iload_n 2, 1) := by decide +kernel
theorem dX4_findNearRows_67 : decode cX4_findNearRows 67 = .ok (.if_icmp .ne 10, 3) := by decide +kernel
theorem dX4_findNearRows_70 : decode cX4_findNearRows 70 = .ok (.aload_n 0, 1) := by decide +kernel
theorem dX4_findNearRows_71 : decode cX4_findNearRows 71 = .ok (.getfield 98, 3) := by decide +kernel
theorem dX4_findNearRows_74 : decode cX4_findNearRows 74 = .ok (.goto 4, 3) := by decide +kernel
theorem dX4_findNearRows_77 : decode cX4_findNearRows 77 = .ok (.iconst 0, 1) := by decide +kernel
theorem dX4_findNearRows_78 : decode cX4_findNearRows 78 = .ok (.putfield 98, 3) := by decide +kernel
theorem dX4_findNearRows_81 : decode cX4_findNearRows 81 = .ok (.iload 4, 2) := by decide +kernel
theorem dX4_findNearRows_83 : decode cX4_findNearRows 83 = .ok (.istore_n 2, 1) := by decide +kernel
theorem dX4_findNearRows_84 : decode cX4_findNearRows 84 = .ok (.aload_n 0, 1) := by decide +kernel
theorem dX4_findNearRows_85 : decode cX4_findNearRows 85 = .ok (.getfield 26, 3) := by decide +kernel
theorem dX4_findNearRows_88 : decode cX4_findNearRows 88 = .ok (.aload_n 0, 1) := by decide +kernel
theorem dX4_findNearRows_89 : decode cX4_findNearRows 89 = .ok (.getfield 98, 3) := by decide +kernel
theorem dX4_findNearRows_92 : decode cX4_findNearRows 92 = .ok (.iload_n 3, 1) := by decide +kernel
theorem dX4_findNearRows_93 : decode cX4_findNearRows 93 = .ok (.iastore, 1) := by decide +kernel
theorem dX4_findNearRows_94 : decode cX4_findNearRows 94 = .ok (.aload_n 0, 1) := by decide +kernel
theorem dX4_findNearRows_95 : decode cX4_findNearRows 95 = .ok (.dup, 1) := by decide +kernel
theorem dX4_findNearRows_96 : decode cX4_findNearRows 96 = .ok (.getfield 98, 3) := by decide +kernel
theorem dX4_findNearRows_99 : decode cX4_findNearRows 99 = .ok (.iconst 1, 1) := by decide +kernel
theorem dX4_findNearRows_100 : decode cX4_findNearRows 100 = .ok (.iadd, 1) := by decide +kernel
theorem dX4_findNearRows_101 : decode cX4_findNearRows 101 = .ok (.putfield 98, 3) := by decide +kernel
theorem dX4_findNearRows_104 : decode cX4_findNearRows 104 = .ok (.iinc 3 1, 3) := by decide +kernel
theorem dX4_findNearRows_107 : decode cX4_findNearRows 107 = .ok (.goto (-98), 3) := by decide +kernel
theorem dX4_findNearRows_110 : decode cX4_findNearRows 110 = .ok (.iload_n 2, 1) := by decide +kernel
theorem dX4_findNearRows_111 : decode cX4_findNearRows 111 = .ok (.ireturn, 1) := by decide +kernel
theorem dX4_keepNearRows_0 : decode cX4_keepNearRows 0 = .ok (.iconst 0, 1) := by decide +kernel
theorem dX4_keepNearRows_1 : decode cX4_keepNearRows 1 = .ok (.istore_n 2, 1) := by decide +kernel
theorem dX4_keepNearRows_2 : decode cX4_keepNearRows 2 = .ok (.iconst 0, 1) := by decide +kernel
theorem dX4_keepNearRows_3 : decode cX4_keepNearRows 3 = .ok (.istore_n 3, 1) := by decide +kernel
theorem dX4_keepNearRows_4 : decode cX4_keepNearRows 4 = .ok (.iload_n 3, 1) := by decide +kernel
theorem dX4_keepNearRows_5 : decode cX4_keepNearRows 5 = .ok (.aload_n 0, 1) := by decide +kernel
theorem dX4_keepNearRows_6 : decode cX4_keepNearRows 6 = .ok (.getfield 98, 3) := by decide +kernel
theorem dX4_keepNearRows_9 : decode cX4_keepNearRows 9 = .ok (.if_icmp .ge 38, 3) := by decide +kernel
theorem dX4_keepNearRows_12 : decode cX4_keepNearRows 12 = .ok (.aload_n 0, 1) := by decide +kernel
theorem dX4_keepNearRows_13 : decode cX4_keepNearRows 13 = .ok (.aload_n 0, 1) := by decide +kernel
theorem dX4_keepNearRows_14 : decode cX4_keepNearRows 14 = .ok (.getfield 26, 3) := by decide +kernel
theorem dX4_keepNearRows_17 : decode cX4_keepNearRows 17 = .ok (.iload_n 3, 1) := by decide +kernel
theorem dX4_keepNearRows_18 : decode cX4_keepNearRows 18 = .ok (.iaload, 1) := by decide +kernel
theorem dX4_keepNearRows_19 : decode cX4_keepNearRows 19 = .ok (.invokevirtual 108, 3) := by decide +kernel
theorem dX4_keepNearRows_22 : decode cX4_keepNearRows 22 = .ok (.iload_n 1, 1) := by decide +kernel
theorem dX4_keepNearRows_23 : decode cX4_keepNearRows 23 = .ok (.if_icmp .ne 18, 3) := by decide +kernel
theorem dX4_keepNearRows_26 : decode cX4_keepNearRows 26 = .ok (.aload_n 0, 1) := by decide +kernel
theorem dX4_keepNearRows_27 : decode cX4_keepNearRows 27 = .ok (.getfield 26, 3) := by decide +kernel
theorem dX4_keepNearRows_30 : decode cX4_keepNearRows 30 = .ok (.iload_n 2, 1) := by decide +kernel
theorem dX4_keepNearRows_31 : decode cX4_keepNearRows 31 = .ok (.aload_n 0, 1) := by decide +kernel
theorem dX4_keepNearRows_32 : decode cX4_keepNearRows 32 = .ok (.getfield 26, 3) := by decide +kernel
theorem dX4_keepNearRows_35 : decode cX4_keepNearRows 35 = .ok (.iload_n 3, 1) := by decide +kernel
theorem dX4_keepNearRows_36 : decode cX4_keepNearRows 36 = .ok (.iaload, 1) := by decide +kernel
theorem dX4_keepNearRows_37 : decode cX4_keepNearRows 37 = .ok (.iastore, 1) := by decide +kernel
theorem dX4_keepNearRows_38 : decode cX4_keepNearRows 38 = .ok (.iinc 2 1, 3) := by decide +kernel
theorem dX4_keepNearRows_41 : decode cX4_keepNearRows 41 = .ok (.iinc 3 1, 3) := by decide +kernel
theorem dX4_keepNearRows_44 : decode cX4_keepNearRows 44 = .ok (.goto (-40), 3) := by decide +kernel
theorem dX4_keepNearRows_47 : decode cX4_keepNearRows 47 = .ok (.aload_n 0, 1) := by decide +kernel
theorem dX4_keepNearRows_48 : decode cX4_keepNearRows 48 = .ok (.iload_n 2, 1) := by decide +kernel
theorem dX4_keepNearRows_49 : decode cX4_keepNearRows 49 = .ok (.putfield 98, 3) := by decide +kernel
theorem dX4_keepNearRows_52 : decode cX4_keepNearRows 52 = .ok (.return_, 1) := by decide +kernel
theorem dX4_movesTo_0 : decode cX4_movesTo 0 = .ok (.iconst 0, 1) := by decide +kernel
theorem dX4_movesTo_1 : decode cX4_movesTo 1 = .ok (.istore_n 2, 1) := by decide +kernel
theorem dX4_movesTo_2 : decode cX4_movesTo 2 = .ok (.iconst 0, 1) := by decide +kernel
theorem dX4_movesTo_3 : decode cX4_movesTo 3 = .ok (.istore_n 3, 1) := by decide +kernel
theorem dX4_movesTo_4 : decode cX4_movesTo 4 = .ok (.iload_n 3, 1) := by decide +kernel
theorem dX4_movesTo_5 : decode cX4_movesTo 5 = .ok (.aload_n 0, 1) := by decide +kernel
theorem dX4_movesTo_6 : decode cX4_movesTo 6 = .ok (.getfield 46, 3) := by decide +kernel
theorem dX4_movesTo_9 : decode cX4_movesTo 9 = .ok (.if_icmp .ge 45, 3) := by decide +kernel
theorem dX4_movesTo_12 : decode cX4_movesTo 12 = .ok (.aload_n 0, 1) := by decide +kernel
theorem dX4_movesTo_13 : decode cX4_movesTo 13 = .ok (.getfield 18, 3) := by decide +kernel
theorem dX4_movesTo_16 : decode cX4_movesTo 16 = .ok (.iload_n 3, 1) := by decide +kernel
theorem dX4_movesTo_17 : decode cX4_movesTo 17 = .ok (.iaload, 1) := by decide +kernel
theorem dX4_movesTo_18 : decode cX4_movesTo 18 = .ok (.aload_n 0, 1) := by decide +kernel
theorem dX4_movesTo_19 : decode cX4_movesTo 19 = .ok (.getfield 39, 3) := by decide +kernel
theorem dX4_movesTo_22 : decode cX4_movesTo 22 = .ok (.iload_n 1, 1) := by decide +kernel
theorem dX4_movesTo_23 : decode cX4_movesTo 23 = .ok (.iload_n 3, 1) := by decide +kernel
theorem dX4_movesTo_24 : decode cX4_movesTo 24 = .ok (.invokevirtual 111, 3) := by decide +kernel
theorem dX4_movesTo_27 : decode cX4_movesTo 27 = .ok (.if_icmp .eq 21, 3) := by decide +kernel
theorem dX4_movesTo_30 : decode cX4_movesTo 30 = .ok (.iload_n 2, 1) := by decide +kernel
theorem dX4_movesTo_31 : decode cX4_movesTo 31 = .ok (.aload_n 0, 1) := by decide +kernel
theorem dX4_movesTo_32 : decode cX4_movesTo 32 = .ok (.iload_n 1, 1) := by decide +kernel
theorem dX4_movesTo_33 : decode cX4_movesTo 33 = .ok (.iload_n 3, 1) := by decide +kernel
theorem dX4_movesTo_34 : decode cX4_movesTo 34 = .ok (.invokevirtual 114, 3) := by decide +kernel
theorem dX4_movesTo_37 : decode cX4_movesTo 37 = .ok (.iload_n 3, 1) := by decide +kernel
theorem dX4_movesTo_38 : decode cX4_movesTo 38 = .ok (.if_icmp .ne 7, 3) := by decide +kernel
theorem dX4_movesTo_41 : decode cX4_movesTo 41 = .ok (.iconst 2, 1) := by decide +kernel
theorem dX4_movesTo_42 : decode cX4_movesTo 42 = .ok (.goto 4, 3) := by decide +kernel
theorem dX4_movesTo_45 : decode cX4_movesTo 45 = .ok (.iconst 1, 1) := by decide +kernel
theorem dX4_movesTo_46 : decode cX4_movesTo 46 = .ok (.iadd, 1) := by decide +kernel
theorem dX4_movesTo_47 : decode cX4_movesTo 47 = .ok (.istore_n 2, 1) := by decide +kernel
theorem dX4_movesTo_48 : decode cX4_movesTo 48 = .ok (.iinc 3 1, 3) := by decide +kernel
theorem dX4_movesTo_51 : decode cX4_movesTo 51 = .ok (.goto (-47), 3) := by decide +kernel
theorem dX4_movesTo_54 : decode cX4_movesTo 54 = .ok (.iload_n 2, 1) := by decide +kernel
theorem dX4_movesTo_55 : decode cX4_movesTo 55 = .ok (.ifCond .le 15, 3) := by decide +kernel
theorem dX4_movesTo_58 : decode cX4_movesTo 58 = .ok (.aload_n 0, 1) := by decide +kernel
theorem dX4_movesTo_59 : decode cX4_movesTo 59 = .ok (.invokevirtual 117, 3) := by decide +kernel
theorem dX4_movesTo_62 : decode cX4_movesTo 62 = .ok (.iconst (-1), 1) := by decide +kernel
theorem dX4_movesTo_63 : decode cX4_movesTo 63 = .ok (.if_icmp .ne 7, 3) := by decide +kernel
theorem dX4_movesTo_66 : decode cX4_movesTo 66 = .ok (.iconst (-1), 1) := by decide +kernel
theorem dX4_movesTo_67 : decode cX4_movesTo 67 = .ok (.goto 4, 3) := by decide +kernel
theorem dX4_movesTo_70 : decode cX4_movesTo 70 = .ok (.iload_n 2, 1) := by decide +kernel
theorem dX4_movesTo_71 : decode cX4_movesTo 71 = .ok (.ireturn, 1) := by decide +kernel
theorem dX4_leastMove_0 : decode cX4_leastMove 0 = .ok (.iconst (-1), 1) := by decide +kernel
theorem dX4_leastMove_1 : decode cX4_leastMove 1 = .ok (.istore_n 2, 1) := by decide +kernel
theorem dX4_leastMove_2 : decode cX4_leastMove 2 = .ok (.iconst 0, 1) := by decide +kernel
theorem dX4_leastMove_3 : decode cX4_leastMove 3 = .ok (.istore_n 3, 1) := by decide +kernel
theorem dX4_leastMove_4 : decode cX4_leastMove 4 = .ok (.iload_n 3, 1) := by decide +kernel
theorem dX4_leastMove_5 : decode cX4_leastMove 5 = .ok (.aload_n 0, 1) := by decide +kernel
theorem dX4_leastMove_6 : decode cX4_leastMove 6 = .ok (.getfield 98, 3) := by decide +kernel
theorem dX4_leastMove_9 : decode cX4_leastMove 9 = .ok (.if_icmp .ge 42, 3) := by decide +kernel
theorem dX4_leastMove_12 : decode cX4_leastMove 12 = .ok (.aload_n 0, 1) := by decide +kernel
theorem dX4_leastMove_13 : decode cX4_leastMove 13 = .ok (.aload_n 0, 1) := by decide +kernel
theorem dX4_leastMove_14 : decode cX4_leastMove 14 = .ok (.getfield 26, 3) := by decide +kernel
theorem dX4_leastMove_17 : decode cX4_leastMove 17 = .ok (.iload_n 3, 1) := by decide +kernel
theorem dX4_leastMove_18 : decode cX4_leastMove 18 = .ok (.iaload, 1) := by decide +kernel
theorem dX4_leastMove_19 : decode cX4_leastMove 19 = .ok (.iload_n 1, 1) := by decide +kernel
theorem dX4_leastMove_20 : decode cX4_leastMove 20 = .ok (.invokevirtual 120, 3) := by decide +kernel
theorem dX4_leastMove_23 : decode cX4_leastMove 23 = .ok (.istore 4, 2) := by decide +kernel
theorem dX4_leastMove_25 : decode cX4_leastMove 25 = .ok (.iload 4, 2) := by decide +kernel
theorem dX4_leastMove_27 : decode cX4_leastMove 27 = .ok (.iconst (-1), 1) := by decide +kernel
theorem dX4_leastMove_28 : decode cX4_leastMove 28 = .ok (.if_icmp .eq 17, 3) := by decide +kernel
theorem dX4_leastMove_31 : decode cX4_leastMove 31 = .ok (.iload_n 2, 1) := by decide +kernel
theorem dX4_leastMove_32 : decode cX4_leastMove 32 = .ok (.iconst (-1), 1) := by decide +kernel
theorem dX4_leastMove_33 : decode cX4_leastMove 33 = .ok (.if_icmp .eq 9, 3) := by decide +kernel
theorem dX4_leastMove_36 : decode cX4_leastMove 36 = .ok (.iload 4, 2) := by decide +kernel
theorem dX4_leastMove_38 : decode cX4_leastMove 38 = .ok (.iload_n 2, 1) := by decide +kernel
theorem dX4_leastMove_39 : decode cX4_leastMove 39 = .ok (.if_icmp .ge 6, 3) := by decide +kernel
theorem dX4_leastMove_42 : decode cX4_leastMove 42 = .ok (.iload 4, 2) := by decide +kernel
theorem dX4_leastMove_44 : decode cX4_leastMove 44 = .ok (.istore_n 2, 1) := by decide +kernel
theorem dX4_leastMove_45 : decode cX4_leastMove 45 = .ok (.iinc 3 1, 3) := by decide +kernel
theorem dX4_leastMove_48 : decode cX4_leastMove 48 = .ok (.goto (-44), 3) := by decide +kernel
theorem dX4_leastMove_51 : decode cX4_leastMove 51 = .ok (.iload_n 2, 1) := by decide +kernel
theorem dX4_leastMove_52 : decode cX4_leastMove 52 = .ok (.ireturn, 1) := by decide +kernel
theorem dX4_leastMoveTo_0 : decode cX4_leastMoveTo 0 = .ok (.iconst 0, 1) := by decide +kernel
theorem dX4_leastMoveTo_1 : decode cX4_leastMoveTo 1 = .ok (.istore_n 3, 1) := by decide +kernel
theorem dX4_leastMoveTo_2 : decode cX4_leastMoveTo 2 = .ok (.iload_n 3, 1) := by decide +kernel
theorem dX4_leastMoveTo_3 : decode cX4_leastMoveTo 3 = .ok (.aload_n 0, 1) := by decide +kernel
theorem dX4_leastMoveTo_4 : decode cX4_leastMoveTo 4 = .ok (.getfield 46, 3) := by decide +kernel
theorem dX4_leastMoveTo_7 : decode cX4_leastMoveTo 7 = .ok (.if_icmp .ge 89, 3) := by decide +kernel
theorem dX4_leastMoveTo_10 : decode cX4_leastMoveTo 10 = .ok (.aload_n 0, 1) := by decide +kernel
theorem dX4_leastMoveTo_11 : decode cX4_leastMoveTo 11 = .ok (.getfield 39, 3) := by decide +kernel
theorem dX4_leastMoveTo_14 : decode cX4_leastMoveTo 14 = .ok (.iload_n 1, 1) := by decide +kernel
theorem dX4_leastMoveTo_15 : decode cX4_leastMoveTo 15 = .ok (.iload_n 3, 1) := by decide +kernel
theorem dX4_leastMoveTo_16 : decode cX4_leastMoveTo 16 = .ok (.invokevirtual 111, 3) := by decide +kernel
theorem dX4_leastMoveTo_19 : decode cX4_leastMoveTo 19 = .ok (.istore 4, 2) := by decide +kernel
theorem dX4_leastMoveTo_21 : decode cX4_leastMoveTo 21 = .ok (.aload_n 0, 1) := by decide +kernel
theorem dX4_leastMoveTo_22 : decode cX4_leastMoveTo 22 = .ok (.getfield 18, 3) := by decide +kernel
theorem dX4_leastMoveTo_25 : decode cX4_leastMoveTo 25 = .ok (.iload_n 3, 1) := by decide +kernel
theorem dX4_leastMoveTo_26 : decode cX4_leastMoveTo 26 = .ok (.iaload, 1) := by decide +kernel
theorem dX4_leastMoveTo_27 : decode cX4_leastMoveTo 27 = .ok (.iload 4, 2) := by decide +kernel
theorem dX4_leastMoveTo_29 : decode cX4_leastMoveTo 29 = .ok (.if_icmp .ne 6, 3) := by decide +kernel
theorem dX4_leastMoveTo_32 : decode cX4_leastMoveTo 32 = .ok (.goto 58, 3) := by decide +kernel
theorem dX4_leastMoveTo_35 : decode cX4_leastMoveTo 35 = .ok (.aload_n 0, 1) := by decide +kernel
theorem dX4_leastMoveTo_36 : decode cX4_leastMoveTo 36 = .ok (.iload 4, 2) := by decide +kernel
theorem dX4_leastMoveTo_38 : decode cX4_leastMoveTo 38 = .ok (.invokevirtual 123, 3) := by decide +kernel
theorem dX4_leastMoveTo_41 : decode cX4_leastMoveTo 41 = .ok (.iconst (-1), 1) := by decide +kernel
theorem dX4_leastMoveTo_42 : decode cX4_leastMoveTo 42 = .ok (.if_icmp .ne 20, 3) := by decide +kernel
theorem dX4_leastMoveTo_45 : decode cX4_leastMoveTo 45 = .ok (.aload_n 0, 1) := by decide +kernel
theorem dX4_leastMoveTo_46 : decode cX4_leastMoveTo 46 = .ok (.iload_n 3, 1) := by decide +kernel
theorem dX4_leastMoveTo_47 : decode cX4_leastMoveTo 47 = .ok (.iload_n 2, 1) := by decide +kernel
theorem dX4_leastMoveTo_48 : decode cX4_leastMoveTo 48 = .ok (.invokevirtual 124, 3) := by decide +kernel
theorem dX4_leastMoveTo_51 : decode cX4_leastMoveTo 51 = .ok (.ifCond .ne 11, 3) := by decide +kernel
theorem dX4_leastMoveTo_54 : decode cX4_leastMoveTo 54 = .ok (.bipush 10, 2) := by decide +kernel
theorem dX4_leastMoveTo_56 : decode cX4_leastMoveTo 56 = .ok (.iload_n 3, 1) := by decide +kernel
theorem dX4_leastMoveTo_57 : decode cX4_leastMoveTo 57 = .ok (.imul, 1) := by decide +kernel
theorem dX4_leastMoveTo_58 : decode cX4_leastMoveTo 58 = .ok (.iload 4, 2) := by decide +kernel
theorem dX4_leastMoveTo_60 : decode cX4_leastMoveTo 60 = .ok (.iadd, 1) := by decide +kernel
theorem dX4_leastMoveTo_61 : decode cX4_leastMoveTo 61 = .ok (.ireturn, 1) := by decide +kernel
theorem dX4_leastMoveTo_62 : decode cX4_leastMoveTo 62 = .ok (.aload_n 0, 1) := by decide +kernel
theorem dX4_leastMoveTo_63 : decode cX4_leastMoveTo 63 = .ok (.iload_n 1, 1) := by decide +kernel
theorem dX4_leastMoveTo_64 : decode cX4_leastMoveTo 64 = .ok (.iload_n 3, 1) := by decide +kernel
theorem dX4_leastMoveTo_65 : decode cX4_leastMoveTo 65 = .ok (.invokevirtual 114, 3) := by decide +kernel
theorem dX4_leastMoveTo_68 : decode cX4_leastMoveTo 68 = .ok (.iconst (-1), 1) := by decide +kernel
theorem dX4_leastMoveTo_69 : decode cX4_leastMoveTo 69 = .ok (.if_icmp .eq 21, 3) := by decide +kernel
theorem dX4_leastMoveTo_72 : decode cX4_leastMoveTo 72 = .ok (.aload_n 0, 1) := by decide +kernel
theorem dX4_leastMoveTo_73 : decode cX4_leastMoveTo 73 = .ok (.invokevirtual 117, 3) := by decide +kernel
theorem dX4_leastMoveTo_76 : decode cX4_leastMoveTo 76 = .ok (.iconst (-1), 1) := by decide +kernel
theorem dX4_leastMoveTo_77 : decode cX4_leastMoveTo 77 = .ok (.if_icmp .eq 13, 3) := by decide +kernel
theorem dX4_leastMoveTo_80 : decode cX4_leastMoveTo 80 = .ok (.bipush 10, 2) := by decide +kernel
theorem dX4_leastMoveTo_82 : decode cX4_leastMoveTo 82 = .ok (.iload_n 3, 1) := by decide +kernel
theorem dX4_leastMoveTo_83 : decode cX4_leastMoveTo 83 = .ok (.imul, 1) := by decide +kernel
theorem dX4_leastMoveTo_84 : decode cX4_leastMoveTo 84 = .ok (.aload_n 0, 1) := by decide +kernel
theorem dX4_leastMoveTo_85 : decode cX4_leastMoveTo 85 = .ok (.invokevirtual 117, 3) := by decide +kernel
theorem dX4_leastMoveTo_88 : decode cX4_leastMoveTo 88 = .ok (.iadd, 1) := by decide +kernel
theorem dX4_leastMoveTo_89 : decode cX4_leastMoveTo 89 = .ok (.ireturn, 1) := by decide +kernel
theorem dX4_leastMoveTo_90 : decode cX4_leastMoveTo 90 = .ok (.iinc 3 1, 3) := by decide +kernel
theorem dX4_leastMoveTo_93 : decode cX4_leastMoveTo 93 = .ok (.goto (-91), 3) := by decide +kernel
theorem dX4_leastMoveTo_96 : decode cX4_leastMoveTo 96 = .ok (.iconst (-1), 1) := by decide +kernel
theorem dX4_leastMoveTo_97 : decode cX4_leastMoveTo 97 = .ok (.ireturn, 1) := by decide +kernel
theorem dX4_shutsLastGap_0 : decode cX4_shutsLastGap 0 = .ok (.aload_n 0, 1) := by decide +kernel
theorem dX4_shutsLastGap_1 : decode cX4_shutsLastGap 1 = .ok (.getfield 18, 3) := by decide +kernel
theorem dX4_shutsLastGap_4 : decode cX4_shutsLastGap 4 = .ok (.iload_n 1, 1) := by decide +kernel
theorem dX4_shutsLastGap_5 : decode cX4_shutsLastGap 5 = .ok (.iaload, 1) := by decide +kernel
theorem dX4_shutsLastGap_6 : decode cX4_shutsLastGap 6 = .ok (.iconst (-1), 1) := by decide +kernel
theorem dX4_shutsLastGap_7 : decode cX4_shutsLastGap 7 = .ok (.if_icmp .ne 20, 3) := by decide +kernel
theorem dX4_shutsLastGap_10 : decode cX4_shutsLastGap 10 = .ok (.iload_n 2, 1) := by decide +kernel
theorem dX4_shutsLastGap_11 : decode cX4_shutsLastGap 11 = .ok (.iconst 1, 1) := by decide +kernel
theorem dX4_shutsLastGap_12 : decode cX4_shutsLastGap 12 = .ok (.if_icmp .le 15, 3) := by decide +kernel
theorem dX4_shutsLastGap_15 : decode cX4_shutsLastGap 15 = .ok (.aload_n 0, 1) := by decide +kernel
theorem dX4_shutsLastGap_16 : decode cX4_shutsLastGap 16 = .ok (.invokevirtual 127, 3) := by decide +kernel
theorem dX4_shutsLastGap_19 : decode cX4_shutsLastGap 19 = .ok (.iconst 1, 1) := by decide +kernel
theorem dX4_shutsLastGap_20 : decode cX4_shutsLastGap 20 = .ok (.if_icmp .ne 7, 3) := by decide +kernel
theorem dX4_shutsLastGap_23 : decode cX4_shutsLastGap 23 = .ok (.iconst 1, 1) := by decide +kernel
theorem dX4_shutsLastGap_24 : decode cX4_shutsLastGap 24 = .ok (.goto 4, 3) := by decide +kernel
theorem dX4_shutsLastGap_27 : decode cX4_shutsLastGap 27 = .ok (.iconst 0, 1) := by decide +kernel
theorem dX4_shutsLastGap_28 : decode cX4_shutsLastGap 28 = .ok (.ireturn, 1) := by decide +kernel
theorem dX4_leastOfRing_0 : decode cX4_leastOfRing 0 = .ok (.iload_n 2, 1) := by decide +kernel
theorem dX4_leastOfRing_1 : decode cX4_leastOfRing 1 = .ok (.istore_n 3, 1) := by decide +kernel
theorem dX4_leastOfRing_2 : decode cX4_leastOfRing 2 = .ok (.iload_n 2, 1) := by decide +kernel
theorem dX4_leastOfRing_3 : decode cX4_leastOfRing 3 = .ok (.istore 4, 2) := by decide +kernel
theorem dX4_leastOfRing_5 : decode cX4_leastOfRing 5 = .ok (.iconst 0, 1) := by decide +kernel
theorem dX4_leastOfRing_6 : decode cX4_leastOfRing 6 = .ok (.istore 5, 2) := by decide +kernel
theorem dX4_leastOfRing_8 : decode cX4_leastOfRing 8 = .ok (.iload 5, 2) := by decide +kernel
theorem dX4_leastOfRing_10 : decode cX4_leastOfRing 10 = .ok (.aload_n 0, 1) := by decide +kernel
theorem dX4_leastOfRing_11 : decode cX4_leastOfRing 11 = .ok (.getfield 46, 3) := by decide +kernel
theorem dX4_leastOfRing_14 : decode cX4_leastOfRing 14 = .ok (.if_icmp .ge 48, 3) := by decide +kernel
theorem dX4_leastOfRing_17 : decode cX4_leastOfRing 17 = .ok (.aload_n 0, 1) := by decide +kernel
theorem dX4_leastOfRing_18 : decode cX4_leastOfRing 18 = .ok (.aload_n 0, 1) := by decide +kernel
theorem dX4_leastOfRing_19 : decode cX4_leastOfRing 19 = .ok (.getfield 39, 3) := by decide +kernel
theorem dX4_leastOfRing_22 : decode cX4_leastOfRing 22 = .ok (.iload_n 1, 1) := by decide +kernel
theorem dX4_leastOfRing_23 : decode cX4_leastOfRing 23 = .ok (.iload 4, 2) := by decide +kernel
theorem dX4_leastOfRing_25 : decode cX4_leastOfRing 25 = .ok (.invokevirtual 111, 3) := by decide +kernel
theorem dX4_leastOfRing_28 : decode cX4_leastOfRing 28 = .ok (.invokevirtual 123, 3) := by decide +kernel
theorem dX4_leastOfRing_31 : decode cX4_leastOfRing 31 = .ok (.istore 4, 2) := by decide +kernel
theorem dX4_leastOfRing_33 : decode cX4_leastOfRing 33 = .ok (.iload 4, 2) := by decide +kernel
theorem dX4_leastOfRing_35 : decode cX4_leastOfRing 35 = .ok (.iconst (-1), 1) := by decide +kernel
theorem dX4_leastOfRing_36 : decode cX4_leastOfRing 36 = .ok (.if_icmp .ne 5, 3) := by decide +kernel
theorem dX4_leastOfRing_39 : decode cX4_leastOfRing 39 = .ok (.iconst (-1), 1) := by decide +kernel
theorem dX4_leastOfRing_40 : decode cX4_leastOfRing 40 = .ok (.ireturn, 1) := by decide +kernel
theorem dX4_leastOfRing_41 : decode cX4_leastOfRing 41 = .ok (.iload_n 3, 1) := by decide +kernel
theorem dX4_leastOfRing_42 : decode cX4_leastOfRing 42 = .ok (.iload 4, 2) := by decide +kernel
theorem dX4_leastOfRing_44 : decode cX4_leastOfRing 44 = .ok (.invokestatic 89, 3) := by decide +kernel
theorem dX4_leastOfRing_47 : decode cX4_leastOfRing 47 = .ok (.istore_n 3, 1) := by decide +kernel
theorem dX4_leastOfRing_48 : decode cX4_leastOfRing 48 = .ok (.iload 4, 2) := by decide +kernel
theorem dX4_leastOfRing_50 : decode cX4_leastOfRing 50 = .ok (.iload_n 2, 1) := by decide +kernel
theorem dX4_leastOfRing_51 : decode cX4_leastOfRing 51 = .ok (.if_icmp .ne 5, 3) := by decide +kernel
theorem dX4_leastOfRing_54 : decode cX4_leastOfRing 54 = .ok (.iload_n 3, 1) := by decide +kernel
theorem dX4_leastOfRing_55 : decode cX4_leastOfRing 55 = .ok (.ireturn, 1) := by decide +kernel
theorem dX4_leastOfRing_56 : decode cX4_leastOfRing 56 = .ok (.iinc 5 1, 3) := by decide +kernel
theorem dX4_leastOfRing_59 : decode cX4_leastOfRing 59 = .ok (.goto (-51), 3) := by decide +kernel
theorem dX4_leastOfRing_62 : decode cX4_leastOfRing 62 = .ok (.iconst (-1), 1) := by decide +kernel
theorem dX4_leastOfRing_63 : decode cX4_leastOfRing 63 = .ok (.ireturn, 1) := by decide +kernel
theorem dX4_doMove_0 : decode cX4_doMove 0 = .ok (.iload_n 1, 1) := by decide +kernel
theorem dX4_doMove_1 : decode cX4_doMove 1 = .ok (.ifCond .lt 18, 3) := by decide +kernel
theorem dX4_doMove_4 : decode cX4_doMove 4 = .ok (.iload_n 1, 1) := by decide +kernel
theorem dX4_doMove_5 : decode cX4_doMove 5 = .ok (.iconst 5, 1) := by decide +kernel
theorem dX4_doMove_6 : decode cX4_doMove 6 = .ok (.if_icmp .ge 13, 3) := by decide +kernel
theorem dX4_doMove_9 : decode cX4_doMove 9 = .ok (.iload_n 2, 1) := by decide +kernel
theorem dX4_doMove_10 : decode cX4_doMove 10 = .ok (.ifCond .lt 9, 3) := by decide +kernel
theorem dX4_doMove_13 : decode cX4_doMove 13 = .ok (.iload_n 2, 1) := by decide +kernel
theorem dX4_doMove_14 : decode cX4_doMove 14 = .ok (.bipush 6, 2) := by decide +kernel
theorem dX4_doMove_16 : decode cX4_doMove 16 = .ok (.if_icmp .lt 4, 3) := by decide +kernel
theorem dX4_doMove_19 : decode cX4_doMove 19 = .ok (.return_, 1) := by decide +kernel
theorem dX4_doMove_20 : decode cX4_doMove 20 = .ok (.aload_n 0, 1) := by decide +kernel
theorem dX4_doMove_21 : decode cX4_doMove 21 = .ok (.getfield 18, 3) := by decide +kernel
theorem dX4_doMove_24 : decode cX4_doMove 24 = .ok (.iload_n 1, 1) := by decide +kernel
theorem dX4_doMove_25 : decode cX4_doMove 25 = .ok (.iaload, 1) := by decide +kernel
theorem dX4_doMove_26 : decode cX4_doMove 26 = .ok (.istore_n 3, 1) := by decide +kernel
theorem dX4_doMove_27 : decode cX4_doMove 27 = .ok (.iload_n 3, 1) := by decide +kernel
theorem dX4_doMove_28 : decode cX4_doMove 28 = .ok (.ifCond .lt 16, 3) := by decide +kernel
theorem dX4_doMove_31 : decode cX4_doMove 31 = .ok (.iload_n 3, 1) := by decide +kernel
theorem dX4_doMove_32 : decode cX4_doMove 32 = .ok (.bipush 6, 2) := by decide +kernel
theorem dX4_doMove_34 : decode cX4_doMove 34 = .ok (.if_icmp .ge 10, 3) := by decide +kernel
theorem dX4_doMove_37 : decode cX4_doMove 37 = .ok (.aload_n 0, 1) := by decide +kernel
theorem dX4_doMove_38 : decode cX4_doMove 38 = .ok (.getfield 21, 3) := by decide +kernel
theorem dX4_doMove_41 : decode cX4_doMove 41 = .ok (.iload_n 3, 1) := by decide +kernel
theorem dX4_doMove_42 : decode cX4_doMove 42 = .ok (.iconst (-1), 1) := by decide +kernel
theorem dX4_doMove_43 : decode cX4_doMove 43 = .ok (.iastore, 1) := by decide +kernel
theorem dX4_doMove_44 : decode cX4_doMove 44 = .ok (.aload_n 0, 1) := by decide +kernel
theorem dX4_doMove_45 : decode cX4_doMove 45 = .ok (.getfield 18, 3) := by decide +kernel
theorem dX4_doMove_48 : decode cX4_doMove 48 = .ok (.iload_n 1, 1) := by decide +kernel
theorem dX4_doMove_49 : decode cX4_doMove 49 = .ok (.iload_n 2, 1) := by decide +kernel
theorem dX4_doMove_50 : decode cX4_doMove 50 = .ok (.iastore, 1) := by decide +kernel
theorem dX4_doMove_51 : decode cX4_doMove 51 = .ok (.aload_n 0, 1) := by decide +kernel
theorem dX4_doMove_52 : decode cX4_doMove 52 = .ok (.getfield 21, 3) := by decide +kernel
theorem dX4_doMove_55 : decode cX4_doMove 55 = .ok (.iload_n 2, 1) := by decide +kernel
theorem dX4_doMove_56 : decode cX4_doMove 56 = .ok (.iload_n 1, 1) := by decide +kernel
theorem dX4_doMove_57 : decode cX4_doMove 57 = .ok (.iastore, 1) := by decide +kernel
theorem dX4_doMove_58 : decode cX4_doMove 58 = .ok (.return_, 1) := by decide +kernel
theorem dX4_lyingOn_0 : decode cX4_lyingOn 0 = .ok (.iload_n 1, 1) := by decide +kernel
theorem dX4_lyingOn_1 : decode cX4_lyingOn 1 = .ok (.ifCond .lt 18, 3) := by decide +kernel
theorem dX4_lyingOn_4 : decode cX4_lyingOn 4 = .ok (.iload_n 1, 1) := by decide +kernel
theorem dX4_lyingOn_5 : decode cX4_lyingOn 5 = .ok (.bipush 6, 2) := by decide +kernel
theorem dX4_lyingOn_7 : decode cX4_lyingOn 7 = .ok (.if_icmp .ge 12, 3) := by decide +kernel
theorem dX4_lyingOn_10 : decode cX4_lyingOn 10 = .ok (.aload_n 0, 1) := by decide +kernel
theorem dX4_lyingOn_11 : decode cX4_lyingOn 11 = .ok (.getfield 21, 3) := by decide +kernel
theorem dX4_lyingOn_14 : decode cX4_lyingOn 14 = .ok (.iload_n 1, 1) := by decide +kernel
theorem dX4_lyingOn_15 : decode cX4_lyingOn 15 = .ok (.iaload, 1) := by decide +kernel
theorem dX4_lyingOn_16 : decode cX4_lyingOn 16 = .ok (.goto 4, 3) := by decide +kernel
theorem dX4_lyingOn_19 : decode cX4_lyingOn 19 = .ok (.iconst (-1), 1) := by decide +kernel
theorem dX4_lyingOn_20 : decode cX4_lyingOn 20 = .ok (.ireturn, 1) := by decide +kernel
theorem dX4_emptySpot_0 : decode cX4_emptySpot 0 = .ok (.iconst 0, 1) := by decide +kernel
theorem dX4_emptySpot_1 : decode cX4_emptySpot 1 = .ok (.istore_n 1, 1) := by decide +kernel
theorem dX4_emptySpot_2 : decode cX4_emptySpot 2 = .ok (.iload_n 1, 1) := by decide +kernel
theorem dX4_emptySpot_3 : decode cX4_emptySpot 3 = .ok (.aload_n 0, 1) := by decide +kernel
theorem dX4_emptySpot_4 : decode cX4_emptySpot 4 = .ok (.getfield 58, 3) := by decide +kernel
theorem dX4_emptySpot_7 : decode cX4_emptySpot 7 = .ok (.if_icmp .ge 21, 3) := by decide +kernel
theorem dX4_emptySpot_10 : decode cX4_emptySpot 10 = .ok (.aload_n 0, 1) := by decide +kernel
theorem dX4_emptySpot_11 : decode cX4_emptySpot 11 = .ok (.getfield 21, 3) := by decide +kernel
theorem dX4_emptySpot_14 : decode cX4_emptySpot 14 = .ok (.iload_n 1, 1) := by decide +kernel
theorem dX4_emptySpot_15 : decode cX4_emptySpot 15 = .ok (.iaload, 1) := by decide +kernel
theorem dX4_emptySpot_16 : decode cX4_emptySpot 16 = .ok (.iconst (-1), 1) := by decide +kernel
theorem dX4_emptySpot_17 : decode cX4_emptySpot 17 = .ok (.if_icmp .ne 5, 3) := by decide +kernel
theorem dX4_emptySpot_20 : decode cX4_emptySpot 20 = .ok (.iload_n 1, 1) := by decide +kernel
theorem dX4_emptySpot_21 : decode cX4_emptySpot 21 = .ok (.ireturn, 1) := by decide +kernel
theorem dX4_emptySpot_22 : decode cX4_emptySpot 22 = .ok (.iinc 1 1, 3) := by decide +kernel
theorem dX4_emptySpot_25 : decode cX4_emptySpot 25 = .ok (.goto (-23), 3) := by decide +kernel
theorem dX4_emptySpot_28 : decode cX4_emptySpot 28 = .ok (.iconst (-1), 1) := by decide +kernel
theorem dX4_emptySpot_29 : decode cX4_emptySpot 29 = .ok (.ireturn, 1) := by decide +kernel
theorem dX4_emptySpots_0 : decode cX4_emptySpots 0 = .ok (.iconst 0, 1) := by decide +kernel
theorem dX4_emptySpots_1 : decode cX4_emptySpots 1 = .ok (.istore_n 1, 1) := by decide +kernel
theorem dX4_emptySpots_2 : decode cX4_emptySpots 2 = .ok (.iconst 0, 1) := by decide +kernel
theorem dX4_emptySpots_3 : decode cX4_emptySpots 3 = .ok (.istore_n 2, 1) := by decide +kernel
theorem dX4_emptySpots_4 : decode cX4_emptySpots 4 = .ok (.iload_n 2, 1) := by decide +kernel
theorem dX4_emptySpots_5 : decode cX4_emptySpots 5 = .ok (.aload_n 0, 1) := by decide +kernel
theorem dX4_emptySpots_6 : decode cX4_emptySpots 6 = .ok (.getfield 58, 3) := by decide +kernel
theorem dX4_emptySpots_9 : decode cX4_emptySpots 9 = .ok (.if_icmp .ge 27, 3) := by decide +kernel
theorem dX4_emptySpots_12 : decode cX4_emptySpots 12 = .ok (.iload_n 1, 1) := by decide +kernel
theorem dX4_emptySpots_13 : decode cX4_emptySpots 13 = .ok (.aload_n 0, 1) := by decide +kernel
theorem dX4_emptySpots_14 : decode cX4_emptySpots 14 = .ok (.getfield 21, 3) := by decide +kernel
theorem dX4_emptySpots_17 : decode cX4_emptySpots 17 = .ok (.iload_n 2, 1) := by decide +kernel
theorem dX4_emptySpots_18 : decode cX4_emptySpots 18 = .ok (.iaload, 1) := by decide +kernel
theorem dX4_emptySpots_19 : decode cX4_emptySpots 19 = .ok (.iconst (-1), 1) := by decide +kernel
theorem dX4_emptySpots_20 : decode cX4_emptySpots 20 = .ok (.if_icmp .ne 7, 3) := by decide +kernel
theorem dX4_emptySpots_23 : decode cX4_emptySpots 23 = .ok (.iconst 1, 1) := by decide +kernel
theorem dX4_emptySpots_24 : decode cX4_emptySpots 24 = .ok (.goto 4, 3) := by decide +kernel
theorem dX4_emptySpots_27 : decode cX4_emptySpots 27 = .ok (.iconst 0, 1) := by decide +kernel
theorem dX4_emptySpots_28 : decode cX4_emptySpots 28 = .ok (.iadd, 1) := by decide +kernel
theorem dX4_emptySpots_29 : decode cX4_emptySpots 29 = .ok (.istore_n 1, 1) := by decide +kernel
theorem dX4_emptySpots_30 : decode cX4_emptySpots 30 = .ok (.iinc 2 1, 3) := by decide +kernel
theorem dX4_emptySpots_33 : decode cX4_emptySpots 33 = .ok (.goto (-29), 3) := by decide +kernel
theorem dX4_emptySpots_36 : decode cX4_emptySpots 36 = .ok (.iload_n 1, 1) := by decide +kernel
theorem dX4_emptySpots_37 : decode cX4_emptySpots 37 = .ok (.ireturn, 1) := by decide +kernel
theorem dX5_init_0 : decode cX5_init 0 = .ok (.aload_n 0, 1) := by decide +kernel
theorem dX5_init_1 : decode cX5_init 1 = .ok (.invokespecial 3, 3) := by decide +kernel
theorem dX5_init_4 : decode cX5_init 4 = .ok (.aload_n 0, 1) := by decide +kernel
theorem dX5_init_5 : decode cX5_init 5 = .ok (.iconst 2, 1) := by decide +kernel
theorem dX5_init_6 : decode cX5_init 6 = .ok (.newarray .int, 2) := by decide +kernel
theorem dX5_init_8 : decode cX5_init 8 = .ok (.putfield 9, 3) := by decide +kernel
theorem dX5_init_11 : decode cX5_init 11 = .ok (.aload_n 0, 1) := by decide +kernel
theorem dX5_init_12 : decode cX5_init 12 = .ok (.iconst 2, 1) := by decide +kernel
theorem dX5_init_13 : decode cX5_init 13 = .ok (.newarray .int, 2) := by decide +kernel
theorem dX5_init_15 : decode cX5_init 15 = .ok (.putfield 15, 3) := by decide +kernel
theorem dX5_init_18 : decode cX5_init 18 = .ok (.aload_n 0, 1) := by decide +kernel
theorem dX5_init_19 : decode cX5_init 19 = .ok (.new 18, 3) := by decide +kernel
theorem dX5_init_22 : decode cX5_init 22 = .ok (.dup, 1) := by decide +kernel
theorem dX5_init_23 : decode cX5_init 23 = .ok (.invokespecial 20, 3) := by decide +kernel
theorem dX5_init_26 : decode cX5_init 26 = .ok (.putfield 21, 3) := by decide +kernel
theorem dX5_init_29 : decode cX5_init 29 = .ok (.aload_n 0, 1) := by decide +kernel
theorem dX5_init_30 : decode cX5_init 30 = .ok (.new 25, 3) := by decide +kernel
theorem dX5_init_33 : decode cX5_init 33 = .ok (.dup, 1) := by decide +kernel
theorem dX5_init_34 : decode cX5_init 34 = .ok (.invokespecial 27, 3) := by decide +kernel
theorem dX5_init_37 : decode cX5_init 37 = .ok (.putfield 28, 3) := by decide +kernel
theorem dX5_init_40 : decode cX5_init 40 = .ok (.aload_n 0, 1) := by decide +kernel
theorem dX5_init_41 : decode cX5_init 41 = .ok (.invokevirtual 32, 3) := by decide +kernel
theorem dX5_init_44 : decode cX5_init 44 = .ok (.aload_n 0, 1) := by decide +kernel
theorem dX5_init_45 : decode cX5_init 45 = .ok (.getfield 28, 3) := by decide +kernel
theorem dX5_init_48 : decode cX5_init 48 = .ok (.aload_n 0, 1) := by decide +kernel
theorem dX5_init_49 : decode cX5_init 49 = .ok (.getfield 35, 3) := by decide +kernel
theorem dX5_init_52 : decode cX5_init 52 = .ok (.aload_n 0, 1) := by decide +kernel
theorem dX5_init_53 : decode cX5_init 53 = .ok (.getfield 39, 3) := by decide +kernel
theorem dX5_init_56 : decode cX5_init 56 = .ok (.invokevirtual 42, 3) := by decide +kernel
theorem dX5_init_59 : decode cX5_init 59 = .ok (.return_, 1) := by decide +kernel
theorem dX5_clear_0 : decode cX5_clear 0 = .ok (.aload_n 0, 1) := by decide +kernel
theorem dX5_clear_1 : decode cX5_clear 1 = .ok (.bipush 100, 2) := by decide +kernel
theorem dX5_clear_3 : decode cX5_clear 3 = .ok (.putfield 35, 3) := by decide +kernel
theorem dX5_clear_6 : decode cX5_clear 6 = .ok (.aload_n 0, 1) := by decide +kernel
theorem dX5_clear_7 : decode cX5_clear 7 = .ok (.bipush 50, 2) := by decide +kernel
theorem dX5_clear_9 : decode cX5_clear 9 = .ok (.putfield 39, 3) := by decide +kernel
theorem dX5_clear_12 : decode cX5_clear 12 = .ok (.aload_n 0, 1) := by decide +kernel
theorem dX5_clear_13 : decode cX5_clear 13 = .ok (.bipush 40, 2) := by decide +kernel
theorem dX5_clear_15 : decode cX5_clear 15 = .ok (.putfield 46, 3) := by decide +kernel
theorem dX5_clear_18 : decode cX5_clear 18 = .ok (.aload_n 0, 1) := by decide +kernel
theorem dX5_clear_19 : decode cX5_clear 19 = .ok (.bipush 60, 2) := by decide +kernel
theorem dX5_clear_21 : decode cX5_clear 21 = .ok (.putfield 49, 3) := by decide +kernel
theorem dX5_clear_24 : decode cX5_clear 24 = .ok (.aload_n 0, 1) := by decide +kernel
theorem dX5_clear_25 : decode cX5_clear 25 = .ok (.iconst 0, 1) := by decide +kernel
theorem dX5_clear_26 : decode cX5_clear 26 = .ok (.putfield 52, 3) := by decide +kernel
theorem dX5_clear_29 : decode cX5_clear 29 = .ok (.iconst 0, 1) := by decide +kernel
theorem dX5_clear_30 : decode cX5_clear 30 = .ok (.istore_n 1, 1) := by decide +kernel
theorem dX5_clear_31 : decode cX5_clear 31 = .ok (.iload_n 1, 1) := by decide +kernel
theorem dX5_clear_32 : decode cX5_clear 32 = .ok (.iconst 2, 1) := by decide +kernel
theorem dX5_clear_33 : decode cX5_clear 33 = .ok (.if_icmp .ge 23, 3) := by decide +kernel
theorem dX5_clear_36 : decode cX5_clear 36 = .ok (.aload_n 0, 1) := by decide +kernel
theorem dX5_clear_37 : decode cX5_clear 37 = .ok (.getfield 9, 3) := by decide +kernel
theorem dX5_clear_40 : decode cX5_clear 40 = .ok (.iload_n 1, 1) := by decide +kernel
theorem dX5_clear_41 : decode cX5_clear 41 = .ok (.iconst 0, 1) := by decide +kernel
theorem dX5_clear_42 : decode cX5_clear 42 = .ok (.iastore, 1) := by decide +kernel
theorem dX5_clear_43 : decode cX5_clear 43 = .ok (.aload_n 0, 1) := by decide +kernel
theorem dX5_clear_44 : decode cX5_clear 44 = .ok (.getfield 15, 3) := by decide +kernel
theorem dX5_clear_47 : decode cX5_clear 47 = .ok (.iload_n 1, 1) := by decide +kernel
theorem dX5_clear_48 : decode cX5_clear 48 = .ok (.iconst 0, 1) := by decide +kernel
theorem dX5_clear_49 : decode cX5_clear 49 = .ok (.iastore, 1) := by decide +kernel
theorem dX5_clear_50 : decode cX5_clear 50 = .ok (.iinc 1 1, 3) := by decide +kernel
theorem dX5_clear_53 : decode cX5_clear 53 = .ok (.goto (-22), 3) := by decide +kernel
theorem dX5_clear_56 : decode cX5_clear 56 = .ok (.aload_n 0, 1) := by decide +kernel
theorem dX5_clear_57 : decode cX5_clear 57 = .ok (.getfield 21, 3) := by decide +kernel
theorem dX5_clear_60 : decode cX5_clear 60 = .ok (.invokevirtual 55, 3) := by decide +kernel
theorem dX5_clear_63 : decode cX5_clear 63 = .ok (.aload_n 0, 1) := by decide +kernel
theorem dX5_clear_64 : decode cX5_clear 64 = .ok (.getfield 28, 3) := by decide +kernel
theorem dX5_clear_67 : decode cX5_clear 67 = .ok (.invokevirtual 56, 3) := by decide +kernel
theorem dX5_clear_70 : decode cX5_clear 70 = .ok (.return_, 1) := by decide +kernel
theorem dX5_copyFrom_0 : decode cX5_copyFrom 0 = .ok (.aload_n 0, 1) := by decide +kernel
theorem dX5_copyFrom_1 : decode cX5_copyFrom 1 = .ok (.aload_n 1, 1) := by decide +kernel
theorem dX5_copyFrom_2 : decode cX5_copyFrom 2 = .ok (.getfield 35, 3) := by decide +kernel
theorem dX5_copyFrom_5 : decode cX5_copyFrom 5 = .ok (.putfield 35, 3) := by decide +kernel
theorem dX5_copyFrom_8 : decode cX5_copyFrom 8 = .ok (.aload_n 0, 1) := by decide +kernel
theorem dX5_copyFrom_9 : decode cX5_copyFrom 9 = .ok (.aload_n 1, 1) := by decide +kernel
theorem dX5_copyFrom_10 : decode cX5_copyFrom 10 = .ok (.getfield 39, 3) := by decide +kernel
theorem dX5_copyFrom_13 : decode cX5_copyFrom 13 = .ok (.putfield 39, 3) := by decide +kernel
theorem dX5_copyFrom_16 : decode cX5_copyFrom 16 = .ok (.aload_n 0, 1) := by decide +kernel
theorem dX5_copyFrom_17 : decode cX5_copyFrom 17 = .ok (.aload_n 1, 1) := by decide +kernel
theorem dX5_copyFrom_18 : decode cX5_copyFrom 18 = .ok (.getfield 46, 3) := by decide +kernel
theorem dX5_copyFrom_21 : decode cX5_copyFrom 21 = .ok (.putfield 46, 3) := by decide +kernel
theorem dX5_copyFrom_24 : decode cX5_copyFrom 24 = .ok (.aload_n 0, 1) := by decide +kernel
theorem dX5_copyFrom_25 : decode cX5_copyFrom 25 = .ok (.aload_n 1, 1) := by decide +kernel
theorem dX5_copyFrom_26 : decode cX5_copyFrom 26 = .ok (.getfield 49, 3) := by decide +kernel
theorem dX5_copyFrom_29 : decode cX5_copyFrom 29 = .ok (.putfield 49, 3) := by decide +kernel
theorem dX5_copyFrom_32 : decode cX5_copyFrom 32 = .ok (.aload_n 0, 1) := by decide +kernel
theorem dX5_copyFrom_33 : decode cX5_copyFrom 33 = .ok (.aload_n 1, 1) := by decide +kernel
theorem dX5_copyFrom_34 : decode cX5_copyFrom 34 = .ok (.getfield 52, 3) := by decide +kernel
theorem dX5_copyFrom_37 : decode cX5_copyFrom 37 = .ok (.putfield 52, 3) := by decide +kernel
theorem dX5_copyFrom_40 : decode cX5_copyFrom 40 = .ok (.aload_n 1, 1) := by decide +kernel
theorem dX5_copyFrom_41 : decode cX5_copyFrom 41 = .ok (.getfield 9, 3) := by decide +kernel
theorem dX5_copyFrom_44 : decode cX5_copyFrom 44 = .ok (.iconst 0, 1) := by decide +kernel
theorem dX5_copyFrom_45 : decode cX5_copyFrom 45 = .ok (.aload_n 0, 1) := by decide +kernel
theorem dX5_copyFrom_46 : decode cX5_copyFrom 46 = .ok (.getfield 9, 3) := by decide +kernel
theorem dX5_copyFrom_49 : decode cX5_copyFrom 49 = .ok (.iconst 0, 1) := by decide +kernel
theorem dX5_copyFrom_50 : decode cX5_copyFrom 50 = .ok (.iconst 2, 1) := by decide +kernel
theorem dX5_copyFrom_51 : decode cX5_copyFrom 51 = .ok (.invokestatic 57, 3) := by decide +kernel
theorem dX5_copyFrom_54 : decode cX5_copyFrom 54 = .ok (.aload_n 1, 1) := by decide +kernel
theorem dX5_copyFrom_55 : decode cX5_copyFrom 55 = .ok (.getfield 15, 3) := by decide +kernel
theorem dX5_copyFrom_58 : decode cX5_copyFrom 58 = .ok (.iconst 0, 1) := by decide +kernel
theorem dX5_copyFrom_59 : decode cX5_copyFrom 59 = .ok (.aload_n 0, 1) := by decide +kernel
theorem dX5_copyFrom_60 : decode cX5_copyFrom 60 = .ok (.getfield 15, 3) := by decide +kernel
theorem dX5_copyFrom_63 : decode cX5_copyFrom 63 = .ok (.iconst 0, 1) := by decide +kernel
theorem dX5_copyFrom_64 : decode cX5_copyFrom 64 = .ok (.iconst 2, 1) := by decide +kernel
theorem dX5_copyFrom_65 : decode cX5_copyFrom 65 = .ok (.invokestatic 57, 3) := by decide +kernel
theorem dX5_copyFrom_68 : decode cX5_copyFrom 68 = .ok (.aload_n 0, 1) := by decide +kernel
theorem dX5_copyFrom_69 : decode cX5_copyFrom 69 = .ok (.getfield 21, 3) := by decide +kernel
theorem dX5_copyFrom_72 : decode cX5_copyFrom 72 = .ok (.aload_n 1, 1) := by decide +kernel
theorem dX5_copyFrom_73 : decode cX5_copyFrom 73 = .ok (.getfield 21, 3) := by decide +kernel
theorem dX5_copyFrom_76 : decode cX5_copyFrom 76 = .ok (.invokevirtual 63, 3) := by decide +kernel
theorem dX5_copyFrom_79 : decode cX5_copyFrom 79 = .ok (.aload_n 0, 1) := by decide +kernel
theorem dX5_copyFrom_80 : decode cX5_copyFrom 80 = .ok (.getfield 28, 3) := by decide +kernel
theorem dX5_copyFrom_83 : decode cX5_copyFrom 83 = .ok (.aload_n 1, 1) := by decide +kernel
theorem dX5_copyFrom_84 : decode cX5_copyFrom 84 = .ok (.getfield 28, 3) := by decide +kernel
theorem dX5_copyFrom_87 : decode cX5_copyFrom 87 = .ok (.invokevirtual 67, 3) := by decide +kernel
theorem dX5_copyFrom_90 : decode cX5_copyFrom 90 = .ok (.return_, 1) := by decide +kernel
theorem dX5_hasBin_0 : decode cX5_hasBin 0 = .ok (.iload_n 1, 1) := by decide +kernel
theorem dX5_hasBin_1 : decode cX5_hasBin 1 = .ok (.ifCond .lt 15, 3) := by decide +kernel
theorem dX5_hasBin_4 : decode cX5_hasBin 4 = .ok (.iload_n 1, 1) := by decide +kernel
theorem dX5_hasBin_5 : decode cX5_hasBin 5 = .ok (.aload_n 0, 1) := by decide +kernel
theorem dX5_hasBin_6 : decode cX5_hasBin 6 = .ok (.getfield 52, 3) := by decide +kernel
theorem dX5_hasBin_9 : decode cX5_hasBin 9 = .ok (.if_icmp .ge 7, 3) := by decide +kernel
theorem dX5_hasBin_12 : decode cX5_hasBin 12 = .ok (.iconst 1, 1) := by decide +kernel
theorem dX5_hasBin_13 : decode cX5_hasBin 13 = .ok (.goto 4, 3) := by decide +kernel
theorem dX5_hasBin_16 : decode cX5_hasBin 16 = .ok (.iconst 0, 1) := by decide +kernel
theorem dX5_hasBin_17 : decode cX5_hasBin 17 = .ok (.ireturn, 1) := by decide +kernel
theorem dX5_addBin_0 : decode cX5_addBin 0 = .ok (.aload_n 0, 1) := by decide +kernel
theorem dX5_addBin_1 : decode cX5_addBin 1 = .ok (.getfield 52, 3) := by decide +kernel
theorem dX5_addBin_4 : decode cX5_addBin 4 = .ok (.iconst 2, 1) := by decide +kernel
theorem dX5_addBin_5 : decode cX5_addBin 5 = .ok (.if_icmp .ge 33, 3) := by decide +kernel
theorem dX5_addBin_8 : decode cX5_addBin 8 = .ok (.aload_n 0, 1) := by decide +kernel
theorem dX5_addBin_9 : decode cX5_addBin 9 = .ok (.getfield 9, 3) := by decide +kernel
theorem dX5_addBin_12 : decode cX5_addBin 12 = .ok (.aload_n 0, 1) := by decide +kernel
theorem dX5_addBin_13 : decode cX5_addBin 13 = .ok (.getfield 52, 3) := by decide +kernel
theorem dX5_addBin_16 : decode cX5_addBin 16 = .ok (.iload_n 1, 1) := by decide +kernel
theorem dX5_addBin_17 : decode cX5_addBin 17 = .ok (.iastore, 1) := by decide +kernel
theorem dX5_addBin_18 : decode cX5_addBin 18 = .ok (.aload_n 0, 1) := by decide +kernel
theorem dX5_addBin_19 : decode cX5_addBin 19 = .ok (.getfield 15, 3) := by decide +kernel
theorem dX5_addBin_22 : decode cX5_addBin 22 = .ok (.aload_n 0, 1) := by decide +kernel
theorem dX5_addBin_23 : decode cX5_addBin 23 = .ok (.getfield 52, 3) := by decide +kernel
theorem dX5_addBin_26 : decode cX5_addBin 26 = .ok (.iload_n 2, 1) := by decide +kernel
theorem dX5_addBin_27 : decode cX5_addBin 27 = .ok (.iastore, 1) := by decide +kernel
theorem dX5_addBin_28 : decode cX5_addBin 28 = .ok (.aload_n 0, 1) := by decide +kernel
theorem dX5_addBin_29 : decode cX5_addBin 29 = .ok (.dup, 1) := by decide +kernel
theorem dX5_addBin_30 : decode cX5_addBin 30 = .ok (.getfield 52, 3) := by decide +kernel
theorem dX5_addBin_33 : decode cX5_addBin 33 = .ok (.iconst 1, 1) := by decide +kernel
theorem dX5_addBin_34 : decode cX5_addBin 34 = .ok (.iadd, 1) := by decide +kernel
theorem dX5_addBin_35 : decode cX5_addBin 35 = .ok (.putfield 52, 3) := by decide +kernel
theorem dX5_addBin_38 : decode cX5_addBin 38 = .ok (.return_, 1) := by decide +kernel
theorem dX6_init_0 : decode cX6_init 0 = .ok (.aload_n 0, 1) := by decide +kernel
theorem dX6_init_1 : decode cX6_init 1 = .ok (.invokespecial 3, 3) := by decide +kernel
theorem dX6_init_4 : decode cX6_init 4 = .ok (.aload_n 0, 1) := by decide +kernel
theorem dX6_init_5 : decode cX6_init 5 = .ok (.new 9, 3) := by decide +kernel
theorem dX6_init_8 : decode cX6_init 8 = .ok (.dup, 1) := by decide +kernel
theorem dX6_init_9 : decode cX6_init 9 = .ok (.invokespecial 11, 3) := by decide +kernel
theorem dX6_init_12 : decode cX6_init 12 = .ok (.putfield 12, 3) := by decide +kernel
theorem dX6_init_15 : decode cX6_init 15 = .ok (.return_, 1) := by decide +kernel
theorem dX6_readPlane_0 : decode cX6_readPlane 0 = .ok (.aload_n 0, 1) := by decide +kernel
theorem dX6_readPlane_1 : decode cX6_readPlane 1 = .ok (.iconst 0, 1) := by decide +kernel
theorem dX6_readPlane_2 : decode cX6_readPlane 2 = .ok (.putfield 18, 3) := by decide +kernel
theorem dX6_readPlane_5 : decode cX6_readPlane 5 = .ok (.aload_n 0, 1) := by decide +kernel
theorem dX6_readPlane_6 : decode cX6_readPlane 6 = .ok (.iconst 0, 1) := by decide +kernel
theorem dX6_readPlane_7 : decode cX6_readPlane 7 = .ok (.putfield 22, 3) := by decide +kernel
theorem dX6_readPlane_10 : decode cX6_readPlane 10 = .ok (.aload_n 1, 1) := by decide +kernel
theorem dX6_readPlane_11 : decode cX6_readPlane 11 = .ok (.invokevirtual 25, 3) := by decide +kernel
theorem dX6_readPlane_14 : decode cX6_readPlane 14 = .ok (.aload_n 0, 1) := by decide +kernel
theorem dX6_readPlane_15 : decode cX6_readPlane 15 = .ok (.getfield 12, 3) := by decide +kernel
theorem dX6_readPlane_18 : decode cX6_readPlane 18 = .ok (.sipush 500, 3) := by decide +kernel
theorem dX6_readPlane_21 : decode cX6_readPlane 21 = .ok (.invokevirtual 30, 3) := by decide +kernel
theorem dX6_readPlane_24 : decode cX6_readPlane 24 = .ok (.iconst 0, 1) := by decide +kernel
theorem dX6_readPlane_25 : decode cX6_readPlane 25 = .ok (.istore_n 2, 1) := by decide +kernel
theorem dX6_readPlane_26 : decode cX6_readPlane 26 = .ok (.iload_n 2, 1) := by decide +kernel
theorem dX6_readPlane_27 : decode cX6_readPlane 27 = .ok (.sipush 500, 3) := by decide +kernel
theorem dX6_readPlane_30 : decode cX6_readPlane 30 = .ok (.if_icmp .ge 223, 3) := by decide +kernel
theorem dX6_readPlane_33 : decode cX6_readPlane 33 = .ok (.aload_n 0, 1) := by decide +kernel
theorem dX6_readPlane_34 : decode cX6_readPlane 34 = .ok (.invokevirtual 34, 3) := by decide +kernel
theorem dX6_readPlane_37 : decode cX6_readPlane 37 = .ok (.ifCond .eq 216, 3) := by decide +kernel
theorem dX6_readPlane_40 : decode cX6_readPlane 40 = .ok (.aload_n 0, 1) := by decide +kernel
theorem dX6_readPlane_41 : decode cX6_readPlane 41 = .ok (.getfield 12, 3) := by decide +kernel
theorem dX6_readPlane_44 : decode cX6_readPlane 44 = .ok (.ldc 38, 2) := by decide +kernel
theorem dX6_readPlane_46 : decode cX6_readPlane 46 = .ok (.invokevirtual 40, 3) := by decide +kernel
theorem dX6_readPlane_49 : decode cX6_readPlane 49 = .ok (.ifCond .eq 11, 3) := by decide +kernel
theorem dX6_readPlane_52 : decode cX6_readPlane 52 = .ok (.aload_n 0, 1) := by decide +kernel
theorem dX6_readPlane_53 : decode cX6_readPlane 53 = .ok (.aload_n 1, 1) := by decide +kernel
theorem dX6_readPlane_54 : decode cX6_readPlane 54 = .ok (.invokevirtual 44, 3) := by decide +kernel
theorem dX6_readPlane_57 : decode cX6_readPlane 57 = .ok (.goto 183, 3) := by decide +kernel
theorem dX6_readPlane_60 : decode cX6_readPlane 60 = .ok (.aload_n 0, 1) := by decide +kernel
theorem dX6_readPlane_61 : decode cX6_readPlane 61 = .ok (.getfield 12, 3) := by decide +kernel
theorem dX6_readPlane_64 : decode cX6_readPlane 64 = .ok (.ldc 48, 2) := by decide +kernel
theorem dX6_readPlane_66 : decode cX6_readPlane 66 = .ok (.invokevirtual 40, 3) := by decide +kernel
theorem dX6_readPlane_69 : decode cX6_readPlane 69 = .ok (.ifCond .eq 11, 3) := by decide +kernel
theorem dX6_readPlane_72 : decode cX6_readPlane 72 = .ok (.aload_n 0, 1) := by decide +kernel
theorem dX6_readPlane_73 : decode cX6_readPlane 73 = .ok (.aload_n 1, 1) := by decide +kernel
theorem dX6_readPlane_74 : decode cX6_readPlane 74 = .ok (.invokevirtual 50, 3) := by decide +kernel
theorem dX6_readPlane_77 : decode cX6_readPlane 77 = .ok (.goto 163, 3) := by decide +kernel
theorem dX6_readPlane_80 : decode cX6_readPlane 80 = .ok (.aload_n 0, 1) := by decide +kernel
theorem dX6_readPlane_81 : decode cX6_readPlane 81 = .ok (.getfield 12, 3) := by decide +kernel
theorem dX6_readPlane_84 : decode cX6_readPlane 84 = .ok (.ldc 53, 2) := by decide +kernel
theorem dX6_readPlane_86 : decode cX6_readPlane 86 = .ok (.invokevirtual 40, 3) := by decide +kernel
theorem dX6_readPlane_89 : decode cX6_readPlane 89 = .ok (.ifCond .eq 11, 3) := by decide +kernel
theorem dX6_readPlane_92 : decode cX6_readPlane 92 = .ok (.aload_n 0, 1) := by decide +kernel
theorem dX6_readPlane_93 : decode cX6_readPlane 93 = .ok (.aload_n 1, 1) := by decide +kernel
theorem dX6_readPlane_94 : decode cX6_readPlane 94 = .ok (.invokevirtual 55, 3) := by decide +kernel
theorem dX6_readPlane_97 : decode cX6_readPlane 97 = .ok (.goto 143, 3) := by decide +kernel
theorem dX6_readPlane_100 : decode cX6_readPlane 100 = .ok (.aload_n 0, 1) := by decide +kernel
theorem dX6_readPlane_101 : decode cX6_readPlane 101 = .ok (.getfield 12, 3) := by decide +kernel
theorem dX6_readPlane_104 : decode cX6_readPlane 104 = .ok (.ldc 58, 2) := by decide +kernel
theorem dX6_readPlane_106 : decode cX6_readPlane 106 = .ok (.invokevirtual 40, 3) := by decide +kernel
theorem dX6_readPlane_109 : decode cX6_readPlane 109 = .ok (.ifCond .eq 14, 3) := by decide +kernel
theorem dX6_readPlane_112 : decode cX6_readPlane 112 = .ok (.aload_n 0, 1) := by decide +kernel
theorem dX6_readPlane_113 : decode cX6_readPlane 113 = .ok (.aload_n 1, 1) := by decide +kernel
theorem dX6_readPlane_114 : decode cX6_readPlane 114 = .ok (.getfield 60, 3) := by decide +kernel
theorem dX6_readPlane_117 : decode cX6_readPlane 117 = .ok (.invokevirtual 64, 3) := by decide +kernel
theorem dX6_readPlane_120 : decode cX6_readPlane 120 = .ok (.goto 120, 3) := by decide +kernel
theorem dX6_readPlane_123 : decode cX6_readPlane 123 = .ok (.aload_n 0, 1) := by decide +kernel
theorem dX6_readPlane_124 : decode cX6_readPlane 124 = .ok (.getfield 12, 3) := by decide +kernel
theorem dX6_readPlane_127 : decode cX6_readPlane 127 = .ok (.ldc 68, 2) := by decide +kernel
theorem dX6_readPlane_129 : decode cX6_readPlane 129 = .ok (.invokevirtual 40, 3) := by decide +kernel
theorem dX6_readPlane_132 : decode cX6_readPlane 132 = .ok (.ifCond .eq 14, 3) := by decide +kernel
theorem dX6_readPlane_135 : decode cX6_readPlane 135 = .ok (.aload_n 0, 1) := by decide +kernel
theorem dX6_readPlane_136 : decode cX6_readPlane 136 = .ok (.aload_n 1, 1) := by decide +kernel
theorem dX6_readPlane_137 : decode cX6_readPlane 137 = .ok (.getfield 60, 3) := by decide +kernel
theorem dX6_readPlane_140 : decode cX6_readPlane 140 = .ok (.invokevirtual 70, 3) := by decide +kernel
theorem dX6_readPlane_143 : decode cX6_readPlane 143 = .ok (.goto 97, 3) := by decide +kernel
theorem dX6_readPlane_146 : decode cX6_readPlane 146 = .ok (.aload_n 0, 1) := by decide +kernel
theorem dX6_readPlane_147 : decode cX6_readPlane 147 = .ok (.getfield 12, 3) := by decide +kernel
theorem dX6_readPlane_150 : decode cX6_readPlane 150 = .ok (.ldc 73, 2) := by decide +kernel
theorem dX6_readPlane_152 : decode cX6_readPlane 152 = .ok (.invokevirtual 40, 3) := by decide +kernel
theorem dX6_readPlane_155 : decode cX6_readPlane 155 = .ok (.ifCond .eq 11, 3) := by decide +kernel
theorem dX6_readPlane_158 : decode cX6_readPlane 158 = .ok (.aload_n 0, 1) := by decide +kernel
theorem dX6_readPlane_159 : decode cX6_readPlane 159 = .ok (.aload_n 1, 1) := by decide +kernel
theorem dX6_readPlane_160 : decode cX6_readPlane 160 = .ok (.invokevirtual 75, 3) := by decide +kernel
theorem dX6_readPlane_163 : decode cX6_readPlane 163 = .ok (.goto 77, 3) := by decide +kernel
theorem dX6_readPlane_166 : decode cX6_readPlane 166 = .ok (.aload_n 0, 1) := by decide +kernel
theorem dX6_readPlane_167 : decode cX6_readPlane 167 = .ok (.getfield 12, 3) := by decide +kernel
theorem dX6_readPlane_170 : decode cX6_readPlane 170 = .ok (.ldc 78, 2) := by decide +kernel
theorem dX6_readPlane_172 : decode cX6_readPlane 172 = .ok (.invokevirtual 40, 3) := by decide +kernel
theorem dX6_readPlane_175 : decode cX6_readPlane 175 = .ok (.ifCond .eq 11, 3) := by decide +kernel
theorem dX6_readPlane_178 : decode cX6_readPlane 178 = .ok (.aload_n 0, 1) := by decide +kernel
theorem dX6_readPlane_179 : decode cX6_readPlane 179 = .ok (.aload_n 1, 1) := by decide +kernel
theorem dX6_readPlane_180 : decode cX6_readPlane 180 = .ok (.invokevirtual 80, 3) := by decide +kernel
theorem dX6_readPlane_183 : decode cX6_readPlane 183 = .ok (.goto 57, 3) := by decide +kernel
theorem dX6_readPlane_186 : decode cX6_readPlane 186 = .ok (.aload_n 0, 1) := by decide +kernel
theorem dX6_readPlane_187 : decode cX6_readPlane 187 = .ok (.getfield 12, 3) := by decide +kernel
theorem dX6_readPlane_190 : decode cX6_readPlane 190 = .ok (.ldc 83, 2) := by decide +kernel
theorem dX6_readPlane_192 : decode cX6_readPlane 192 = .ok (.invokevirtual 40, 3) := by decide +kernel
theorem dX6_readPlane_195 : decode cX6_readPlane 195 = .ok (.ifCond .eq 14, 3) := by decide +kernel
theorem dX6_readPlane_198 : decode cX6_readPlane 198 = .ok (.aload_n 0, 1) := by decide +kernel
theorem dX6_readPlane_199 : decode cX6_readPlane 199 = .ok (.aload_n 1, 1) := by decide +kernel
theorem dX6_readPlane_200 : decode cX6_readPlane 200 = .ok (.getfield 85, 3) := by decide +kernel
theorem dX6_readPlane_203 : decode cX6_readPlane 203 = .ok (.invokevirtual 89, 3) := by decide +kernel
theorem dX6_readPlane_206 : decode cX6_readPlane 206 = .ok (.goto 34, 3) := by decide +kernel
theorem dX6_readPlane_209 : decode cX6_readPlane 209 = .ok (.aload_n 0, 1) := by decide +kernel
theorem dX6_readPlane_210 : decode cX6_readPlane 210 = .ok (.getfield 12, 3) := by decide +kernel
theorem dX6_readPlane_213 : decode cX6_readPlane 213 = .ok (.ldc 93, 2) := by decide +kernel
theorem dX6_readPlane_215 : decode cX6_readPlane 215 = .ok (.invokevirtual 40, 3) := by decide +kernel
theorem dX6_readPlane_218 : decode cX6_readPlane 218 = .ok (.ifCond .eq 14, 3) := by decide +kernel
theorem dX6_readPlane_221 : decode cX6_readPlane 221 = .ok (.aload_n 0, 1) := by decide +kernel
theorem dX6_readPlane_222 : decode cX6_readPlane 222 = .ok (.aload_n 1, 1) := by decide +kernel
theorem dX6_readPlane_223 : decode cX6_readPlane 223 = .ok (.getfield 85, 3) := by decide +kernel
theorem dX6_readPlane_226 : decode cX6_readPlane 226 = .ok (.invokevirtual 95, 3) := by decide +kernel
theorem dX6_readPlane_229 : decode cX6_readPlane 229 = .ok (.goto 11, 3) := by decide +kernel
theorem dX6_readPlane_232 : decode cX6_readPlane 232 = .ok (.aload_n 0, 1) := by decide +kernel
theorem dX6_readPlane_233 : decode cX6_readPlane 233 = .ok (.getfield 12, 3) := by decide +kernel
theorem dX6_readPlane_236 : decode cX6_readPlane 236 = .ok (.iconst 1, 1) := by decide +kernel
theorem dX6_readPlane_237 : decode cX6_readPlane 237 = .ok (.invokevirtual 98, 3) := by decide +kernel
theorem dX6_readPlane_240 : decode cX6_readPlane 240 = .ok (.aload_n 0, 1) := by decide +kernel
theorem dX6_readPlane_241 : decode cX6_readPlane 241 = .ok (.getfield 12, 3) := by decide +kernel
theorem dX6_readPlane_244 : decode cX6_readPlane 244 = .ok (.invokevirtual 101, 3) := by decide +kernel
theorem dX6_readPlane_247 : decode cX6_readPlane 247 = .ok (.iinc 2 1, 3) := by decide +kernel
theorem dX6_readPlane_250 : decode cX6_readPlane 250 = .ok (.goto (-224), 3) := by decide +kernel
theorem dX6_readPlane_253 : decode cX6_readPlane 253 = .ok (.aload_n 1, 1) := by decide +kernel
theorem dX6_readPlane_254 : decode cX6_readPlane 254 = .ok (.getfield 85, 3) := by decide +kernel
theorem dX6_readPlane_257 : decode cX6_readPlane 257 = .ok (.aload_n 1, 1) := by decide +kernel
theorem dX6_readPlane_258 : decode cX6_readPlane 258 = .ok (.getfield 104, 3) := by decide +kernel
theorem dX6_readPlane_261 : decode cX6_readPlane 261 = .ok (.aload_n 1, 1) := by decide +kernel
theorem dX6_readPlane_262 : decode cX6_readPlane 262 = .ok (.getfield 108, 3) := by decide +kernel
theorem dX6_readPlane_265 : decode cX6_readPlane 265 = .ok (.invokevirtual 111, 3) := by decide +kernel
theorem dX6_readPlane_268 : decode cX6_readPlane 268 = .ok (.aload_n 0, 1) := by decide +kernel
theorem dX6_readPlane_269 : decode cX6_readPlane 269 = .ok (.getfield 12, 3) := by decide +kernel
theorem dX6_readPlane_272 : decode cX6_readPlane 272 = .ok (.iconst 0, 1) := by decide +kernel
theorem dX6_readPlane_273 : decode cX6_readPlane 273 = .ok (.putfield 117, 3) := by decide +kernel
theorem dX6_readPlane_276 : decode cX6_readPlane 276 = .ok (.return_, 1) := by decide +kernel
theorem dX6_readCargo_0 : decode cX6_readCargo 0 = .ok (.aload_n 0, 1) := by decide +kernel
theorem dX6_readCargo_1 : decode cX6_readCargo 1 = .ok (.iconst 0, 1) := by decide +kernel
theorem dX6_readCargo_2 : decode cX6_readCargo 2 = .ok (.putfield 120, 3) := by decide +kernel
theorem dX6_readCargo_5 : decode cX6_readCargo 5 = .ok (.aload_n 1, 1) := by decide +kernel
theorem dX6_readCargo_6 : decode cX6_readCargo 6 = .ok (.invokevirtual 123, 3) := by decide +kernel
theorem dX6_readCargo_9 : decode cX6_readCargo 9 = .ok (.aload_n 0, 1) := by decide +kernel
theorem dX6_readCargo_10 : decode cX6_readCargo 10 = .ok (.getfield 12, 3) := by decide +kernel
theorem dX6_readCargo_13 : decode cX6_readCargo 13 = .ok (.sipush 300, 3) := by decide +kernel
theorem dX6_readCargo_16 : decode cX6_readCargo 16 = .ok (.invokevirtual 30, 3) := by decide +kernel
theorem dX6_readCargo_19 : decode cX6_readCargo 19 = .ok (.iconst 0, 1) := by decide +kernel
theorem dX6_readCargo_20 : decode cX6_readCargo 20 = .ok (.istore_n 2, 1) := by decide +kernel
theorem dX6_readCargo_21 : decode cX6_readCargo 21 = .ok (.iload_n 2, 1) := by decide +kernel
theorem dX6_readCargo_22 : decode cX6_readCargo 22 = .ok (.sipush 300, 3) := by decide +kernel
theorem dX6_readCargo_25 : decode cX6_readCargo 25 = .ok (.if_icmp .ge 71, 3) := by decide +kernel
theorem dX6_readCargo_28 : decode cX6_readCargo 28 = .ok (.aload_n 0, 1) := by decide +kernel
theorem dX6_readCargo_29 : decode cX6_readCargo 29 = .ok (.invokevirtual 34, 3) := by decide +kernel
theorem dX6_readCargo_32 : decode cX6_readCargo 32 = .ok (.ifCond .eq 64, 3) := by decide +kernel
theorem dX6_readCargo_35 : decode cX6_readCargo 35 = .ok (.aload_n 0, 1) := by decide +kernel
theorem dX6_readCargo_36 : decode cX6_readCargo 36 = .ok (.getfield 12, 3) := by decide +kernel
theorem dX6_readCargo_39 : decode cX6_readCargo 39 = .ok (.ldc 126, 2) := by decide +kernel
theorem dX6_readCargo_41 : decode cX6_readCargo 41 = .ok (.invokevirtual 40, 3) := by decide +kernel
theorem dX6_readCargo_44 : decode cX6_readCargo 44 = .ok (.ifCond .eq 11, 3) := by decide +kernel
theorem dX6_readCargo_47 : decode cX6_readCargo 47 = .ok (.aload_n 0, 1) := by decide +kernel
theorem dX6_readCargo_48 : decode cX6_readCargo 48 = .ok (.aload_n 1, 1) := by decide +kernel
theorem dX6_readCargo_49 : decode cX6_readCargo 49 = .ok (.invokevirtual 128, 3) := by decide +kernel
theorem dX6_readCargo_52 : decode cX6_readCargo 52 = .ok (.goto 31, 3) := by decide +kernel
theorem dX6_readCargo_55 : decode cX6_readCargo 55 = .ok (.aload_n 0, 1) := by decide +kernel
theorem dX6_readCargo_56 : decode cX6_readCargo 56 = .ok (.getfield 12, 3) := by decide +kernel
theorem dX6_readCargo_59 : decode cX6_readCargo 59 = .ok (.ldc 132, 2) := by decide +kernel
theorem dX6_readCargo_61 : decode cX6_readCargo 61 = .ok (.invokevirtual 40, 3) := by decide +kernel
theorem dX6_readCargo_64 : decode cX6_readCargo 64 = .ok (.ifCond .eq 11, 3) := by decide +kernel
theorem dX6_readCargo_67 : decode cX6_readCargo 67 = .ok (.aload_n 0, 1) := by decide +kernel
theorem dX6_readCargo_68 : decode cX6_readCargo 68 = .ok (.aload_n 1, 1) := by decide +kernel
theorem dX6_readCargo_69 : decode cX6_readCargo 69 = .ok (.invokevirtual 134, 3) := by decide +kernel
theorem dX6_readCargo_72 : decode cX6_readCargo 72 = .ok (.goto 11, 3) := by decide +kernel
theorem dX6_readCargo_75 : decode cX6_readCargo 75 = .ok (.aload_n 0, 1) := by decide +kernel
theorem dX6_readCargo_76 : decode cX6_readCargo 76 = .ok (.getfield 12, 3) := by decide +kernel
theorem dX6_readCargo_79 : decode cX6_readCargo 79 = .ok (.iconst 1, 1) := by decide +kernel
theorem dX6_readCargo_80 : decode cX6_readCargo 80 = .ok (.invokevirtual 98, 3) := by decide +kernel
theorem dX6_readCargo_83 : decode cX6_readCargo 83 = .ok (.aload_n 0, 1) := by decide +kernel
theorem dX6_readCargo_84 : decode cX6_readCargo 84 = .ok (.getfield 12, 3) := by decide +kernel
theorem dX6_readCargo_87 : decode cX6_readCargo 87 = .ok (.invokevirtual 101, 3) := by decide +kernel
theorem dX6_readCargo_90 : decode cX6_readCargo 90 = .ok (.iinc 2 1, 3) := by decide +kernel
theorem dX6_readCargo_93 : decode cX6_readCargo 93 = .ok (.goto (-72), 3) := by decide +kernel
theorem dX6_readCargo_96 : decode cX6_readCargo 96 = .ok (.aload_n 0, 1) := by decide +kernel
theorem dX6_readCargo_97 : decode cX6_readCargo 97 = .ok (.getfield 12, 3) := by decide +kernel
theorem dX6_readCargo_100 : decode cX6_readCargo 100 = .ok (.iconst 0, 1) := by decide +kernel
theorem dX6_readCargo_101 : decode cX6_readCargo 101 = .ok (.putfield 117, 3) := by decide +kernel
theorem dX6_readCargo_104 : decode cX6_readCargo 104 = .ok (.return_, 1) := by decide +kernel
theorem dX6_atLine_0 : decode cX6_atLine 0 = .ok (.aload_n 0, 1) := by decide +kernel
theorem dX6_atLine_1 : decode cX6_atLine 1 = .ok (.getfield 12, 3) := by decide +kernel
theorem dX6_atLine_4 : decode cX6_atLine 4 = .ok (.invokevirtual 137, 3) := by decide +kernel
theorem dX6_atLine_7 : decode cX6_atLine 7 = .ok (.aload_n 0, 1) := by decide +kernel
theorem dX6_atLine_8 : decode cX6_atLine 8 = .ok (.getfield 12, 3) := by decide +kernel
theorem dX6_atLine_11 : decode cX6_atLine 11 = .ok (.getfield 140, 3) := by decide +kernel
theorem dX6_atLine_14 : decode cX6_atLine 14 = .ok (.ifCond .ne 17, 3) := by decide +kernel
theorem dX6_atLine_17 : decode cX6_atLine 17 = .ok (.aload_n 0, 1) := by decide +kernel
theorem dX6_atLine_18 : decode cX6_atLine 18 = .ok (.getfield 12, 3) := by decide +kernel
theorem dX6_atLine_21 : decode cX6_atLine 21 = .ok (.getfield 143, 3) := by decide +kernel
theorem dX6_atLine_24 : decode cX6_atLine 24 = .ok (.ifCond .eq 7, 3) := by decide +kernel
theorem dX6_atLine_27 : decode cX6_atLine 27 = .ok (.iconst 1, 1) := by decide +kernel
theorem dX6_atLine_28 : decode cX6_atLine 28 = .ok (.goto 4, 3) := by decide +kernel
theorem dX6_atLine_31 : decode cX6_atLine 31 = .ok (.iconst 0, 1) := by decide +kernel
theorem dX6_atLine_32 : decode cX6_atLine 32 = .ok (.ireturn, 1) := by decide +kernel
theorem dX6_readEmpty_0 : decode cX6_readEmpty 0 = .ok (.aload_n 0, 1) := by decide +kernel
theorem dX6_readEmpty_1 : decode cX6_readEmpty 1 = .ok (.getfield 18, 3) := by decide +kernel
theorem dX6_readEmpty_4 : decode cX6_readEmpty 4 = .ok (.ifCond .eq 11, 3) := by decide +kernel
theorem dX6_readEmpty_7 : decode cX6_readEmpty 7 = .ok (.aload_n 0, 1) := by decide +kernel
theorem dX6_readEmpty_8 : decode cX6_readEmpty 8 = .ok (.getfield 12, 3) := by decide +kernel
theorem dX6_readEmpty_11 : decode cX6_readEmpty 11 = .ok (.iconst 3, 1) := by decide +kernel
theorem dX6_readEmpty_12 : decode cX6_readEmpty 12 = .ok (.invokevirtual 98, 3) := by decide +kernel
theorem dX6_readEmpty_15 : decode cX6_readEmpty 15 = .ok (.aload_n 0, 1) := by decide +kernel
theorem dX6_readEmpty_16 : decode cX6_readEmpty 16 = .ok (.iconst 1, 1) := by decide +kernel
theorem dX6_readEmpty_17 : decode cX6_readEmpty 17 = .ok (.putfield 18, 3) := by decide +kernel
theorem dX6_readEmpty_20 : decode cX6_readEmpty 20 = .ok (.aload_n 1, 1) := by decide +kernel
theorem dX6_readEmpty_21 : decode cX6_readEmpty 21 = .ok (.aload_n 0, 1) := by decide +kernel
theorem dX6_readEmpty_22 : decode cX6_readEmpty 22 = .ok (.getfield 12, 3) := by decide +kernel
theorem dX6_readEmpty_25 : decode cX6_readEmpty 25 = .ok (.iconst 1, 1) := by decide +kernel
theorem dX6_readEmpty_26 : decode cX6_readEmpty 26 = .ok (.sipush 999, 3) := by decide +kernel
theorem dX6_readEmpty_29 : decode cX6_readEmpty 29 = .ok (.invokevirtual 146, 3) := by decide +kernel
theorem dX6_readEmpty_32 : decode cX6_readEmpty 32 = .ok (.putfield 104, 3) := by decide +kernel
theorem dX6_readEmpty_35 : decode cX6_readEmpty 35 = .ok (.aload_n 1, 1) := by decide +kernel
theorem dX6_readEmpty_36 : decode cX6_readEmpty 36 = .ok (.aload_n 0, 1) := by decide +kernel
theorem dX6_readEmpty_37 : decode cX6_readEmpty 37 = .ok (.getfield 12, 3) := by decide +kernel
theorem dX6_readEmpty_40 : decode cX6_readEmpty 40 = .ok (.iconst 0, 1) := by decide +kernel
theorem dX6_readEmpty_41 : decode cX6_readEmpty 41 = .ok (.bipush 99, 2) := by decide +kernel
theorem dX6_readEmpty_43 : decode cX6_readEmpty 43 = .ok (.invokevirtual 146, 3) := by decide +kernel
theorem dX6_readEmpty_46 : decode cX6_readEmpty 46 = .ok (.putfield 108, 3) := by decide +kernel
theorem dX6_readEmpty_49 : decode cX6_readEmpty 49 = .ok (.return_, 1) := by decide +kernel
theorem dX6_readSpan_0 : decode cX6_readSpan 0 = .ok (.aload_n 0, 1) := by decide +kernel
theorem dX6_readSpan_1 : decode cX6_readSpan 1 = .ok (.getfield 22, 3) := by decide +kernel
theorem dX6_readSpan_4 : decode cX6_readSpan 4 = .ok (.ifCond .eq 11, 3) := by decide +kernel
theorem dX6_readSpan_7 : decode cX6_readSpan 7 = .ok (.aload_n 0, 1) := by decide +kernel
theorem dX6_readSpan_8 : decode cX6_readSpan 8 = .ok (.getfield 12, 3) := by decide +kernel
theorem dX6_readSpan_11 : decode cX6_readSpan 11 = .ok (.iconst 3, 1) := by decide +kernel
theorem dX6_readSpan_12 : decode cX6_readSpan 12 = .ok (.invokevirtual 98, 3) := by decide +kernel
theorem dX6_readSpan_15 : decode cX6_readSpan 15 = .ok (.aload_n 0, 1) := by decide +kernel
theorem dX6_readSpan_16 : decode cX6_readSpan 16 = .ok (.iconst 1, 1) := by decide +kernel
theorem dX6_readSpan_17 : decode cX6_readSpan 17 = .ok (.putfield 22, 3) := by decide +kernel
theorem dX6_readSpan_20 : decode cX6_readSpan 20 = .ok (.aload_n 1, 1) := by decide +kernel
theorem dX6_readSpan_21 : decode cX6_readSpan 21 = .ok (.aload_n 0, 1) := by decide +kernel
theorem dX6_readSpan_22 : decode cX6_readSpan 22 = .ok (.getfield 12, 3) := by decide +kernel
theorem dX6_readSpan_25 : decode cX6_readSpan 25 = .ok (.iconst 0, 1) := by decide +kernel
theorem dX6_readSpan_26 : decode cX6_readSpan 26 = .ok (.bipush 99, 2) := by decide +kernel
theorem dX6_readSpan_28 : decode cX6_readSpan 28 = .ok (.invokevirtual 146, 3) := by decide +kernel
theorem dX6_readSpan_31 : decode cX6_readSpan 31 = .ok (.putfield 150, 3) := by decide +kernel
theorem dX6_readSpan_34 : decode cX6_readSpan 34 = .ok (.aload_n 1, 1) := by decide +kernel
theorem dX6_readSpan_35 : decode cX6_readSpan 35 = .ok (.aload_n 0, 1) := by decide +kernel
theorem dX6_readSpan_36 : decode cX6_readSpan 36 = .ok (.getfield 12, 3) := by decide +kernel
theorem dX6_readSpan_39 : decode cX6_readSpan 39 = .ok (.aload_n 1, 1) := by decide +kernel
theorem dX6_readSpan_40 : decode cX6_readSpan 40 = .ok (.getfield 150, 3) := by decide +kernel
theorem dX6_readSpan_43 : decode cX6_readSpan 43 = .ok (.iconst 1, 1) := by decide +kernel
theorem dX6_readSpan_44 : decode cX6_readSpan 44 = .ok (.iadd, 1) := by decide +kernel
theorem dX6_readSpan_45 : decode cX6_readSpan 45 = .ok (.bipush 99, 2) := by decide +kernel
theorem dX6_readSpan_47 : decode cX6_readSpan 47 = .ok (.invokevirtual 146, 3) := by decide +kernel
theorem dX6_readSpan_50 : decode cX6_readSpan 50 = .ok (.putfield 153, 3) := by decide +kernel
theorem dX6_readSpan_53 : decode cX6_readSpan 53 = .ok (.return_, 1) := by decide +kernel
theorem dX6_readHold_0 : decode cX6_readHold 0 = .ok (.aload_n 1, 1) := by decide +kernel
theorem dX6_readHold_1 : decode cX6_readHold 1 = .ok (.getfield 60, 3) := by decide +kernel
theorem dX6_readHold_4 : decode cX6_readHold 4 = .ok (.getfield 156, 3) := by decide +kernel
theorem dX6_readHold_7 : decode cX6_readHold 7 = .ok (.iconst 3, 1) := by decide +kernel
theorem dX6_readHold_8 : decode cX6_readHold 8 = .ok (.if_icmp .lt 11, 3) := by decide +kernel
theorem dX6_readHold_11 : decode cX6_readHold 11 = .ok (.aload_n 0, 1) := by decide +kernel
theorem dX6_readHold_12 : decode cX6_readHold 12 = .ok (.getfield 12, 3) := by decide +kernel
theorem dX6_readHold_15 : decode cX6_readHold 15 = .ok (.iconst 4, 1) := by decide +kernel
theorem dX6_readHold_16 : decode cX6_readHold 16 = .ok (.invokevirtual 98, 3) := by decide +kernel
theorem dX6_readHold_19 : decode cX6_readHold 19 = .ok (.aload_n 0, 1) := by decide +kernel
theorem dX6_readHold_20 : decode cX6_readHold 20 = .ok (.aload_n 1, 1) := by decide +kernel
theorem dX6_readHold_21 : decode cX6_readHold 21 = .ok (.invokevirtual 161, 3) := by decide +kernel
theorem dX6_readHold_24 : decode cX6_readHold 24 = .ok (.lstore_n 2, 1) := by decide +kernel
theorem dX6_readHold_25 : decode cX6_readHold 25 = .ok (.aload_n 0, 1) := by decide +kernel
theorem dX6_readHold_26 : decode cX6_readHold 26 = .ok (.getfield 12, 3) := by decide +kernel
theorem dX6_readHold_29 : decode cX6_readHold 29 = .ok (.iconst 1, 1) := by decide +kernel
theorem dX6_readHold_30 : decode cX6_readHold 30 = .ok (.sipush 999, 3) := by decide +kernel
theorem dX6_readHold_33 : decode cX6_readHold 33 = .ok (.invokevirtual 146, 3) := by decide +kernel
theorem dX6_readHold_36 : decode cX6_readHold 36 = .ok (.istore 4, 2) := by decide +kernel
theorem dX6_readHold_38 : decode cX6_readHold 38 = .ok (.aload_n 0, 1) := by decide +kernel
theorem dX6_readHold_39 : decode cX6_readHold 39 = .ok (.invokevirtual 165, 3) := by decide +kernel
theorem dX6_readHold_42 : decode cX6_readHold 42 = .ok (.istore 5, 2) := by decide +kernel
theorem dX6_readHold_44 : decode cX6_readHold 44 = .ok (.aload_n 0, 1) := by decide +kernel
theorem dX6_readHold_45 : decode cX6_readHold 45 = .ok (.getfield 12, 3) := by decide +kernel
theorem dX6_readHold_48 : decode cX6_readHold 48 = .ok (.getfield 140, 3) := by decide +kernel
theorem dX6_readHold_51 : decode cX6_readHold 51 = .ok (.ifCond .ne 15, 3) := by decide +kernel
theorem dX6_readHold_54 : decode cX6_readHold 54 = .ok (.aload_n 1, 1) := by decide +kernel
theorem dX6_readHold_55 : decode cX6_readHold 55 = .ok (.getfield 60, 3) := by decide +kernel
theorem dX6_readHold_58 : decode cX6_readHold 58 = .ok (.lload_n 2, 1) := by decide +kernel
theorem dX6_readHold_59 : decode cX6_readHold 59 = .ok (.iload 4, 2) := by decide +kernel
theorem dX6_readHold_61 : decode cX6_readHold 61 = .ok (.iload 5, 2) := by decide +kernel
theorem dX6_readHold_63 : decode cX6_readHold 63 = .ok (.invokevirtual 168, 3) := by decide +kernel
theorem dX6_readHold_66 : decode cX6_readHold 66 = .ok (.return_, 1) := by decide +kernel
theorem dX6_isFrontDoor_0 : decode cX6_isFrontDoor 0 = .ok (.aload_n 0, 1) := by decide +kernel
theorem dX6_isFrontDoor_1 : decode cX6_isFrontDoor 1 = .ok (.getfield 12, 3) := by decide +kernel
theorem dX6_isFrontDoor_4 : decode cX6_isFrontDoor 4 = .ok (.invokevirtual 137, 3) := by decide +kernel
theorem dX6_isFrontDoor_7 : decode cX6_isFrontDoor 7 = .ok (.aload_n 0, 1) := by decide +kernel
theorem dX6_isFrontDoor_8 : decode cX6_isFrontDoor 8 = .ok (.getfield 12, 3) := by decide +kernel
theorem dX6_isFrontDoor_11 : decode cX6_isFrontDoor 11 = .ok (.ldc 172, 2) := by decide +kernel
theorem dX6_isFrontDoor_13 : decode cX6_isFrontDoor 13 = .ok (.invokevirtual 40, 3) := by decide +kernel
theorem dX6_isFrontDoor_16 : decode cX6_isFrontDoor 16 = .ok (.istore_n 1, 1) := by decide +kernel
theorem dX6_isFrontDoor_17 : decode cX6_isFrontDoor 17 = .ok (.iload_n 1, 1) := by decide +kernel
theorem dX6_isFrontDoor_18 : decode cX6_isFrontDoor 18 = .ok (.ifCond .ne 23, 3) := by decide +kernel
theorem dX6_isFrontDoor_21 : decode cX6_isFrontDoor 21 = .ok (.aload_n 0, 1) := by decide +kernel
theorem dX6_isFrontDoor_22 : decode cX6_isFrontDoor 22 = .ok (.getfield 12, 3) := by decide +kernel
theorem dX6_isFrontDoor_25 : decode cX6_isFrontDoor 25 = .ok (.ldc 174, 2) := by decide +kernel
theorem dX6_isFrontDoor_27 : decode cX6_isFrontDoor 27 = .ok (.invokevirtual 40, 3) := by decide +kernel
theorem dX6_isFrontDoor_30 : decode cX6_isFrontDoor 30 = .ok (.ifCond .ne 11, 3) := by decide +kernel
theorem dX6_isFrontDoor_33 : decode cX6_isFrontDoor 33 = .ok (.aload_n 0, 1) := by decide +kernel
theorem dX6_isFrontDoor_34 : decode cX6_isFrontDoor 34 = .ok (.getfield 12, 3) := by decide +kernel
theorem dX6_isFrontDoor_37 : decode cX6_isFrontDoor 37 = .ok (.iconst 1, 1) := by decide +kernel
theorem dX6_isFrontDoor_38 : decode cX6_isFrontDoor 38 = .ok (.invokevirtual 98, 3) := by decide +kernel
theorem dX6_isFrontDoor_41 : decode cX6_isFrontDoor 41 = .ok (.iload_n 1, 1) := by decide +kernel
theorem dX6_isFrontDoor_42 : decode cX6_isFrontDoor 42 = .ok (.ireturn, 1) := by decide +kernel
theorem dX6_readSpot_0 : decode cX6_readSpot 0 = .ok (.aload_n 1, 1) := by decide +kernel
theorem dX6_readSpot_1 : decode cX6_readSpot 1 = .ok (.getfield 176, 3) := by decide +kernel
theorem dX6_readSpot_4 : decode cX6_readSpot 4 = .ok (.bipush 6, 2) := by decide +kernel
theorem dX6_readSpot_6 : decode cX6_readSpot 6 = .ok (.if_icmp .lt 11, 3) := by decide +kernel
theorem dX6_readSpot_9 : decode cX6_readSpot 9 = .ok (.aload_n 0, 1) := by decide +kernel
theorem dX6_readSpot_10 : decode cX6_readSpot 10 = .ok (.getfield 12, 3) := by decide +kernel
theorem dX6_readSpot_13 : decode cX6_readSpot 13 = .ok (.iconst 4, 1) := by decide +kernel
theorem dX6_readSpot_14 : decode cX6_readSpot 14 = .ok (.invokevirtual 98, 3) := by decide +kernel
theorem dX6_readSpot_17 : decode cX6_readSpot 17 = .ok (.aload_n 1, 1) := by decide +kernel
theorem dX6_readSpot_18 : decode cX6_readSpot 18 = .ok (.getfield 156, 3) := by decide +kernel
theorem dX6_readSpot_21 : decode cX6_readSpot 21 = .ok (.ifCond .ne 11, 3) := by decide +kernel
theorem dX6_readSpot_24 : decode cX6_readSpot 24 = .ok (.aload_n 0, 1) := by decide +kernel
theorem dX6_readSpot_25 : decode cX6_readSpot 25 = .ok (.getfield 12, 3) := by decide +kernel
theorem dX6_readSpot_28 : decode cX6_readSpot 28 = .ok (.iconst 5, 1) := by decide +kernel
theorem dX6_readSpot_29 : decode cX6_readSpot 29 = .ok (.invokevirtual 98, 3) := by decide +kernel
theorem dX6_readSpot_32 : decode cX6_readSpot 32 = .ok (.aload_n 0, 1) := by decide +kernel
theorem dX6_readSpot_33 : decode cX6_readSpot 33 = .ok (.getfield 12, 3) := by decide +kernel
theorem dX6_readSpot_36 : decode cX6_readSpot 36 = .ok (.iconst 0, 1) := by decide +kernel
theorem dX6_readSpot_37 : decode cX6_readSpot 37 = .ok (.bipush 99, 2) := by decide +kernel
theorem dX6_readSpot_39 : decode cX6_readSpot 39 = .ok (.invokevirtual 146, 3) := by decide +kernel
theorem dX6_readSpot_42 : decode cX6_readSpot 42 = .ok (.istore_n 2, 1) := by decide +kernel
theorem dX6_readSpot_43 : decode cX6_readSpot 43 = .ok (.aload_n 0, 1) := by decide +kernel
theorem dX6_readSpot_44 : decode cX6_readSpot 44 = .ok (.getfield 12, 3) := by decide +kernel
theorem dX6_readSpot_47 : decode cX6_readSpot 47 = .ok (.iconst 1, 1) := by decide +kernel
theorem dX6_readSpot_48 : decode cX6_readSpot 48 = .ok (.bipush 99, 2) := by decide +kernel
theorem dX6_readSpot_50 : decode cX6_readSpot 50 = .ok (.invokevirtual 146, 3) := by decide +kernel
theorem dX6_readSpot_53 : decode cX6_readSpot 53 = .ok (.istore_n 3, 1) := by decide +kernel
theorem dX6_readSpot_54 : decode cX6_readSpot 54 = .ok (.aload_n 0, 1) := by decide +kernel
theorem dX6_readSpot_55 : decode cX6_readSpot 55 = .ok (.getfield 12, 3) := by decide +kernel
theorem dX6_readSpot_58 : decode cX6_readSpot 58 = .ok (.getfield 140, 3) := by decide +kernel
theorem dX6_readSpot_61 : decode cX6_readSpot 61 = .ok (.ifCond .ne 9, 3) := by decide +kernel
theorem dX6_readSpot_64 : decode cX6_readSpot 64 = .ok (.aload_n 1, 1) := by decide +kernel
theorem dX6_readSpot_65 : decode cX6_readSpot 65 = .ok (.iload_n 2, 1) := by decide +kernel
theorem dX6_readSpot_66 : decode cX6_readSpot 66 = .ok (.iload_n 3, 1) := by decide +kernel
theorem dX6_readSpot_67 : decode cX6_readSpot 67 = .ok (.invokevirtual 179, 3) := by decide +kernel
theorem dX6_readSpot_70 : decode cX6_readSpot 70 = .ok (.return_, 1) := by decide +kernel
theorem dX6_readJoint_0 : decode cX6_readJoint 0 = .ok (.aload_n 1, 1) := by decide +kernel
theorem dX6_readJoint_1 : decode cX6_readJoint 1 = .ok (.invokevirtual 182, 3) := by decide +kernel
theorem dX6_readJoint_4 : decode cX6_readJoint 4 = .ok (.ifCond .ne 11, 3) := by decide +kernel
theorem dX6_readJoint_7 : decode cX6_readJoint 7 = .ok (.aload_n 0, 1) := by decide +kernel
theorem dX6_readJoint_8 : decode cX6_readJoint 8 = .ok (.getfield 12, 3) := by decide +kernel
theorem dX6_readJoint_11 : decode cX6_readJoint 11 = .ok (.iconst 5, 1) := by decide +kernel
theorem dX6_readJoint_12 : decode cX6_readJoint 12 = .ok (.invokevirtual 98, 3) := by decide +kernel
theorem dX6_readJoint_15 : decode cX6_readJoint 15 = .ok (.aload_n 0, 1) := by decide +kernel
theorem dX6_readJoint_16 : decode cX6_readJoint 16 = .ok (.getfield 12, 3) := by decide +kernel
theorem dX6_readJoint_19 : decode cX6_readJoint 19 = .ok (.iconst 1, 1) := by decide +kernel
theorem dX6_readJoint_20 : decode cX6_readJoint 20 = .ok (.sipush 999, 3) := by decide +kernel
theorem dX6_readJoint_23 : decode cX6_readJoint 23 = .ok (.invokevirtual 146, 3) := by decide +kernel
theorem dX6_readJoint_26 : decode cX6_readJoint 26 = .ok (.istore_n 2, 1) := by decide +kernel
theorem dX6_readJoint_27 : decode cX6_readJoint 27 = .ok (.aload_n 0, 1) := by decide +kernel
theorem dX6_readJoint_28 : decode cX6_readJoint 28 = .ok (.getfield 12, 3) := by decide +kernel
theorem dX6_readJoint_31 : decode cX6_readJoint 31 = .ok (.getfield 140, 3) := by decide +kernel
theorem dX6_readJoint_34 : decode cX6_readJoint 34 = .ok (.ifCond .ne 8, 3) := by decide +kernel
theorem dX6_readJoint_37 : decode cX6_readJoint 37 = .ok (.aload_n 1, 1) := by decide +kernel
theorem dX6_readJoint_38 : decode cX6_readJoint 38 = .ok (.iload_n 2, 1) := by decide +kernel
theorem dX6_readJoint_39 : decode cX6_readJoint 39 = .ok (.invokevirtual 185, 3) := by decide +kernel
theorem dX6_readJoint_42 : decode cX6_readJoint 42 = .ok (.return_, 1) := by decide +kernel
theorem dX6_readBin_0 : decode cX6_readBin 0 = .ok (.aload_n 1, 1) := by decide +kernel
theorem dX6_readBin_1 : decode cX6_readBin 1 = .ok (.getfield 188, 3) := by decide +kernel
theorem dX6_readBin_4 : decode cX6_readBin 4 = .ok (.iconst 2, 1) := by decide +kernel
theorem dX6_readBin_5 : decode cX6_readBin 5 = .ok (.if_icmp .lt 11, 3) := by decide +kernel
theorem dX6_readBin_8 : decode cX6_readBin 8 = .ok (.aload_n 0, 1) := by decide +kernel
theorem dX6_readBin_9 : decode cX6_readBin 9 = .ok (.getfield 12, 3) := by decide +kernel
theorem dX6_readBin_12 : decode cX6_readBin 12 = .ok (.iconst 4, 1) := by decide +kernel
theorem dX6_readBin_13 : decode cX6_readBin 13 = .ok (.invokevirtual 98, 3) := by decide +kernel
theorem dX6_readBin_16 : decode cX6_readBin 16 = .ok (.aload_n 0, 1) := by decide +kernel
theorem dX6_readBin_17 : decode cX6_readBin 17 = .ok (.getfield 12, 3) := by decide +kernel
theorem dX6_readBin_20 : decode cX6_readBin 20 = .ok (.iconst 0, 1) := by decide +kernel
theorem dX6_readBin_21 : decode cX6_readBin 21 = .ok (.bipush 99, 2) := by decide +kernel
theorem dX6_readBin_23 : decode cX6_readBin 23 = .ok (.invokevirtual 146, 3) := by decide +kernel
theorem dX6_readBin_26 : decode cX6_readBin 26 = .ok (.istore_n 2, 1) := by decide +kernel
theorem dX6_readBin_27 : decode cX6_readBin 27 = .ok (.aload_n 0, 1) := by decide +kernel
theorem dX6_readBin_28 : decode cX6_readBin 28 = .ok (.getfield 12, 3) := by decide +kernel
theorem dX6_readBin_31 : decode cX6_readBin 31 = .ok (.iconst 1, 1) := by decide +kernel
theorem dX6_readBin_32 : decode cX6_readBin 32 = .ok (.bipush 99, 2) := by decide +kernel
theorem dX6_readBin_34 : decode cX6_readBin 34 = .ok (.invokevirtual 146, 3) := by decide +kernel
theorem dX6_readBin_37 : decode cX6_readBin 37 = .ok (.istore_n 3, 1) := by decide +kernel
theorem dX6_readBin_38 : decode cX6_readBin 38 = .ok (.aload_n 0, 1) := by decide +kernel
theorem dX6_readBin_39 : decode cX6_readBin 39 = .ok (.getfield 12, 3) := by decide +kernel
theorem dX6_readBin_42 : decode cX6_readBin 42 = .ok (.getfield 140, 3) := by decide +kernel
theorem dX6_readBin_45 : decode cX6_readBin 45 = .ok (.ifCond .ne 9, 3) := by decide +kernel
theorem dX6_readBin_48 : decode cX6_readBin 48 = .ok (.aload_n 1, 1) := by decide +kernel
theorem dX6_readBin_49 : decode cX6_readBin 49 = .ok (.iload_n 2, 1) := by decide +kernel
theorem dX6_readBin_50 : decode cX6_readBin 50 = .ok (.iload_n 3, 1) := by decide +kernel
theorem dX6_readBin_51 : decode cX6_readBin 51 = .ok (.invokevirtual 191, 3) := by decide +kernel
theorem dX6_readBin_54 : decode cX6_readBin 54 = .ok (.return_, 1) := by decide +kernel
theorem dX6_readTank_0 : decode cX6_readTank 0 = .ok (.aload_n 1, 1) := by decide +kernel
theorem dX6_readTank_1 : decode cX6_readTank 1 = .ok (.getfield 85, 3) := by decide +kernel
theorem dX6_readTank_4 : decode cX6_readTank 4 = .ok (.getfield 194, 3) := by decide +kernel
theorem dX6_readTank_7 : decode cX6_readTank 7 = .ok (.iconst 3, 1) := by decide +kernel
theorem dX6_readTank_8 : decode cX6_readTank 8 = .ok (.if_icmp .lt 11, 3) := by decide +kernel
theorem dX6_readTank_11 : decode cX6_readTank 11 = .ok (.aload_n 0, 1) := by decide +kernel
theorem dX6_readTank_12 : decode cX6_readTank 12 = .ok (.getfield 12, 3) := by decide +kernel
theorem dX6_readTank_15 : decode cX6_readTank 15 = .ok (.iconst 4, 1) := by decide +kernel
theorem dX6_readTank_16 : decode cX6_readTank 16 = .ok (.invokevirtual 98, 3) := by decide +kernel
theorem dX6_readTank_19 : decode cX6_readTank 19 = .ok (.aload_n 0, 1) := by decide +kernel
theorem dX6_readTank_20 : decode cX6_readTank 20 = .ok (.aload_n 1, 1) := by decide +kernel
theorem dX6_readTank_21 : decode cX6_readTank 21 = .ok (.invokevirtual 161, 3) := by decide +kernel
theorem dX6_readTank_24 : decode cX6_readTank 24 = .ok (.lstore_n 2, 1) := by decide +kernel
theorem dX6_readTank_25 : decode cX6_readTank 25 = .ok (.aload_n 0, 1) := by decide +kernel
theorem dX6_readTank_26 : decode cX6_readTank 26 = .ok (.getfield 12, 3) := by decide +kernel
theorem dX6_readTank_29 : decode cX6_readTank 29 = .ok (.iconst 0, 1) := by decide +kernel
theorem dX6_readTank_30 : decode cX6_readTank 30 = .ok (.bipush 99, 2) := by decide +kernel
theorem dX6_readTank_32 : decode cX6_readTank 32 = .ok (.invokevirtual 146, 3) := by decide +kernel
theorem dX6_readTank_35 : decode cX6_readTank 35 = .ok (.istore 4, 2) := by decide +kernel
theorem dX6_readTank_37 : decode cX6_readTank 37 = .ok (.aload_n 0, 1) := by decide +kernel
theorem dX6_readTank_38 : decode cX6_readTank 38 = .ok (.getfield 12, 3) := by decide +kernel
theorem dX6_readTank_41 : decode cX6_readTank 41 = .ok (.iconst 1, 1) := by decide +kernel
theorem dX6_readTank_42 : decode cX6_readTank 42 = .ok (.bipush 99, 2) := by decide +kernel
theorem dX6_readTank_44 : decode cX6_readTank 44 = .ok (.invokevirtual 146, 3) := by decide +kernel
theorem dX6_readTank_47 : decode cX6_readTank 47 = .ok (.istore 5, 2) := by decide +kernel
theorem dX6_readTank_49 : decode cX6_readTank 49 = .ok (.aload_n 0, 1) := by decide +kernel
theorem dX6_readTank_50 : decode cX6_readTank 50 = .ok (.getfield 12, 3) := by decide +kernel
theorem dX6_readTank_53 : decode cX6_readTank 53 = .ok (.getfield 140, 3) := by decide +kernel
theorem dX6_readTank_56 : decode cX6_readTank 56 = .ok (.ifCond .ne 15, 3) := by decide +kernel
theorem dX6_readTank_59 : decode cX6_readTank 59 = .ok (.aload_n 1, 1) := by decide +kernel
theorem dX6_readTank_60 : decode cX6_readTank 60 = .ok (.getfield 85, 3) := by decide +kernel
theorem dX6_readTank_63 : decode cX6_readTank 63 = .ok (.lload_n 2, 1) := by decide +kernel
theorem dX6_readTank_64 : decode cX6_readTank 64 = .ok (.iload 4, 2) := by decide +kernel
theorem dX6_readTank_66 : decode cX6_readTank 66 = .ok (.iload 5, 2) := by decide +kernel
theorem dX6_readTank_68 : decode cX6_readTank 68 = .ok (.invokevirtual 197, 3) := by decide +kernel
theorem dX6_readTank_71 : decode cX6_readTank 71 = .ok (.return_, 1) := by decide +kernel
theorem dX6_readBurn_0 : decode cX6_readBurn 0 = .ok (.aload_n 1, 1) := by decide +kernel
theorem dX6_readBurn_1 : decode cX6_readBurn 1 = .ok (.getfield 201, 3) := by decide +kernel
theorem dX6_readBurn_4 : decode cX6_readBurn 4 = .ok (.bipush 12, 2) := by decide +kernel
theorem dX6_readBurn_6 : decode cX6_readBurn 6 = .ok (.if_icmp .lt 11, 3) := by decide +kernel
theorem dX6_readBurn_9 : decode cX6_readBurn 9 = .ok (.aload_n 0, 1) := by decide +kernel
theorem dX6_readBurn_10 : decode cX6_readBurn 10 = .ok (.getfield 12, 3) := by decide +kernel
theorem dX6_readBurn_13 : decode cX6_readBurn 13 = .ok (.iconst 4, 1) := by decide +kernel
theorem dX6_readBurn_14 : decode cX6_readBurn 14 = .ok (.invokevirtual 98, 3) := by decide +kernel
theorem dX6_readBurn_17 : decode cX6_readBurn 17 = .ok (.aload_n 1, 1) := by decide +kernel
theorem dX6_readBurn_18 : decode cX6_readBurn 18 = .ok (.aload_n 0, 1) := by decide +kernel
theorem dX6_readBurn_19 : decode cX6_readBurn 19 = .ok (.getfield 12, 3) := by decide +kernel
theorem dX6_readBurn_22 : decode cX6_readBurn 22 = .ok (.invokevirtual 204, 3) := by decide +kernel
theorem dX6_readBurn_25 : decode cX6_readBurn 25 = .ok (.invokevirtual 208, 3) := by decide +kernel
theorem dX6_readBurn_28 : decode cX6_readBurn 28 = .ok (.istore_n 2, 1) := by decide +kernel
theorem dX6_readBurn_29 : decode cX6_readBurn 29 = .ok (.iload_n 2, 1) := by decide +kernel
theorem dX6_readBurn_30 : decode cX6_readBurn 30 = .ok (.iconst (-1), 1) := by decide +kernel
theorem dX6_readBurn_31 : decode cX6_readBurn 31 = .ok (.if_icmp .ne 11, 3) := by decide +kernel
theorem dX6_readBurn_34 : decode cX6_readBurn 34 = .ok (.aload_n 0, 1) := by decide +kernel
theorem dX6_readBurn_35 : decode cX6_readBurn 35 = .ok (.getfield 12, 3) := by decide +kernel
theorem dX6_readBurn_38 : decode cX6_readBurn 38 = .ok (.iconst 3, 1) := by decide +kernel
theorem dX6_readBurn_39 : decode cX6_readBurn 39 = .ok (.invokevirtual 98, 3) := by decide +kernel
theorem dX6_readBurn_42 : decode cX6_readBurn 42 = .ok (.aload_n 0, 1) := by decide +kernel
theorem dX6_readBurn_43 : decode cX6_readBurn 43 = .ok (.getfield 12, 3) := by decide +kernel
theorem dX6_readBurn_46 : decode cX6_readBurn 46 = .ok (.iconst 1, 1) := by decide +kernel
theorem dX6_readBurn_47 : decode cX6_readBurn 47 = .ok (.aload_n 1, 1) := by decide +kernel
theorem dX6_readBurn_48 : decode cX6_readBurn 48 = .ok (.iload_n 2, 1) := by decide +kernel
theorem dX6_readBurn_49 : decode cX6_readBurn 49 = .ok (.invokevirtual 212, 3) := by decide +kernel
theorem dX6_readBurn_52 : decode cX6_readBurn 52 = .ok (.invokevirtual 146, 3) := by decide +kernel
theorem dX6_readBurn_55 : decode cX6_readBurn 55 = .ok (.istore_n 3, 1) := by decide +kernel
theorem dX6_readBurn_56 : decode cX6_readBurn 56 = .ok (.aload_n 0, 1) := by decide +kernel
theorem dX6_readBurn_57 : decode cX6_readBurn 57 = .ok (.getfield 12, 3) := by decide +kernel
theorem dX6_readBurn_60 : decode cX6_readBurn 60 = .ok (.getfield 140, 3) := by decide +kernel
theorem dX6_readBurn_63 : decode cX6_readBurn 63 = .ok (.ifCond .ne 9, 3) := by decide +kernel
theorem dX6_readBurn_66 : decode cX6_readBurn 66 = .ok (.aload_n 1, 1) := by decide +kernel
theorem dX6_readBurn_67 : decode cX6_readBurn 67 = .ok (.iload_n 2, 1) := by decide +kernel
theorem dX6_readBurn_68 : decode cX6_readBurn 68 = .ok (.iload_n 3, 1) := by decide +kernel
theorem dX6_readBurn_69 : decode cX6_readBurn 69 = .ok (.invokevirtual 216, 3) := by decide +kernel
theorem dX6_readBurn_72 : decode cX6_readBurn 72 = .ok (.return_, 1) := by decide +kernel
theorem dX6_readStop_0 : decode cX6_readStop 0 = .ok (.aload_n 1, 1) := by decide +kernel
theorem dX6_readStop_1 : decode cX6_readStop 1 = .ok (.getfield 201, 3) := by decide +kernel
theorem dX6_readStop_4 : decode cX6_readStop 4 = .ok (.bipush 12, 2) := by decide +kernel
theorem dX6_readStop_6 : decode cX6_readStop 6 = .ok (.if_icmp .ge 11, 3) := by decide +kernel
theorem dX6_readStop_9 : decode cX6_readStop 9 = .ok (.aload_n 1, 1) := by decide +kernel
theorem dX6_readStop_10 : decode cX6_readStop 10 = .ok (.getfield 219, 3) := by decide +kernel
theorem dX6_readStop_13 : decode cX6_readStop 13 = .ok (.iconst 4, 1) := by decide +kernel
theorem dX6_readStop_14 : decode cX6_readStop 14 = .ok (.if_icmp .lt 14, 3) := by decide +kernel
theorem dX6_readStop_17 : decode cX6_readStop 17 = .ok (.aload_n 0, 1) := by decide +kernel
theorem dX6_readStop_18 : decode cX6_readStop 18 = .ok (.getfield 12, 3) := by decide +kernel
theorem dX6_readStop_21 : decode cX6_readStop 21 = .ok (.iconst 4, 1) := by decide +kernel
theorem dX6_readStop_22 : decode cX6_readStop 22 = .ok (.invokevirtual 98, 3) := by decide +kernel
theorem dX6_readStop_25 : decode cX6_readStop 25 = .ok (.goto 7, 3) := by decide +kernel
theorem dX6_readStop_28 : decode cX6_readStop 28 = .ok (.aload_n 1, 1) := by decide +kernel
theorem dX6_readStop_29 : decode cX6_readStop 29 = .ok (.invokevirtual 222, 3) := by decide +kernel
theorem dX6_readStop_32 : decode cX6_readStop 32 = .ok (.return_, 1) := by decide +kernel
theorem dX6_newName_0 : decode cX6_newName 0 = .ok (.aload_n 0, 1) := by decide +kernel
theorem dX6_newName_1 : decode cX6_newName 1 = .ok (.getfield 12, 3) := by decide +kernel
theorem dX6_newName_4 : decode cX6_newName 4 = .ok (.invokevirtual 204, 3) := by decide +kernel
theorem dX6_newName_7 : decode cX6_newName 7 = .ok (.lstore_n 2, 1) := by decide +kernel
theorem dX6_newName_8 : decode cX6_newName 8 = .ok (.aload_n 1, 1) := by decide +kernel
theorem dX6_newName_9 : decode cX6_newName 9 = .ok (.getfield 60, 3) := by decide +kernel
theorem dX6_newName_12 : decode cX6_newName 12 = .ok (.lload_n 2, 1) := by decide +kernel
theorem dX6_newName_13 : decode cX6_newName 13 = .ok (.invokevirtual 225, 3) := by decide +kernel
theorem dX6_newName_16 : decode cX6_newName 16 = .ok (.ifCond .ne 15, 3) := by decide +kernel
theorem dX6_newName_19 : decode cX6_newName 19 = .ok (.aload_n 1, 1) := by decide +kernel
theorem dX6_newName_20 : decode cX6_newName 20 = .ok (.getfield 85, 3) := by decide +kernel
theorem dX6_newName_23 : decode cX6_newName 23 = .ok (.lload_n 2, 1) := by decide +kernel
theorem dX6_newName_24 : decode cX6_newName 24 = .ok (.invokevirtual 208, 3) := by decide +kernel
theorem dX6_newName_27 : decode cX6_newName 27 = .ok (.iconst (-1), 1) := by decide +kernel
theorem dX6_newName_28 : decode cX6_newName 28 = .ok (.if_icmp .eq 11, 3) := by decide +kernel
theorem dX6_newName_31 : decode cX6_newName 31 = .ok (.aload_n 0, 1) := by decide +kernel
theorem dX6_newName_32 : decode cX6_newName 32 = .ok (.getfield 12, 3) := by decide +kernel
theorem dX6_newName_35 : decode cX6_newName 35 = .ok (.iconst 3, 1) := by decide +kernel
theorem dX6_newName_36 : decode cX6_newName 36 = .ok (.invokevirtual 98, 3) := by decide +kernel
theorem dX6_newName_39 : decode cX6_newName 39 = .ok (.lload_n 2, 1) := by decide +kernel
theorem dX6_newName_40 : decode cX6_newName 40 = .ok (.lreturn, 1) := by decide +kernel
theorem dX6_readPallet_0 : decode cX6_readPallet 0 = .ok (.aload_n 1, 1) := by decide +kernel
theorem dX6_readPallet_1 : decode cX6_readPallet 1 = .ok (.getfield 229, 3) := by decide +kernel
theorem dX6_readPallet_4 : decode cX6_readPallet 4 = .ok (.iconst 5, 1) := by decide +kernel
theorem dX6_readPallet_5 : decode cX6_readPallet 5 = .ok (.if_icmp .lt 11, 3) := by decide +kernel
theorem dX6_readPallet_8 : decode cX6_readPallet 8 = .ok (.aload_n 0, 1) := by decide +kernel
theorem dX6_readPallet_9 : decode cX6_readPallet 9 = .ok (.getfield 12, 3) := by decide +kernel
theorem dX6_readPallet_12 : decode cX6_readPallet 12 = .ok (.iconst 4, 1) := by decide +kernel
theorem dX6_readPallet_13 : decode cX6_readPallet 13 = .ok (.invokevirtual 98, 3) := by decide +kernel
theorem dX6_readPallet_16 : decode cX6_readPallet 16 = .ok (.aload_n 0, 1) := by decide +kernel
theorem dX6_readPallet_17 : decode cX6_readPallet 17 = .ok (.getfield 12, 3) := by decide +kernel
theorem dX6_readPallet_20 : decode cX6_readPallet 20 = .ok (.invokevirtual 204, 3) := by decide +kernel
theorem dX6_readPallet_23 : decode cX6_readPallet 23 = .ok (.lstore_n 2, 1) := by decide +kernel
theorem dX6_readPallet_24 : decode cX6_readPallet 24 = .ok (.aload_n 1, 1) := by decide +kernel
theorem dX6_readPallet_25 : decode cX6_readPallet 25 = .ok (.lload_n 2, 1) := by decide +kernel
theorem dX6_readPallet_26 : decode cX6_readPallet 26 = .ok (.invokevirtual 232, 3) := by decide +kernel
theorem dX6_readPallet_29 : decode cX6_readPallet 29 = .ok (.iconst (-1), 1) := by decide +kernel
theorem dX6_readPallet_30 : decode cX6_readPallet 30 = .ok (.if_icmp .eq 11, 3) := by decide +kernel
theorem dX6_readPallet_33 : decode cX6_readPallet 33 = .ok (.aload_n 0, 1) := by decide +kernel
theorem dX6_readPallet_34 : decode cX6_readPallet 34 = .ok (.getfield 12, 3) := by decide +kernel
theorem dX6_readPallet_37 : decode cX6_readPallet 37 = .ok (.iconst 3, 1) := by decide +kernel
theorem dX6_readPallet_38 : decode cX6_readPallet 38 = .ok (.invokevirtual 98, 3) := by decide +kernel
theorem dX6_readPallet_41 : decode cX6_readPallet 41 = .ok (.aload_n 0, 1) := by decide +kernel
theorem dX6_readPallet_42 : decode cX6_readPallet 42 = .ok (.getfield 12, 3) := by decide +kernel
theorem dX6_readPallet_45 : decode cX6_readPallet 45 = .ok (.iconst 1, 1) := by decide +kernel
theorem dX6_readPallet_46 : decode cX6_readPallet 46 = .ok (.bipush 99, 2) := by decide +kernel
theorem dX6_readPallet_48 : decode cX6_readPallet 48 = .ok (.invokevirtual 146, 3) := by decide +kernel
theorem dX6_readPallet_51 : decode cX6_readPallet 51 = .ok (.istore 4, 2) := by decide +kernel
theorem dX6_readPallet_53 : decode cX6_readPallet 53 = .ok (.aload_n 0, 1) := by decide +kernel
theorem dX6_readPallet_54 : decode cX6_readPallet 54 = .ok (.getfield 12, 3) := by decide +kernel
theorem dX6_readPallet_57 : decode cX6_readPallet 57 = .ok (.iconst 1, 1) := by decide +kernel
theorem dX6_readPallet_58 : decode cX6_readPallet 58 = .ok (.bipush 9, 2) := by decide +kernel
theorem dX6_readPallet_60 : decode cX6_readPallet 60 = .ok (.invokevirtual 146, 3) := by decide +kernel
theorem dX6_readPallet_63 : decode cX6_readPallet 63 = .ok (.istore 5, 2) := by decide +kernel
theorem dX6_readPallet_65 : decode cX6_readPallet 65 = .ok (.aload_n 0, 1) := by decide +kernel
theorem dX6_readPallet_66 : decode cX6_readPallet 66 = .ok (.getfield 12, 3) := by decide +kernel
theorem dX6_readPallet_69 : decode cX6_readPallet 69 = .ok (.getfield 140, 3) := by decide +kernel
theorem dX6_readPallet_72 : decode cX6_readPallet 72 = .ok (.ifCond .ne 12, 3) := by decide +kernel
theorem dX6_readPallet_75 : decode cX6_readPallet 75 = .ok (.aload_n 1, 1) := by decide +kernel
theorem dX6_readPallet_76 : decode cX6_readPallet 76 = .ok (.lload_n 2, 1) := by decide +kernel
theorem dX6_readPallet_77 : decode cX6_readPallet 77 = .ok (.iload 4, 2) := by decide +kernel
theorem dX6_readPallet_79 : decode cX6_readPallet 79 = .ok (.iload 5, 2) := by decide +kernel
theorem dX6_readPallet_81 : decode cX6_readPallet 81 = .ok (.invokevirtual 235, 3) := by decide +kernel
theorem dX6_readPallet_84 : decode cX6_readPallet 84 = .ok (.return_, 1) := by decide +kernel
theorem dX6_readBulk_0 : decode cX6_readBulk 0 = .ok (.aload_n 0, 1) := by decide +kernel
theorem dX6_readBulk_1 : decode cX6_readBulk 1 = .ok (.getfield 120, 3) := by decide +kernel
theorem dX6_readBulk_4 : decode cX6_readBulk 4 = .ok (.ifCond .eq 11, 3) := by decide +kernel
theorem dX6_readBulk_7 : decode cX6_readBulk 7 = .ok (.aload_n 0, 1) := by decide +kernel
theorem dX6_readBulk_8 : decode cX6_readBulk 8 = .ok (.getfield 12, 3) := by decide +kernel
theorem dX6_readBulk_11 : decode cX6_readBulk 11 = .ok (.iconst 3, 1) := by decide +kernel
theorem dX6_readBulk_12 : decode cX6_readBulk 12 = .ok (.invokevirtual 98, 3) := by decide +kernel
theorem dX6_readBulk_15 : decode cX6_readBulk 15 = .ok (.aload_n 0, 1) := by decide +kernel
theorem dX6_readBulk_16 : decode cX6_readBulk 16 = .ok (.iconst 1, 1) := by decide +kernel
theorem dX6_readBulk_17 : decode cX6_readBulk 17 = .ok (.putfield 120, 3) := by decide +kernel
theorem dX6_readBulk_20 : decode cX6_readBulk 20 = .ok (.aload_n 1, 1) := by decide +kernel
theorem dX6_readBulk_21 : decode cX6_readBulk 21 = .ok (.aload_n 0, 1) := by decide +kernel
theorem dX6_readBulk_22 : decode cX6_readBulk 22 = .ok (.getfield 12, 3) := by decide +kernel
theorem dX6_readBulk_25 : decode cX6_readBulk 25 = .ok (.iconst 0, 1) := by decide +kernel
theorem dX6_readBulk_26 : decode cX6_readBulk 26 = .ok (.sipush 198, 3) := by decide +kernel
theorem dX6_readBulk_29 : decode cX6_readBulk 29 = .ok (.invokevirtual 146, 3) := by decide +kernel
theorem dX6_readBulk_32 : decode cX6_readBulk 32 = .ok (.putfield 238, 3) := by decide +kernel
theorem dX6_readBulk_35 : decode cX6_readBulk 35 = .ok (.return_, 1) := by decide +kernel
theorem dX7_firstBroken_0 : decode cX7_firstBroken 0 = .ok (.iconst 1, 1) := by decide +kernel
theorem dX7_firstBroken_1 : decode cX7_firstBroken 1 = .ok (.istore_n 2, 1) := by decide +kernel
theorem dX7_firstBroken_2 : decode cX7_firstBroken 2 = .ok (.iload_n 2, 1) := by decide +kernel
theorem dX7_firstBroken_3 : decode cX7_firstBroken 3 = .ok (.bipush 7, 2) := by decide +kernel
theorem dX7_firstBroken_5 : decode cX7_firstBroken 5 = .ok (.if_icmp .gt 21, 3) := by decide +kernel
theorem dX7_firstBroken_8 : decode cX7_firstBroken 8 = .ok (.iload_n 2, 1) := by decide +kernel
theorem dX7_firstBroken_9 : decode cX7_firstBroken 9 = .ok (.aload_n 0, 1) := by decide +kernel
theorem dX7_firstBroken_10 : decode cX7_firstBroken 10 = .ok (.aload_n 1, 1) := by decide +kernel
theorem dX7_firstBroken_11 : decode cX7_firstBroken 11 = .ok (.invokestatic 9, 3) := by decide +kernel
theorem dX7_firstBroken_14 : decode cX7_firstBroken 14 = .ok (.iconst (-1), 1) := by decide +kernel
theorem dX7_firstBroken_15 : decode cX7_firstBroken 15 = .ok (.if_icmp .eq 5, 3) := by decide +kernel
theorem dX7_firstBroken_18 : decode cX7_firstBroken 18 = .ok (.iload_n 2, 1) := by decide +kernel
theorem dX7_firstBroken_19 : decode cX7_firstBroken 19 = .ok (.ireturn, 1) := by decide +kernel
theorem dX7_firstBroken_20 : decode cX7_firstBroken 20 = .ok (.iinc 2 1, 3) := by decide +kernel
theorem dX7_firstBroken_23 : decode cX7_firstBroken 23 = .ok (.goto (-21), 3) := by decide +kernel
theorem dX7_firstBroken_26 : decode cX7_firstBroken 26 = .ok (.iconst 0, 1) := by decide +kernel
theorem dX7_firstBroken_27 : decode cX7_firstBroken 27 = .ok (.ireturn, 1) := by decide +kernel
theorem dX7_brokenAt_0 : decode cX7_brokenAt 0 = .ok (.iload_n 0, 1) := by decide +kernel
theorem dX7_brokenAt_1 : decode cX7_brokenAt 1 = .ok (.tableswitch 107 1 7 #[43, 48, 57, 66, 75, 92, 101], 43) := by decide +kernel
theorem dX7_brokenAt_44 : decode cX7_brokenAt 44 = .ok (.aload_n 2, 1) := by decide +kernel
theorem dX7_brokenAt_45 : decode cX7_brokenAt 45 = .ok (.invokestatic 15, 3) := by decide +kernel
theorem dX7_brokenAt_48 : decode cX7_brokenAt 48 = .ok (.ireturn, 1) := by decide +kernel
theorem dX7_brokenAt_49 : decode cX7_brokenAt 49 = .ok (.aload_n 1, 1) := by decide +kernel
theorem dX7_brokenAt_50 : decode cX7_brokenAt 50 = .ok (.getfield 19, 3) := by decide +kernel
theorem dX7_brokenAt_53 : decode cX7_brokenAt 53 = .ok (.aload_n 2, 1) := by decide +kernel
theorem dX7_brokenAt_54 : decode cX7_brokenAt 54 = .ok (.invokestatic 25, 3) := by decide +kernel
theorem dX7_brokenAt_57 : decode cX7_brokenAt 57 = .ok (.ireturn, 1) := by decide +kernel
theorem dX7_brokenAt_58 : decode cX7_brokenAt 58 = .ok (.aload_n 1, 1) := by decide +kernel
theorem dX7_brokenAt_59 : decode cX7_brokenAt 59 = .ok (.getfield 19, 3) := by decide +kernel
theorem dX7_brokenAt_62 : decode cX7_brokenAt 62 = .ok (.aload_n 2, 1) := by decide +kernel
theorem dX7_brokenAt_63 : decode cX7_brokenAt 63 = .ok (.invokestatic 29, 3) := by decide +kernel
theorem dX7_brokenAt_66 : decode cX7_brokenAt 66 = .ok (.ireturn, 1) := by decide +kernel
theorem dX7_brokenAt_67 : decode cX7_brokenAt 67 = .ok (.aload_n 1, 1) := by decide +kernel
theorem dX7_brokenAt_68 : decode cX7_brokenAt 68 = .ok (.getfield 19, 3) := by decide +kernel
theorem dX7_brokenAt_71 : decode cX7_brokenAt 71 = .ok (.aload_n 2, 1) := by decide +kernel
theorem dX7_brokenAt_72 : decode cX7_brokenAt 72 = .ok (.invokestatic 32, 3) := by decide +kernel
theorem dX7_brokenAt_75 : decode cX7_brokenAt 75 = .ok (.ireturn, 1) := by decide +kernel
theorem dX7_brokenAt_76 : decode cX7_brokenAt 76 = .ok (.aload_n 2, 1) := by decide +kernel
theorem dX7_brokenAt_77 : decode cX7_brokenAt 77 = .ok (.invokevirtual 35, 3) := by decide +kernel
theorem dX7_brokenAt_80 : decode cX7_brokenAt 80 = .ok (.aload_n 2, 1) := by decide +kernel
theorem dX7_brokenAt_81 : decode cX7_brokenAt 81 = .ok (.getfield 41, 3) := by decide +kernel
theorem dX7_brokenAt_84 : decode cX7_brokenAt 84 = .ok (.if_icmp .ne 7, 3) := by decide +kernel
theorem dX7_brokenAt_87 : decode cX7_brokenAt 87 = .ok (.iconst (-1), 1) := by decide +kernel
theorem dX7_brokenAt_88 : decode cX7_brokenAt 88 = .ok (.goto 4, 3) := by decide +kernel
theorem dX7_brokenAt_91 : decode cX7_brokenAt 91 = .ok (.iconst 0, 1) := by decide +kernel
theorem dX7_brokenAt_92 : decode cX7_brokenAt 92 = .ok (.ireturn, 1) := by decide +kernel
theorem dX7_brokenAt_93 : decode cX7_brokenAt 93 = .ok (.aload_n 1, 1) := by decide +kernel
theorem dX7_brokenAt_94 : decode cX7_brokenAt 94 = .ok (.getfield 19, 3) := by decide +kernel
theorem dX7_brokenAt_97 : decode cX7_brokenAt 97 = .ok (.aload_n 2, 1) := by decide +kernel
theorem dX7_brokenAt_98 : decode cX7_brokenAt 98 = .ok (.invokestatic 45, 3) := by decide +kernel
theorem dX7_brokenAt_101 : decode cX7_brokenAt 101 = .ok (.ireturn, 1) := by decide +kernel
theorem dX7_brokenAt_102 : decode cX7_brokenAt 102 = .ok (.aload_n 1, 1) := by decide +kernel
theorem dX7_brokenAt_103 : decode cX7_brokenAt 103 = .ok (.aload_n 2, 1) := by decide +kernel
theorem dX7_brokenAt_104 : decode cX7_brokenAt 104 = .ok (.invokestatic 48, 3) := by decide +kernel
theorem dX7_brokenAt_107 : decode cX7_brokenAt 107 = .ok (.ireturn, 1) := by decide +kernel
theorem dX7_brokenAt_108 : decode cX7_brokenAt 108 = .ok (.iconst (-1), 1) := by decide +kernel
theorem dX7_brokenAt_109 : decode cX7_brokenAt 109 = .ok (.ireturn, 1) := by decide +kernel
theorem dX7_outPallet_0 : decode cX7_outPallet 0 = .ok (.iconst 0, 1) := by decide +kernel
theorem dX7_outPallet_1 : decode cX7_outPallet 1 = .ok (.istore_n 1, 1) := by decide +kernel
theorem dX7_outPallet_2 : decode cX7_outPallet 2 = .ok (.iload_n 1, 1) := by decide +kernel
theorem dX7_outPallet_3 : decode cX7_outPallet 3 = .ok (.aload_n 0, 1) := by decide +kernel
theorem dX7_outPallet_4 : decode cX7_outPallet 4 = .ok (.getfield 52, 3) := by decide +kernel
theorem dX7_outPallet_7 : decode cX7_outPallet 7 = .ok (.if_icmp .ge 21, 3) := by decide +kernel
theorem dX7_outPallet_10 : decode cX7_outPallet 10 = .ok (.aload_n 0, 1) := by decide +kernel
theorem dX7_outPallet_11 : decode cX7_outPallet 11 = .ok (.getfield 55, 3) := by decide +kernel
theorem dX7_outPallet_14 : decode cX7_outPallet 14 = .ok (.iload_n 1, 1) := by decide +kernel
theorem dX7_outPallet_15 : decode cX7_outPallet 15 = .ok (.iaload, 1) := by decide +kernel
theorem dX7_outPallet_16 : decode cX7_outPallet 16 = .ok (.iconst (-1), 1) := by decide +kernel
theorem dX7_outPallet_17 : decode cX7_outPallet 17 = .ok (.if_icmp .ne 5, 3) := by decide +kernel
theorem dX7_outPallet_20 : decode cX7_outPallet 20 = .ok (.iload_n 1, 1) := by decide +kernel
theorem dX7_outPallet_21 : decode cX7_outPallet 21 = .ok (.ireturn, 1) := by decide +kernel
theorem dX7_outPallet_22 : decode cX7_outPallet 22 = .ok (.iinc 1 1, 3) := by decide +kernel
theorem dX7_outPallet_25 : decode cX7_outPallet 25 = .ok (.goto (-23), 3) := by decide +kernel
theorem dX7_outPallet_28 : decode cX7_outPallet 28 = .ok (.iconst (-1), 1) := by decide +kernel
theorem dX7_outPallet_29 : decode cX7_outPallet 29 = .ok (.ireturn, 1) := by decide +kernel
theorem dX7_heavySpot_0 : decode cX7_heavySpot 0 = .ok (.iconst 0, 1) := by decide +kernel
theorem dX7_heavySpot_1 : decode cX7_heavySpot 1 = .ok (.istore_n 2, 1) := by decide +kernel
theorem dX7_heavySpot_2 : decode cX7_heavySpot 2 = .ok (.iload_n 2, 1) := by decide +kernel
theorem dX7_heavySpot_3 : decode cX7_heavySpot 3 = .ok (.aload_n 0, 1) := by decide +kernel
theorem dX7_heavySpot_4 : decode cX7_heavySpot 4 = .ok (.getfield 59, 3) := by decide +kernel
theorem dX7_heavySpot_7 : decode cX7_heavySpot 7 = .ok (.if_icmp .ge 25, 3) := by decide +kernel
theorem dX7_heavySpot_10 : decode cX7_heavySpot 10 = .ok (.aload_n 1, 1) := by decide +kernel
theorem dX7_heavySpot_11 : decode cX7_heavySpot 11 = .ok (.iload_n 2, 1) := by decide +kernel
theorem dX7_heavySpot_12 : decode cX7_heavySpot 12 = .ok (.invokevirtual 64, 3) := by decide +kernel
theorem dX7_heavySpot_15 : decode cX7_heavySpot 15 = .ok (.aload_n 0, 1) := by decide +kernel
theorem dX7_heavySpot_16 : decode cX7_heavySpot 16 = .ok (.getfield 68, 3) := by decide +kernel
theorem dX7_heavySpot_19 : decode cX7_heavySpot 19 = .ok (.iload_n 2, 1) := by decide +kernel
theorem dX7_heavySpot_20 : decode cX7_heavySpot 20 = .ok (.iaload, 1) := by decide +kernel
theorem dX7_heavySpot_21 : decode cX7_heavySpot 21 = .ok (.if_icmp .le 5, 3) := by decide +kernel
theorem dX7_heavySpot_24 : decode cX7_heavySpot 24 = .ok (.iload_n 2, 1) := by decide +kernel
theorem dX7_heavySpot_25 : decode cX7_heavySpot 25 = .ok (.ireturn, 1) := by decide +kernel
theorem dX7_heavySpot_26 : decode cX7_heavySpot 26 = .ok (.iinc 2 1, 3) := by decide +kernel
theorem dX7_heavySpot_29 : decode cX7_heavySpot 29 = .ok (.goto (-27), 3) := by decide +kernel
theorem dX7_heavySpot_32 : decode cX7_heavySpot 32 = .ok (.iconst (-1), 1) := by decide +kernel
theorem dX7_heavySpot_33 : decode cX7_heavySpot 33 = .ok (.ireturn, 1) := by decide +kernel
theorem dX7_heavyJoint_0 : decode cX7_heavyJoint 0 = .ok (.iconst 0, 1) := by decide +kernel
theorem dX7_heavyJoint_1 : decode cX7_heavyJoint 1 = .ok (.istore_n 2, 1) := by decide +kernel
theorem dX7_heavyJoint_2 : decode cX7_heavyJoint 2 = .ok (.iload_n 2, 1) := by decide +kernel
theorem dX7_heavyJoint_3 : decode cX7_heavyJoint 3 = .ok (.aload_n 0, 1) := by decide +kernel
theorem dX7_heavyJoint_4 : decode cX7_heavyJoint 4 = .ok (.getfield 71, 3) := by decide +kernel
theorem dX7_heavyJoint_7 : decode cX7_heavyJoint 7 = .ok (.if_icmp .ge 40, 3) := by decide +kernel
theorem dX7_heavyJoint_10 : decode cX7_heavyJoint 10 = .ok (.aload_n 0, 1) := by decide +kernel
theorem dX7_heavyJoint_11 : decode cX7_heavyJoint 11 = .ok (.getfield 74, 3) := by decide +kernel
theorem dX7_heavyJoint_14 : decode cX7_heavyJoint 14 = .ok (.iload_n 2, 1) := by decide +kernel
theorem dX7_heavyJoint_15 : decode cX7_heavyJoint 15 = .ok (.iaload, 1) := by decide +kernel
theorem dX7_heavyJoint_16 : decode cX7_heavyJoint 16 = .ok (.istore_n 3, 1) := by decide +kernel
theorem dX7_heavyJoint_17 : decode cX7_heavyJoint 17 = .ok (.aload_n 1, 1) := by decide +kernel
theorem dX7_heavyJoint_18 : decode cX7_heavyJoint 18 = .ok (.iload_n 3, 1) := by decide +kernel
theorem dX7_heavyJoint_19 : decode cX7_heavyJoint 19 = .ok (.invokevirtual 64, 3) := by decide +kernel
theorem dX7_heavyJoint_22 : decode cX7_heavyJoint 22 = .ok (.aload_n 1, 1) := by decide +kernel
theorem dX7_heavyJoint_23 : decode cX7_heavyJoint 23 = .ok (.iload_n 3, 1) := by decide +kernel
theorem dX7_heavyJoint_24 : decode cX7_heavyJoint 24 = .ok (.iconst 1, 1) := by decide +kernel
theorem dX7_heavyJoint_25 : decode cX7_heavyJoint 25 = .ok (.isub, 1) := by decide +kernel
theorem dX7_heavyJoint_26 : decode cX7_heavyJoint 26 = .ok (.invokevirtual 64, 3) := by decide +kernel
theorem dX7_heavyJoint_29 : decode cX7_heavyJoint 29 = .ok (.iadd, 1) := by decide +kernel
theorem dX7_heavyJoint_30 : decode cX7_heavyJoint 30 = .ok (.aload_n 0, 1) := by decide +kernel
theorem dX7_heavyJoint_31 : decode cX7_heavyJoint 31 = .ok (.getfield 77, 3) := by decide +kernel
theorem dX7_heavyJoint_34 : decode cX7_heavyJoint 34 = .ok (.iload_n 2, 1) := by decide +kernel
theorem dX7_heavyJoint_35 : decode cX7_heavyJoint 35 = .ok (.iaload, 1) := by decide +kernel
theorem dX7_heavyJoint_36 : decode cX7_heavyJoint 36 = .ok (.if_icmp .le 5, 3) := by decide +kernel
theorem dX7_heavyJoint_39 : decode cX7_heavyJoint 39 = .ok (.iload_n 2, 1) := by decide +kernel
theorem dX7_heavyJoint_40 : decode cX7_heavyJoint 40 = .ok (.ireturn, 1) := by decide +kernel
theorem dX7_heavyJoint_41 : decode cX7_heavyJoint 41 = .ok (.iinc 2 1, 3) := by decide +kernel
theorem dX7_heavyJoint_44 : decode cX7_heavyJoint 44 = .ok (.goto (-42), 3) := by decide +kernel
theorem dX7_heavyJoint_47 : decode cX7_heavyJoint 47 = .ok (.iconst (-1), 1) := by decide +kernel
theorem dX7_heavyJoint_48 : decode cX7_heavyJoint 48 = .ok (.ireturn, 1) := by decide +kernel
theorem dX7_heavyHold_0 : decode cX7_heavyHold 0 = .ok (.iconst 0, 1) := by decide +kernel
theorem dX7_heavyHold_1 : decode cX7_heavyHold 1 = .ok (.istore_n 2, 1) := by decide +kernel
theorem dX7_heavyHold_2 : decode cX7_heavyHold 2 = .ok (.iload_n 2, 1) := by decide +kernel
theorem dX7_heavyHold_3 : decode cX7_heavyHold 3 = .ok (.aload_n 0, 1) := by decide +kernel
theorem dX7_heavyHold_4 : decode cX7_heavyHold 4 = .ok (.getfield 80, 3) := by decide +kernel
theorem dX7_heavyHold_7 : decode cX7_heavyHold 7 = .ok (.if_icmp .ge 26, 3) := by decide +kernel
theorem dX7_heavyHold_10 : decode cX7_heavyHold 10 = .ok (.aload_n 0, 1) := by decide +kernel
theorem dX7_heavyHold_11 : decode cX7_heavyHold 11 = .ok (.aload_n 1, 1) := by decide +kernel
theorem dX7_heavyHold_12 : decode cX7_heavyHold 12 = .ok (.iload_n 2, 1) := by decide +kernel
theorem dX7_heavyHold_13 : decode cX7_heavyHold 13 = .ok (.invokestatic 83, 3) := by decide +kernel
theorem dX7_heavyHold_16 : decode cX7_heavyHold 16 = .ok (.aload_n 0, 1) := by decide +kernel
theorem dX7_heavyHold_17 : decode cX7_heavyHold 17 = .ok (.getfield 87, 3) := by decide +kernel
theorem dX7_heavyHold_20 : decode cX7_heavyHold 20 = .ok (.iload_n 2, 1) := by decide +kernel
theorem dX7_heavyHold_21 : decode cX7_heavyHold 21 = .ok (.iaload, 1) := by decide +kernel
theorem dX7_heavyHold_22 : decode cX7_heavyHold 22 = .ok (.if_icmp .le 5, 3) := by decide +kernel
theorem dX7_heavyHold_25 : decode cX7_heavyHold 25 = .ok (.iload_n 2, 1) := by decide +kernel
theorem dX7_heavyHold_26 : decode cX7_heavyHold 26 = .ok (.ireturn, 1) := by decide +kernel
theorem dX7_heavyHold_27 : decode cX7_heavyHold 27 = .ok (.iinc 2 1, 3) := by decide +kernel
theorem dX7_heavyHold_30 : decode cX7_heavyHold 30 = .ok (.goto (-28), 3) := by decide +kernel
theorem dX7_heavyHold_33 : decode cX7_heavyHold 33 = .ok (.iconst (-1), 1) := by decide +kernel
theorem dX7_heavyHold_34 : decode cX7_heavyHold 34 = .ok (.ireturn, 1) := by decide +kernel
theorem dX7_loadOfHold_0 : decode cX7_loadOfHold 0 = .ok (.iconst 0, 1) := by decide +kernel
theorem dX7_loadOfHold_1 : decode cX7_loadOfHold 1 = .ok (.istore_n 3, 1) := by decide +kernel
theorem dX7_loadOfHold_2 : decode cX7_loadOfHold 2 = .ok (.iconst 0, 1) := by decide +kernel
theorem dX7_loadOfHold_3 : decode cX7_loadOfHold 3 = .ok (.istore 4, 2) := by decide +kernel
theorem dX7_loadOfHold_5 : decode cX7_loadOfHold 5 = .ok (.iload 4, 2) := by decide +kernel
theorem dX7_loadOfHold_7 : decode cX7_loadOfHold 7 = .ok (.aload_n 1, 1) := by decide +kernel
theorem dX7_loadOfHold_8 : decode cX7_loadOfHold 8 = .ok (.getfield 52, 3) := by decide +kernel
theorem dX7_loadOfHold_11 : decode cX7_loadOfHold 11 = .ok (.if_icmp .ge 48, 3) := by decide +kernel
theorem dX7_loadOfHold_14 : decode cX7_loadOfHold 14 = .ok (.aload_n 1, 1) := by decide +kernel
theorem dX7_loadOfHold_15 : decode cX7_loadOfHold 15 = .ok (.getfield 55, 3) := by decide +kernel
theorem dX7_loadOfHold_18 : decode cX7_loadOfHold 18 = .ok (.iload 4, 2) := by decide +kernel
theorem dX7_loadOfHold_20 : decode cX7_loadOfHold 20 = .ok (.iaload, 1) := by decide +kernel
theorem dX7_loadOfHold_21 : decode cX7_loadOfHold 21 = .ok (.istore 5, 2) := by decide +kernel
theorem dX7_loadOfHold_23 : decode cX7_loadOfHold 23 = .ok (.aload_n 0, 1) := by decide +kernel
theorem dX7_loadOfHold_24 : decode cX7_loadOfHold 24 = .ok (.iload 5, 2) := by decide +kernel
theorem dX7_loadOfHold_26 : decode cX7_loadOfHold 26 = .ok (.invokevirtual 90, 3) := by decide +kernel
theorem dX7_loadOfHold_29 : decode cX7_loadOfHold 29 = .ok (.ifCond .eq 24, 3) := by decide +kernel
theorem dX7_loadOfHold_32 : decode cX7_loadOfHold 32 = .ok (.aload_n 0, 1) := by decide +kernel
theorem dX7_loadOfHold_33 : decode cX7_loadOfHold 33 = .ok (.getfield 94, 3) := by decide +kernel
theorem dX7_loadOfHold_36 : decode cX7_loadOfHold 36 = .ok (.iload 5, 2) := by decide +kernel
theorem dX7_loadOfHold_38 : decode cX7_loadOfHold 38 = .ok (.iaload, 1) := by decide +kernel
theorem dX7_loadOfHold_39 : decode cX7_loadOfHold 39 = .ok (.iload_n 2, 1) := by decide +kernel
theorem dX7_loadOfHold_40 : decode cX7_loadOfHold 40 = .ok (.if_icmp .ne 13, 3) := by decide +kernel
theorem dX7_loadOfHold_43 : decode cX7_loadOfHold 43 = .ok (.iload_n 3, 1) := by decide +kernel
theorem dX7_loadOfHold_44 : decode cX7_loadOfHold 44 = .ok (.aload_n 1, 1) := by decide +kernel
theorem dX7_loadOfHold_45 : decode cX7_loadOfHold 45 = .ok (.getfield 97, 3) := by decide +kernel
theorem dX7_loadOfHold_48 : decode cX7_loadOfHold 48 = .ok (.iload 4, 2) := by decide +kernel
theorem dX7_loadOfHold_50 : decode cX7_loadOfHold 50 = .ok (.iaload, 1) := by decide +kernel
theorem dX7_loadOfHold_51 : decode cX7_loadOfHold 51 = .ok (.iadd, 1) := by decide +kernel
theorem dX7_loadOfHold_52 : decode cX7_loadOfHold 52 = .ok (.istore_n 3, 1) := by decide +kernel
theorem dX7_loadOfHold_53 : decode cX7_loadOfHold 53 = .ok (.iinc 4 1, 3) := by decide +kernel
theorem dX7_loadOfHold_56 : decode cX7_loadOfHold 56 = .ok (.goto (-51), 3) := by decide +kernel
theorem dX7_loadOfHold_59 : decode cX7_loadOfHold 59 = .ok (.iload_n 3, 1) := by decide +kernel
theorem dX7_loadOfHold_60 : decode cX7_loadOfHold 60 = .ok (.ireturn, 1) := by decide +kernel
theorem dX7_blockedSpot_0 : decode cX7_blockedSpot 0 = .ok (.iconst 0, 1) := by decide +kernel
theorem dX7_blockedSpot_1 : decode cX7_blockedSpot 1 = .ok (.istore_n 2, 1) := by decide +kernel
theorem dX7_blockedSpot_2 : decode cX7_blockedSpot 2 = .ok (.iload_n 2, 1) := by decide +kernel
theorem dX7_blockedSpot_3 : decode cX7_blockedSpot 3 = .ok (.aload_n 0, 1) := by decide +kernel
theorem dX7_blockedSpot_4 : decode cX7_blockedSpot 4 = .ok (.getfield 59, 3) := by decide +kernel
theorem dX7_blockedSpot_7 : decode cX7_blockedSpot 7 = .ok (.if_icmp .ge 31, 3) := by decide +kernel
theorem dX7_blockedSpot_10 : decode cX7_blockedSpot 10 = .ok (.aload_n 1, 1) := by decide +kernel
theorem dX7_blockedSpot_11 : decode cX7_blockedSpot 11 = .ok (.iload_n 2, 1) := by decide +kernel
theorem dX7_blockedSpot_12 : decode cX7_blockedSpot 12 = .ok (.invokevirtual 100, 3) := by decide +kernel
theorem dX7_blockedSpot_15 : decode cX7_blockedSpot 15 = .ok (.istore_n 3, 1) := by decide +kernel
theorem dX7_blockedSpot_16 : decode cX7_blockedSpot 16 = .ok (.iload_n 3, 1) := by decide +kernel
theorem dX7_blockedSpot_17 : decode cX7_blockedSpot 17 = .ok (.iconst (-1), 1) := by decide +kernel
theorem dX7_blockedSpot_18 : decode cX7_blockedSpot 18 = .ok (.if_icmp .eq 14, 3) := by decide +kernel
theorem dX7_blockedSpot_21 : decode cX7_blockedSpot 21 = .ok (.aload_n 0, 1) := by decide +kernel
theorem dX7_blockedSpot_22 : decode cX7_blockedSpot 22 = .ok (.aload_n 1, 1) := by decide +kernel
theorem dX7_blockedSpot_23 : decode cX7_blockedSpot 23 = .ok (.iload_n 3, 1) := by decide +kernel
theorem dX7_blockedSpot_24 : decode cX7_blockedSpot 24 = .ok (.invokestatic 103, 3) := by decide +kernel
theorem dX7_blockedSpot_27 : decode cX7_blockedSpot 27 = .ok (.ifCond .eq 5, 3) := by decide +kernel
theorem dX7_blockedSpot_30 : decode cX7_blockedSpot 30 = .ok (.iload_n 2, 1) := by decide +kernel
theorem dX7_blockedSpot_31 : decode cX7_blockedSpot 31 = .ok (.ireturn, 1) := by decide +kernel
theorem dX7_blockedSpot_32 : decode cX7_blockedSpot 32 = .ok (.iinc 2 1, 3) := by decide +kernel
theorem dX7_blockedSpot_35 : decode cX7_blockedSpot 35 = .ok (.goto (-33), 3) := by decide +kernel
theorem dX7_blockedSpot_38 : decode cX7_blockedSpot 38 = .ok (.iconst (-1), 1) := by decide +kernel
theorem dX7_blockedSpot_39 : decode cX7_blockedSpot 39 = .ok (.ireturn, 1) := by decide +kernel
theorem dX7_blockersOf_0 : decode cX7_blockersOf 0 = .ok (.iconst 0, 1) := by decide +kernel
theorem dX7_blockersOf_1 : decode cX7_blockersOf 1 = .ok (.istore_n 3, 1) := by decide +kernel
theorem dX7_blockersOf_2 : decode cX7_blockersOf 2 = .ok (.iconst 0, 1) := by decide +kernel
theorem dX7_blockersOf_3 : decode cX7_blockersOf 3 = .ok (.istore 4, 2) := by decide +kernel
theorem dX7_blockersOf_5 : decode cX7_blockersOf 5 = .ok (.iload 4, 2) := by decide +kernel
theorem dX7_blockersOf_7 : decode cX7_blockersOf 7 = .ok (.aload_n 1, 1) := by decide +kernel
theorem dX7_blockersOf_8 : decode cX7_blockersOf 8 = .ok (.getfield 52, 3) := by decide +kernel
theorem dX7_blockersOf_11 : decode cX7_blockersOf 11 = .ok (.if_icmp .ge 72, 3) := by decide +kernel
theorem dX7_blockersOf_14 : decode cX7_blockersOf 14 = .ok (.aload_n 1, 1) := by decide +kernel
theorem dX7_blockersOf_15 : decode cX7_blockersOf 15 = .ok (.iload_n 2, 1) := by decide +kernel
theorem dX7_blockersOf_16 : decode cX7_blockersOf 16 = .ok (.invokevirtual 106, 3) := by decide +kernel
theorem dX7_blockersOf_19 : decode cX7_blockersOf 19 = .ok (.ifCond .eq 64, 3) := by decide +kernel
theorem dX7_blockersOf_22 : decode cX7_blockersOf 22 = .ok (.aload_n 1, 1) := by decide +kernel
theorem dX7_blockersOf_23 : decode cX7_blockersOf 23 = .ok (.getfield 109, 3) := by decide +kernel
theorem dX7_blockersOf_26 : decode cX7_blockersOf 26 = .ok (.iload 4, 2) := by decide +kernel
theorem dX7_blockersOf_28 : decode cX7_blockersOf 28 = .ok (.iaload, 1) := by decide +kernel
theorem dX7_blockersOf_29 : decode cX7_blockersOf 29 = .ok (.aload_n 1, 1) := by decide +kernel
theorem dX7_blockersOf_30 : decode cX7_blockersOf 30 = .ok (.getfield 109, 3) := by decide +kernel
theorem dX7_blockersOf_33 : decode cX7_blockersOf 33 = .ok (.iload_n 2, 1) := by decide +kernel
theorem dX7_blockersOf_34 : decode cX7_blockersOf 34 = .ok (.iaload, 1) := by decide +kernel
theorem dX7_blockersOf_35 : decode cX7_blockersOf 35 = .ok (.if_icmp .le 7, 3) := by decide +kernel
theorem dX7_blockersOf_38 : decode cX7_blockersOf 38 = .ok (.iconst 1, 1) := by decide +kernel
theorem dX7_blockersOf_39 : decode cX7_blockersOf 39 = .ok (.goto 4, 3) := by decide +kernel
theorem dX7_blockersOf_42 : decode cX7_blockersOf 42 = .ok (.iconst 0, 1) := by decide +kernel
theorem dX7_blockersOf_43 : decode cX7_blockersOf 43 = .ok (.istore 5, 2) := by decide +kernel
theorem dX7_blockersOf_45 : decode cX7_blockersOf 45 = .ok (.iload 5, 2) := by decide +kernel
theorem dX7_blockersOf_47 : decode cX7_blockersOf 47 = .ok (.ifCond .eq 30, 3) := by decide +kernel
theorem dX7_blockersOf_50 : decode cX7_blockersOf 50 = .ok (.aload_n 0, 1) := by decide +kernel
theorem dX7_blockersOf_51 : decode cX7_blockersOf 51 = .ok (.aload_n 1, 1) := by decide +kernel
theorem dX7_blockersOf_52 : decode cX7_blockersOf 52 = .ok (.getfield 55, 3) := by decide +kernel
theorem dX7_blockersOf_55 : decode cX7_blockersOf 55 = .ok (.iload 4, 2) := by decide +kernel
theorem dX7_blockersOf_57 : decode cX7_blockersOf 57 = .ok (.iaload, 1) := by decide +kernel
theorem dX7_blockersOf_58 : decode cX7_blockersOf 58 = .ok (.aload_n 1, 1) := by decide +kernel
theorem dX7_blockersOf_59 : decode cX7_blockersOf 59 = .ok (.getfield 55, 3) := by decide +kernel
theorem dX7_blockersOf_62 : decode cX7_blockersOf 62 = .ok (.iload_n 2, 1) := by decide +kernel
theorem dX7_blockersOf_63 : decode cX7_blockersOf 63 = .ok (.iaload, 1) := by decide +kernel
theorem dX7_blockersOf_64 : decode cX7_blockersOf 64 = .ok (.invokevirtual 112, 3) := by decide +kernel
theorem dX7_blockersOf_67 : decode cX7_blockersOf 67 = .ok (.ifCond .eq 10, 3) := by decide +kernel
theorem dX7_blockersOf_70 : decode cX7_blockersOf 70 = .ok (.iload_n 3, 1) := by decide +kernel
theorem dX7_blockersOf_71 : decode cX7_blockersOf 71 = .ok (.iconst 1, 1) := by decide +kernel
theorem dX7_blockersOf_72 : decode cX7_blockersOf 72 = .ok (.iload 4, 2) := by decide +kernel
theorem dX7_blockersOf_74 : decode cX7_blockersOf 74 = .ok (.ishl, 1) := by decide +kernel
theorem dX7_blockersOf_75 : decode cX7_blockersOf 75 = .ok (.ior, 1) := by decide +kernel
theorem dX7_blockersOf_76 : decode cX7_blockersOf 76 = .ok (.istore_n 3, 1) := by decide +kernel
theorem dX7_blockersOf_77 : decode cX7_blockersOf 77 = .ok (.iinc 4 1, 3) := by decide +kernel
theorem dX7_blockersOf_80 : decode cX7_blockersOf 80 = .ok (.goto (-75), 3) := by decide +kernel
theorem dX7_blockersOf_83 : decode cX7_blockersOf 83 = .ok (.iload_n 3, 1) := by decide +kernel
theorem dX7_blockersOf_84 : decode cX7_blockersOf 84 = .ok (.ireturn, 1) := by decide +kernel
theorem dX7_stageOutOfSpan_0 : decode cX7_stageOutOfSpan 0 = .ok (.iconst 0, 1) := by decide +kernel
theorem dX7_stageOutOfSpan_1 : decode cX7_stageOutOfSpan 1 = .ok (.istore_n 2, 1) := by decide +kernel
theorem dX7_stageOutOfSpan_2 : decode cX7_stageOutOfSpan 2 = .ok (.iload_n 2, 1) := by decide +kernel
theorem dX7_stageOutOfSpan_3 : decode cX7_stageOutOfSpan 3 = .ok (.aload_n 0, 1) := by decide +kernel
theorem dX7_stageOutOfSpan_4 : decode cX7_stageOutOfSpan 4 = .ok (.getfield 116, 3) := by decide +kernel
theorem dX7_stageOutOfSpan_7 : decode cX7_stageOutOfSpan 7 = .ok (.getfield 120, 3) := by decide +kernel
theorem dX7_stageOutOfSpan_10 : decode cX7_stageOutOfSpan 10 = .ok (.if_icmp .gt 48, 3) := by decide +kernel
theorem dX7_stageOutOfSpan_13 : decode cX7_stageOutOfSpan 13 = .ok (.aload_n 0, 1) := by decide +kernel
theorem dX7_stageOutOfSpan_14 : decode cX7_stageOutOfSpan 14 = .ok (.aload_n 1, 1) := by decide +kernel
theorem dX7_stageOutOfSpan_15 : decode cX7_stageOutOfSpan 15 = .ok (.iload_n 2, 1) := by decide +kernel
theorem dX7_stageOutOfSpan_16 : decode cX7_stageOutOfSpan 16 = .ok (.invokestatic 125, 3) := by decide +kernel
theorem dX7_stageOutOfSpan_19 : decode cX7_stageOutOfSpan 19 = .ok (.istore_n 3, 1) := by decide +kernel
theorem dX7_stageOutOfSpan_20 : decode cX7_stageOutOfSpan 20 = .ok (.aload_n 0, 1) := by decide +kernel
theorem dX7_stageOutOfSpan_21 : decode cX7_stageOutOfSpan 21 = .ok (.aload_n 1, 1) := by decide +kernel
theorem dX7_stageOutOfSpan_22 : decode cX7_stageOutOfSpan 22 = .ok (.iload_n 2, 1) := by decide +kernel
theorem dX7_stageOutOfSpan_23 : decode cX7_stageOutOfSpan 23 = .ok (.invokestatic 129, 3) := by decide +kernel
theorem dX7_stageOutOfSpan_26 : decode cX7_stageOutOfSpan 26 = .ok (.istore 4, 2) := by decide +kernel
theorem dX7_stageOutOfSpan_28 : decode cX7_stageOutOfSpan 28 = .ok (.iload 4, 2) := by decide +kernel
theorem dX7_stageOutOfSpan_30 : decode cX7_stageOutOfSpan 30 = .ok (.iload_n 3, 1) := by decide +kernel
theorem dX7_stageOutOfSpan_31 : decode cX7_stageOutOfSpan 31 = .ok (.aload_n 0, 1) := by decide +kernel
theorem dX7_stageOutOfSpan_32 : decode cX7_stageOutOfSpan 32 = .ok (.getfield 132, 3) := by decide +kernel
theorem dX7_stageOutOfSpan_35 : decode cX7_stageOutOfSpan 35 = .ok (.imul, 1) := by decide +kernel
theorem dX7_stageOutOfSpan_36 : decode cX7_stageOutOfSpan 36 = .ok (.if_icmp .lt 14, 3) := by decide +kernel
theorem dX7_stageOutOfSpan_39 : decode cX7_stageOutOfSpan 39 = .ok (.iload 4, 2) := by decide +kernel
theorem dX7_stageOutOfSpan_41 : decode cX7_stageOutOfSpan 41 = .ok (.iload_n 3, 1) := by decide +kernel
theorem dX7_stageOutOfSpan_42 : decode cX7_stageOutOfSpan 42 = .ok (.aload_n 0, 1) := by decide +kernel
theorem dX7_stageOutOfSpan_43 : decode cX7_stageOutOfSpan 43 = .ok (.getfield 135, 3) := by decide +kernel
theorem dX7_stageOutOfSpan_46 : decode cX7_stageOutOfSpan 46 = .ok (.imul, 1) := by decide +kernel
theorem dX7_stageOutOfSpan_47 : decode cX7_stageOutOfSpan 47 = .ok (.if_icmp .le 5, 3) := by decide +kernel
theorem dX7_stageOutOfSpan_50 : decode cX7_stageOutOfSpan 50 = .ok (.iload_n 2, 1) := by decide +kernel
theorem dX7_stageOutOfSpan_51 : decode cX7_stageOutOfSpan 51 = .ok (.ireturn, 1) := by decide +kernel
theorem dX7_stageOutOfSpan_52 : decode cX7_stageOutOfSpan 52 = .ok (.iinc 2 1, 3) := by decide +kernel
theorem dX7_stageOutOfSpan_55 : decode cX7_stageOutOfSpan 55 = .ok (.goto (-53), 3) := by decide +kernel
theorem dX7_stageOutOfSpan_58 : decode cX7_stageOutOfSpan 58 = .ok (.iconst (-1), 1) := by decide +kernel
theorem dX7_stageOutOfSpan_59 : decode cX7_stageOutOfSpan 59 = .ok (.ireturn, 1) := by decide +kernel
theorem dX7_weightAt_0 : decode cX7_weightAt 0 = .ok (.aload_n 0, 1) := by decide +kernel
theorem dX7_weightAt_1 : decode cX7_weightAt 1 = .ok (.getfield 116, 3) := by decide +kernel
theorem dX7_weightAt_4 : decode cX7_weightAt 4 = .ok (.getfield 138, 3) := by decide +kernel
theorem dX7_weightAt_7 : decode cX7_weightAt 7 = .ok (.iload_n 2, 1) := by decide +kernel
theorem dX7_weightAt_8 : decode cX7_weightAt 8 = .ok (.iaload, 1) := by decide +kernel
theorem dX7_weightAt_9 : decode cX7_weightAt 9 = .ok (.aload_n 1, 1) := by decide +kernel
theorem dX7_weightAt_10 : decode cX7_weightAt 10 = .ok (.invokevirtual 35, 3) := by decide +kernel
theorem dX7_weightAt_13 : decode cX7_weightAt 13 = .ok (.iadd, 1) := by decide +kernel
theorem dX7_weightAt_14 : decode cX7_weightAt 14 = .ok (.istore_n 3, 1) := by decide +kernel
theorem dX7_weightAt_15 : decode cX7_weightAt 15 = .ok (.iconst 0, 1) := by decide +kernel
theorem dX7_weightAt_16 : decode cX7_weightAt 16 = .ok (.istore 4, 2) := by decide +kernel
theorem dX7_weightAt_18 : decode cX7_weightAt 18 = .ok (.iload 4, 2) := by decide +kernel
theorem dX7_weightAt_20 : decode cX7_weightAt 20 = .ok (.aload_n 1, 1) := by decide +kernel
theorem dX7_weightAt_21 : decode cX7_weightAt 21 = .ok (.getfield 52, 3) := by decide +kernel
theorem dX7_weightAt_24 : decode cX7_weightAt 24 = .ok (.if_icmp .ge 49, 3) := by decide +kernel
theorem dX7_weightAt_27 : decode cX7_weightAt 27 = .ok (.aload_n 1, 1) := by decide +kernel
theorem dX7_weightAt_28 : decode cX7_weightAt 28 = .ok (.getfield 55, 3) := by decide +kernel
theorem dX7_weightAt_31 : decode cX7_weightAt 31 = .ok (.iload 4, 2) := by decide +kernel
theorem dX7_weightAt_33 : decode cX7_weightAt 33 = .ok (.iaload, 1) := by decide +kernel
theorem dX7_weightAt_34 : decode cX7_weightAt 34 = .ok (.iconst (-1), 1) := by decide +kernel
theorem dX7_weightAt_35 : decode cX7_weightAt 35 = .ok (.if_icmp .eq 32, 3) := by decide +kernel
theorem dX7_weightAt_38 : decode cX7_weightAt 38 = .ok (.aload_n 1, 1) := by decide +kernel
theorem dX7_weightAt_39 : decode cX7_weightAt 39 = .ok (.getfield 109, 3) := by decide +kernel
theorem dX7_weightAt_42 : decode cX7_weightAt 42 = .ok (.iload 4, 2) := by decide +kernel
theorem dX7_weightAt_44 : decode cX7_weightAt 44 = .ok (.iaload, 1) := by decide +kernel
theorem dX7_weightAt_45 : decode cX7_weightAt 45 = .ok (.aload_n 0, 1) := by decide +kernel
theorem dX7_weightAt_46 : decode cX7_weightAt 46 = .ok (.getfield 116, 3) := by decide +kernel
theorem dX7_weightAt_49 : decode cX7_weightAt 49 = .ok (.getfield 140, 3) := by decide +kernel
theorem dX7_weightAt_52 : decode cX7_weightAt 52 = .ok (.iload_n 2, 1) := by decide +kernel
theorem dX7_weightAt_53 : decode cX7_weightAt 53 = .ok (.iaload, 1) := by decide +kernel
theorem dX7_weightAt_54 : decode cX7_weightAt 54 = .ok (.if_icmp .le 13, 3) := by decide +kernel
theorem dX7_weightAt_57 : decode cX7_weightAt 57 = .ok (.iload_n 3, 1) := by decide +kernel
theorem dX7_weightAt_58 : decode cX7_weightAt 58 = .ok (.aload_n 1, 1) := by decide +kernel
theorem dX7_weightAt_59 : decode cX7_weightAt 59 = .ok (.getfield 97, 3) := by decide +kernel
theorem dX7_weightAt_62 : decode cX7_weightAt 62 = .ok (.iload 4, 2) := by decide +kernel
theorem dX7_weightAt_64 : decode cX7_weightAt 64 = .ok (.iaload, 1) := by decide +kernel
theorem dX7_weightAt_65 : decode cX7_weightAt 65 = .ok (.iadd, 1) := by decide +kernel
theorem dX7_weightAt_66 : decode cX7_weightAt 66 = .ok (.istore_n 3, 1) := by decide +kernel
theorem dX7_weightAt_67 : decode cX7_weightAt 67 = .ok (.iinc 4 1, 3) := by decide +kernel
theorem dX7_weightAt_70 : decode cX7_weightAt 70 = .ok (.goto (-52), 3) := by decide +kernel
theorem dX7_weightAt_73 : decode cX7_weightAt 73 = .ok (.iload_n 3, 1) := by decide +kernel
theorem dX7_weightAt_74 : decode cX7_weightAt 74 = .ok (.ireturn, 1) := by decide +kernel
theorem dX7_momentAt_0 : decode cX7_momentAt 0 = .ok (.aload_n 0, 1) := by decide +kernel
theorem dX7_momentAt_1 : decode cX7_momentAt 1 = .ok (.getfield 116, 3) := by decide +kernel
theorem dX7_momentAt_4 : decode cX7_momentAt 4 = .ok (.getfield 143, 3) := by decide +kernel
theorem dX7_momentAt_7 : decode cX7_momentAt 7 = .ok (.iload_n 2, 1) := by decide +kernel
theorem dX7_momentAt_8 : decode cX7_momentAt 8 = .ok (.iaload, 1) := by decide +kernel
theorem dX7_momentAt_9 : decode cX7_momentAt 9 = .ok (.istore_n 3, 1) := by decide +kernel
theorem dX7_momentAt_10 : decode cX7_momentAt 10 = .ok (.iconst 0, 1) := by decide +kernel
theorem dX7_momentAt_11 : decode cX7_momentAt 11 = .ok (.istore 4, 2) := by decide +kernel
theorem dX7_momentAt_13 : decode cX7_momentAt 13 = .ok (.iload 4, 2) := by decide +kernel
theorem dX7_momentAt_15 : decode cX7_momentAt 15 = .ok (.aload_n 0, 1) := by decide +kernel
theorem dX7_momentAt_16 : decode cX7_momentAt 16 = .ok (.getfield 145, 3) := by decide +kernel
theorem dX7_momentAt_19 : decode cX7_momentAt 19 = .ok (.if_icmp .ge 27, 3) := by decide +kernel
theorem dX7_momentAt_22 : decode cX7_momentAt 22 = .ok (.iload_n 3, 1) := by decide +kernel
theorem dX7_momentAt_23 : decode cX7_momentAt 23 = .ok (.aload_n 1, 1) := by decide +kernel
theorem dX7_momentAt_24 : decode cX7_momentAt 24 = .ok (.getfield 148, 3) := by decide +kernel
theorem dX7_momentAt_27 : decode cX7_momentAt 27 = .ok (.iload 4, 2) := by decide +kernel
theorem dX7_momentAt_29 : decode cX7_momentAt 29 = .ok (.iaload, 1) := by decide +kernel
theorem dX7_momentAt_30 : decode cX7_momentAt 30 = .ok (.aload_n 0, 1) := by decide +kernel
theorem dX7_momentAt_31 : decode cX7_momentAt 31 = .ok (.getfield 151, 3) := by decide +kernel
theorem dX7_momentAt_34 : decode cX7_momentAt 34 = .ok (.iload 4, 2) := by decide +kernel
theorem dX7_momentAt_36 : decode cX7_momentAt 36 = .ok (.iaload, 1) := by decide +kernel
theorem dX7_momentAt_37 : decode cX7_momentAt 37 = .ok (.imul, 1) := by decide +kernel
theorem dX7_momentAt_38 : decode cX7_momentAt 38 = .ok (.iadd, 1) := by decide +kernel
theorem dX7_momentAt_39 : decode cX7_momentAt 39 = .ok (.istore_n 3, 1) := by decide +kernel
theorem dX7_momentAt_40 : decode cX7_momentAt 40 = .ok (.iinc 4 1, 3) := by decide +kernel
theorem dX7_momentAt_43 : decode cX7_momentAt 43 = .ok (.goto (-30), 3) := by decide +kernel
theorem dX7_momentAt_46 : decode cX7_momentAt 46 = .ok (.iconst 0, 1) := by decide +kernel
theorem dX7_momentAt_47 : decode cX7_momentAt 47 = .ok (.istore 4, 2) := by decide +kernel
theorem dX7_momentAt_49 : decode cX7_momentAt 49 = .ok (.iload 4, 2) := by decide +kernel
theorem dX7_momentAt_51 : decode cX7_momentAt 51 = .ok (.aload_n 1, 1) := by decide +kernel
theorem dX7_momentAt_52 : decode cX7_momentAt 52 = .ok (.getfield 52, 3) := by decide +kernel
theorem dX7_momentAt_55 : decode cX7_momentAt 55 = .ok (.if_icmp .ge 70, 3) := by decide +kernel
theorem dX7_momentAt_58 : decode cX7_momentAt 58 = .ok (.aload_n 1, 1) := by decide +kernel
theorem dX7_momentAt_59 : decode cX7_momentAt 59 = .ok (.getfield 55, 3) := by decide +kernel
theorem dX7_momentAt_62 : decode cX7_momentAt 62 = .ok (.iload 4, 2) := by decide +kernel
theorem dX7_momentAt_64 : decode cX7_momentAt 64 = .ok (.iaload, 1) := by decide +kernel
theorem dX7_momentAt_65 : decode cX7_momentAt 65 = .ok (.istore 5, 2) := by decide +kernel
theorem dX7_momentAt_67 : decode cX7_momentAt 67 = .ok (.aload_n 0, 1) := by decide +kernel
theorem dX7_momentAt_68 : decode cX7_momentAt 68 = .ok (.getfield 19, 3) := by decide +kernel
theorem dX7_momentAt_71 : decode cX7_momentAt 71 = .ok (.iload 5, 2) := by decide +kernel
theorem dX7_momentAt_73 : decode cX7_momentAt 73 = .ok (.invokevirtual 90, 3) := by decide +kernel
theorem dX7_momentAt_76 : decode cX7_momentAt 76 = .ok (.ifCond .eq 43, 3) := by decide +kernel
theorem dX7_momentAt_79 : decode cX7_momentAt 79 = .ok (.aload_n 1, 1) := by decide +kernel
theorem dX7_momentAt_80 : decode cX7_momentAt 80 = .ok (.getfield 109, 3) := by decide +kernel
theorem dX7_momentAt_83 : decode cX7_momentAt 83 = .ok (.iload 4, 2) := by decide +kernel
theorem dX7_momentAt_85 : decode cX7_momentAt 85 = .ok (.iaload, 1) := by decide +kernel
theorem dX7_momentAt_86 : decode cX7_momentAt 86 = .ok (.aload_n 0, 1) := by decide +kernel
theorem dX7_momentAt_87 : decode cX7_momentAt 87 = .ok (.getfield 116, 3) := by decide +kernel
theorem dX7_momentAt_90 : decode cX7_momentAt 90 = .ok (.getfield 140, 3) := by decide +kernel
theorem dX7_momentAt_93 : decode cX7_momentAt 93 = .ok (.iload_n 2, 1) := by decide +kernel
theorem dX7_momentAt_94 : decode cX7_momentAt 94 = .ok (.iaload, 1) := by decide +kernel
theorem dX7_momentAt_95 : decode cX7_momentAt 95 = .ok (.if_icmp .le 24, 3) := by decide +kernel
theorem dX7_momentAt_98 : decode cX7_momentAt 98 = .ok (.iload_n 3, 1) := by decide +kernel
theorem dX7_momentAt_99 : decode cX7_momentAt 99 = .ok (.aload_n 1, 1) := by decide +kernel
theorem dX7_momentAt_100 : decode cX7_momentAt 100 = .ok (.getfield 97, 3) := by decide +kernel
theorem dX7_momentAt_103 : decode cX7_momentAt 103 = .ok (.iload 4, 2) := by decide +kernel
theorem dX7_momentAt_105 : decode cX7_momentAt 105 = .ok (.iaload, 1) := by decide +kernel
theorem dX7_momentAt_106 : decode cX7_momentAt 106 = .ok (.aload_n 0, 1) := by decide +kernel
theorem dX7_momentAt_107 : decode cX7_momentAt 107 = .ok (.getfield 19, 3) := by decide +kernel
theorem dX7_momentAt_110 : decode cX7_momentAt 110 = .ok (.getfield 154, 3) := by decide +kernel
theorem dX7_momentAt_113 : decode cX7_momentAt 113 = .ok (.iload 5, 2) := by decide +kernel
theorem dX7_momentAt_115 : decode cX7_momentAt 115 = .ok (.iaload, 1) := by decide +kernel
theorem dX7_momentAt_116 : decode cX7_momentAt 116 = .ok (.imul, 1) := by decide +kernel
theorem dX7_momentAt_117 : decode cX7_momentAt 117 = .ok (.iadd, 1) := by decide +kernel
theorem dX7_momentAt_118 : decode cX7_momentAt 118 = .ok (.istore_n 3, 1) := by decide +kernel
theorem dX7_momentAt_119 : decode cX7_momentAt 119 = .ok (.iinc 4 1, 3) := by decide +kernel
theorem dX7_momentAt_122 : decode cX7_momentAt 122 = .ok (.goto (-73), 3) := by decide +kernel
theorem dX7_momentAt_125 : decode cX7_momentAt 125 = .ok (.iload_n 3, 1) := by decide +kernel
theorem dX7_momentAt_126 : decode cX7_momentAt 126 = .ok (.ireturn, 1) := by decide +kernel
theorem dX7_timesThroughDoors_0 : decode cX7_timesThroughDoors 0 = .ok (.iconst 0, 1) := by decide +kernel
theorem dX7_timesThroughDoors_1 : decode cX7_timesThroughDoors 1 = .ok (.istore 4, 2) := by decide +kernel
theorem dX7_timesThroughDoors_3 : decode cX7_timesThroughDoors 3 = .ok (.iconst 0, 1) := by decide +kernel
theorem dX7_timesThroughDoors_4 : decode cX7_timesThroughDoors 4 = .ok (.istore 5, 2) := by decide +kernel
theorem dX7_timesThroughDoors_6 : decode cX7_timesThroughDoors 6 = .ok (.iload 5, 2) := by decide +kernel
theorem dX7_timesThroughDoors_8 : decode cX7_timesThroughDoors 8 = .ok (.aload_n 1, 1) := by decide +kernel
theorem dX7_timesThroughDoors_9 : decode cX7_timesThroughDoors 9 = .ok (.getfield 52, 3) := by decide +kernel
theorem dX7_timesThroughDoors_12 : decode cX7_timesThroughDoors 12 = .ok (.if_icmp .ge 35, 3) := by decide +kernel
theorem dX7_timesThroughDoors_15 : decode cX7_timesThroughDoors 15 = .ok (.aload_n 1, 1) := by decide +kernel
theorem dX7_timesThroughDoors_16 : decode cX7_timesThroughDoors 16 = .ok (.getfield 55, 3) := by decide +kernel
theorem dX7_timesThroughDoors_19 : decode cX7_timesThroughDoors 19 = .ok (.iload 5, 2) := by decide +kernel
theorem dX7_timesThroughDoors_21 : decode cX7_timesThroughDoors 21 = .ok (.iaload, 1) := by decide +kernel
theorem dX7_timesThroughDoors_22 : decode cX7_timesThroughDoors 22 = .ok (.aload_n 2, 1) := by decide +kernel
theorem dX7_timesThroughDoors_23 : decode cX7_timesThroughDoors 23 = .ok (.iload_n 3, 1) := by decide +kernel
theorem dX7_timesThroughDoors_24 : decode cX7_timesThroughDoors 24 = .ok (.iload 5, 2) := by decide +kernel
theorem dX7_timesThroughDoors_26 : decode cX7_timesThroughDoors 26 = .ok (.invokevirtual 157, 3) := by decide +kernel
theorem dX7_timesThroughDoors_29 : decode cX7_timesThroughDoors 29 = .ok (.if_icmp .eq 12, 3) := by decide +kernel
theorem dX7_timesThroughDoors_32 : decode cX7_timesThroughDoors 32 = .ok (.iload 4, 2) := by decide +kernel
theorem dX7_timesThroughDoors_34 : decode cX7_timesThroughDoors 34 = .ok (.iconst 1, 1) := by decide +kernel
theorem dX7_timesThroughDoors_35 : decode cX7_timesThroughDoors 35 = .ok (.iload 5, 2) := by decide +kernel
theorem dX7_timesThroughDoors_37 : decode cX7_timesThroughDoors 37 = .ok (.ishl, 1) := by decide +kernel
theorem dX7_timesThroughDoors_38 : decode cX7_timesThroughDoors 38 = .ok (.ior, 1) := by decide +kernel
theorem dX7_timesThroughDoors_39 : decode cX7_timesThroughDoors 39 = .ok (.istore 4, 2) := by decide +kernel
theorem dX7_timesThroughDoors_41 : decode cX7_timesThroughDoors 41 = .ok (.iinc 5 1, 3) := by decide +kernel
theorem dX7_timesThroughDoors_44 : decode cX7_timesThroughDoors 44 = .ok (.goto (-38), 3) := by decide +kernel
theorem dX7_timesThroughDoors_47 : decode cX7_timesThroughDoors 47 = .ok (.iconst 0, 1) := by decide +kernel
theorem dX7_timesThroughDoors_48 : decode cX7_timesThroughDoors 48 = .ok (.istore 5, 2) := by decide +kernel
theorem dX7_timesThroughDoors_50 : decode cX7_timesThroughDoors 50 = .ok (.iload 5, 2) := by decide +kernel
theorem dX7_timesThroughDoors_52 : decode cX7_timesThroughDoors 52 = .ok (.aload_n 1, 1) := by decide +kernel
theorem dX7_timesThroughDoors_53 : decode cX7_timesThroughDoors 53 = .ok (.getfield 52, 3) := by decide +kernel
theorem dX7_timesThroughDoors_56 : decode cX7_timesThroughDoors 56 = .ok (.if_icmp .ge 23, 3) := by decide +kernel
theorem dX7_timesThroughDoors_59 : decode cX7_timesThroughDoors 59 = .ok (.iload 4, 2) := by decide +kernel
theorem dX7_timesThroughDoors_61 : decode cX7_timesThroughDoors 61 = .ok (.aload_n 0, 1) := by decide +kernel
theorem dX7_timesThroughDoors_62 : decode cX7_timesThroughDoors 62 = .ok (.aload_n 1, 1) := by decide +kernel
theorem dX7_timesThroughDoors_63 : decode cX7_timesThroughDoors 63 = .ok (.aload_n 2, 1) := by decide +kernel
theorem dX7_timesThroughDoors_64 : decode cX7_timesThroughDoors 64 = .ok (.iload_n 3, 1) := by decide +kernel
theorem dX7_timesThroughDoors_65 : decode cX7_timesThroughDoors 65 = .ok (.iload 4, 2) := by decide +kernel
theorem dX7_timesThroughDoors_67 : decode cX7_timesThroughDoors 67 = .ok (.invokestatic 163, 3) := by decide +kernel
theorem dX7_timesThroughDoors_70 : decode cX7_timesThroughDoors 70 = .ok (.ior, 1) := by decide +kernel
theorem dX7_timesThroughDoors_71 : decode cX7_timesThroughDoors 71 = .ok (.istore 4, 2) := by decide +kernel
theorem dX7_timesThroughDoors_73 : decode cX7_timesThroughDoors 73 = .ok (.iinc 5 1, 3) := by decide +kernel
theorem dX7_timesThroughDoors_76 : decode cX7_timesThroughDoors 76 = .ok (.goto (-26), 3) := by decide +kernel
theorem dX7_timesThroughDoors_79 : decode cX7_timesThroughDoors 79 = .ok (.iconst 0, 1) := by decide +kernel
theorem dX7_timesThroughDoors_80 : decode cX7_timesThroughDoors 80 = .ok (.istore 5, 2) := by decide +kernel
theorem dX7_timesThroughDoors_82 : decode cX7_timesThroughDoors 82 = .ok (.iconst 0, 1) := by decide +kernel
theorem dX7_timesThroughDoors_83 : decode cX7_timesThroughDoors 83 = .ok (.istore 6, 2) := by decide +kernel
theorem dX7_timesThroughDoors_85 : decode cX7_timesThroughDoors 85 = .ok (.iload 6, 2) := by decide +kernel
theorem dX7_timesThroughDoors_87 : decode cX7_timesThroughDoors 87 = .ok (.aload_n 1, 1) := by decide +kernel
theorem dX7_timesThroughDoors_88 : decode cX7_timesThroughDoors 88 = .ok (.getfield 52, 3) := by decide +kernel
theorem dX7_timesThroughDoors_91 : decode cX7_timesThroughDoors 91 = .ok (.if_icmp .ge 41, 3) := by decide +kernel
theorem dX7_timesThroughDoors_94 : decode cX7_timesThroughDoors 94 = .ok (.iload 4, 2) := by decide +kernel
theorem dX7_timesThroughDoors_96 : decode cX7_timesThroughDoors 96 = .ok (.iload 6, 2) := by decide +kernel
theorem dX7_timesThroughDoors_98 : decode cX7_timesThroughDoors 98 = .ok (.ishr, 1) := by decide +kernel
theorem dX7_timesThroughDoors_99 : decode cX7_timesThroughDoors 99 = .ok (.iconst 1, 1) := by decide +kernel
theorem dX7_timesThroughDoors_100 : decode cX7_timesThroughDoors 100 = .ok (.iand, 1) := by decide +kernel
theorem dX7_timesThroughDoors_101 : decode cX7_timesThroughDoors 101 = .ok (.iconst 1, 1) := by decide +kernel
theorem dX7_timesThroughDoors_102 : decode cX7_timesThroughDoors 102 = .ok (.if_icmp .ne 24, 3) := by decide +kernel
theorem dX7_timesThroughDoors_105 : decode cX7_timesThroughDoors 105 = .ok (.iload 5, 2) := by decide +kernel
theorem dX7_timesThroughDoors_107 : decode cX7_timesThroughDoors 107 = .ok (.aload_n 1, 1) := by decide +kernel
theorem dX7_timesThroughDoors_108 : decode cX7_timesThroughDoors 108 = .ok (.getfield 55, 3) := by decide +kernel
theorem dX7_timesThroughDoors_111 : decode cX7_timesThroughDoors 111 = .ok (.iload 6, 2) := by decide +kernel
theorem dX7_timesThroughDoors_113 : decode cX7_timesThroughDoors 113 = .ok (.iaload, 1) := by decide +kernel
theorem dX7_timesThroughDoors_114 : decode cX7_timesThroughDoors 114 = .ok (.iconst (-1), 1) := by decide +kernel
theorem dX7_timesThroughDoors_115 : decode cX7_timesThroughDoors 115 = .ok (.if_icmp .ne 7, 3) := by decide +kernel
theorem dX7_timesThroughDoors_118 : decode cX7_timesThroughDoors 118 = .ok (.iconst 1, 1) := by decide +kernel
theorem dX7_timesThroughDoors_119 : decode cX7_timesThroughDoors 119 = .ok (.goto 4, 3) := by decide +kernel
theorem dX7_timesThroughDoors_122 : decode cX7_timesThroughDoors 122 = .ok (.iconst 2, 1) := by decide +kernel
theorem dX7_timesThroughDoors_123 : decode cX7_timesThroughDoors 123 = .ok (.iadd, 1) := by decide +kernel
theorem dX7_timesThroughDoors_124 : decode cX7_timesThroughDoors 124 = .ok (.istore 5, 2) := by decide +kernel
theorem dX7_timesThroughDoors_126 : decode cX7_timesThroughDoors 126 = .ok (.iinc 6 1, 3) := by decide +kernel
theorem dX7_timesThroughDoors_129 : decode cX7_timesThroughDoors 129 = .ok (.goto (-44), 3) := by decide +kernel
theorem dX7_timesThroughDoors_132 : decode cX7_timesThroughDoors 132 = .ok (.iload 5, 2) := by decide +kernel
theorem dX7_timesThroughDoors_134 : decode cX7_timesThroughDoors 134 = .ok (.ireturn, 1) := by decide +kernel
theorem dX7_standInWay_0 : decode cX7_standInWay 0 = .ok (.iconst 0, 1) := by decide +kernel
theorem dX7_standInWay_1 : decode cX7_standInWay 1 = .ok (.istore 5, 2) := by decide +kernel
theorem dX7_standInWay_3 : decode cX7_standInWay 3 = .ok (.iconst 0, 1) := by decide +kernel
theorem dX7_standInWay_4 : decode cX7_standInWay 4 = .ok (.istore 6, 2) := by decide +kernel
theorem dX7_standInWay_6 : decode cX7_standInWay 6 = .ok (.iload 6, 2) := by decide +kernel
theorem dX7_standInWay_8 : decode cX7_standInWay 8 = .ok (.aload_n 1, 1) := by decide +kernel
theorem dX7_standInWay_9 : decode cX7_standInWay 9 = .ok (.getfield 52, 3) := by decide +kernel
theorem dX7_standInWay_12 : decode cX7_standInWay 12 = .ok (.if_icmp .ge 89, 3) := by decide +kernel
theorem dX7_standInWay_15 : decode cX7_standInWay 15 = .ok (.iload 4, 2) := by decide +kernel
theorem dX7_standInWay_17 : decode cX7_standInWay 17 = .ok (.iload 6, 2) := by decide +kernel
theorem dX7_standInWay_19 : decode cX7_standInWay 19 = .ok (.ishr, 1) := by decide +kernel
theorem dX7_standInWay_20 : decode cX7_standInWay 20 = .ok (.iconst 1, 1) := by decide +kernel
theorem dX7_standInWay_21 : decode cX7_standInWay 21 = .ok (.iand, 1) := by decide +kernel
theorem dX7_standInWay_22 : decode cX7_standInWay 22 = .ok (.iconst 1, 1) := by decide +kernel
theorem dX7_standInWay_23 : decode cX7_standInWay 23 = .ok (.if_icmp .ne 72, 3) := by decide +kernel
theorem dX7_standInWay_26 : decode cX7_standInWay 26 = .ok (.aload_n 2, 1) := by decide +kernel
theorem dX7_standInWay_27 : decode cX7_standInWay 27 = .ok (.iload_n 3, 1) := by decide +kernel
theorem dX7_standInWay_28 : decode cX7_standInWay 28 = .ok (.iload 6, 2) := by decide +kernel
theorem dX7_standInWay_30 : decode cX7_standInWay 30 = .ok (.invokevirtual 157, 3) := by decide +kernel
theorem dX7_standInWay_33 : decode cX7_standInWay 33 = .ok (.istore 7, 2) := by decide +kernel
theorem dX7_standInWay_35 : decode cX7_standInWay 35 = .ok (.iload 5, 2) := by decide +kernel
theorem dX7_standInWay_37 : decode cX7_standInWay 37 = .ok (.aload_n 0, 1) := by decide +kernel
theorem dX7_standInWay_38 : decode cX7_standInWay 38 = .ok (.aload_n 1, 1) := by decide +kernel
theorem dX7_standInWay_39 : decode cX7_standInWay 39 = .ok (.getfield 55, 3) := by decide +kernel
theorem dX7_standInWay_42 : decode cX7_standInWay 42 = .ok (.iload 6, 2) := by decide +kernel
theorem dX7_standInWay_44 : decode cX7_standInWay 44 = .ok (.iaload, 1) := by decide +kernel
theorem dX7_standInWay_45 : decode cX7_standInWay 45 = .ok (.invokevirtual 90, 3) := by decide +kernel
theorem dX7_standInWay_48 : decode cX7_standInWay 48 = .ok (.ifCond .eq 18, 3) := by decide +kernel
theorem dX7_standInWay_51 : decode cX7_standInWay 51 = .ok (.aload_n 0, 1) := by decide +kernel
theorem dX7_standInWay_52 : decode cX7_standInWay 52 = .ok (.getfield 167, 3) := by decide +kernel
theorem dX7_standInWay_55 : decode cX7_standInWay 55 = .ok (.aload_n 1, 1) := by decide +kernel
theorem dX7_standInWay_56 : decode cX7_standInWay 56 = .ok (.getfield 55, 3) := by decide +kernel
theorem dX7_standInWay_59 : decode cX7_standInWay 59 = .ok (.iload 6, 2) := by decide +kernel
theorem dX7_standInWay_61 : decode cX7_standInWay 61 = .ok (.iaload, 1) := by decide +kernel
theorem dX7_standInWay_62 : decode cX7_standInWay 62 = .ok (.iaload, 1) := by decide +kernel
theorem dX7_standInWay_63 : decode cX7_standInWay 63 = .ok (.goto 4, 3) := by decide +kernel
theorem dX7_standInWay_66 : decode cX7_standInWay 66 = .ok (.iconst 0, 1) := by decide +kernel
theorem dX7_standInWay_67 : decode cX7_standInWay 67 = .ok (.ior, 1) := by decide +kernel
theorem dX7_standInWay_68 : decode cX7_standInWay 68 = .ok (.istore 5, 2) := by decide +kernel
theorem dX7_standInWay_70 : decode cX7_standInWay 70 = .ok (.iload 5, 2) := by decide +kernel
theorem dX7_standInWay_72 : decode cX7_standInWay 72 = .ok (.aload_n 0, 1) := by decide +kernel
theorem dX7_standInWay_73 : decode cX7_standInWay 73 = .ok (.iload 7, 2) := by decide +kernel
theorem dX7_standInWay_75 : decode cX7_standInWay 75 = .ok (.invokevirtual 90, 3) := by decide +kernel
theorem dX7_standInWay_78 : decode cX7_standInWay 78 = .ok (.ifCond .eq 13, 3) := by decide +kernel
theorem dX7_standInWay_81 : decode cX7_standInWay 81 = .ok (.aload_n 0, 1) := by decide +kernel
theorem dX7_standInWay_82 : decode cX7_standInWay 82 = .ok (.getfield 167, 3) := by decide +kernel
theorem dX7_standInWay_85 : decode cX7_standInWay 85 = .ok (.iload 7, 2) := by decide +kernel
theorem dX7_standInWay_87 : decode cX7_standInWay 87 = .ok (.iaload, 1) := by decide +kernel
theorem dX7_standInWay_88 : decode cX7_standInWay 88 = .ok (.goto 4, 3) := by decide +kernel
theorem dX7_standInWay_91 : decode cX7_standInWay 91 = .ok (.iconst 0, 1) := by decide +kernel
theorem dX7_standInWay_92 : decode cX7_standInWay 92 = .ok (.ior, 1) := by decide +kernel
theorem dX7_standInWay_93 : decode cX7_standInWay 93 = .ok (.istore 5, 2) := by decide +kernel
theorem dX7_standInWay_95 : decode cX7_standInWay 95 = .ok (.iinc 6 1, 3) := by decide +kernel
theorem dX7_standInWay_98 : decode cX7_standInWay 98 = .ok (.goto (-92), 3) := by decide +kernel
theorem dX7_standInWay_101 : decode cX7_standInWay 101 = .ok (.iconst 0, 1) := by decide +kernel
theorem dX7_standInWay_102 : decode cX7_standInWay 102 = .ok (.istore 6, 2) := by decide +kernel
theorem dX7_standInWay_104 : decode cX7_standInWay 104 = .ok (.iconst 0, 1) := by decide +kernel
theorem dX7_standInWay_105 : decode cX7_standInWay 105 = .ok (.istore 7, 2) := by decide +kernel
theorem dX7_standInWay_107 : decode cX7_standInWay 107 = .ok (.iload 7, 2) := by decide +kernel
theorem dX7_standInWay_109 : decode cX7_standInWay 109 = .ok (.aload_n 1, 1) := by decide +kernel
theorem dX7_standInWay_110 : decode cX7_standInWay 110 = .ok (.getfield 52, 3) := by decide +kernel
theorem dX7_standInWay_113 : decode cX7_standInWay 113 = .ok (.if_icmp .ge 48, 3) := by decide +kernel
theorem dX7_standInWay_116 : decode cX7_standInWay 116 = .ok (.aload_n 0, 1) := by decide +kernel
theorem dX7_standInWay_117 : decode cX7_standInWay 117 = .ok (.aload_n 1, 1) := by decide +kernel
theorem dX7_standInWay_118 : decode cX7_standInWay 118 = .ok (.getfield 55, 3) := by decide +kernel
theorem dX7_standInWay_121 : decode cX7_standInWay 121 = .ok (.iload 7, 2) := by decide +kernel
theorem dX7_standInWay_123 : decode cX7_standInWay 123 = .ok (.iaload, 1) := by decide +kernel
theorem dX7_standInWay_124 : decode cX7_standInWay 124 = .ok (.invokevirtual 90, 3) := by decide +kernel
theorem dX7_standInWay_127 : decode cX7_standInWay 127 = .ok (.ifCond .eq 28, 3) := by decide +kernel
theorem dX7_standInWay_130 : decode cX7_standInWay 130 = .ok (.iload 5, 2) := by decide +kernel
theorem dX7_standInWay_132 : decode cX7_standInWay 132 = .ok (.aload_n 1, 1) := by decide +kernel
theorem dX7_standInWay_133 : decode cX7_standInWay 133 = .ok (.getfield 55, 3) := by decide +kernel
theorem dX7_standInWay_136 : decode cX7_standInWay 136 = .ok (.iload 7, 2) := by decide +kernel
theorem dX7_standInWay_138 : decode cX7_standInWay 138 = .ok (.iaload, 1) := by decide +kernel
theorem dX7_standInWay_139 : decode cX7_standInWay 139 = .ok (.ishr, 1) := by decide +kernel
theorem dX7_standInWay_140 : decode cX7_standInWay 140 = .ok (.iconst 1, 1) := by decide +kernel
theorem dX7_standInWay_141 : decode cX7_standInWay 141 = .ok (.iand, 1) := by decide +kernel
theorem dX7_standInWay_142 : decode cX7_standInWay 142 = .ok (.iconst 1, 1) := by decide +kernel
theorem dX7_standInWay_143 : decode cX7_standInWay 143 = .ok (.if_icmp .ne 12, 3) := by decide +kernel
theorem dX7_standInWay_146 : decode cX7_standInWay 146 = .ok (.iload 6, 2) := by decide +kernel
theorem dX7_standInWay_148 : decode cX7_standInWay 148 = .ok (.iconst 1, 1) := by decide +kernel
theorem dX7_standInWay_149 : decode cX7_standInWay 149 = .ok (.iload 7, 2) := by decide +kernel
theorem dX7_standInWay_151 : decode cX7_standInWay 151 = .ok (.ishl, 1) := by decide +kernel
theorem dX7_standInWay_152 : decode cX7_standInWay 152 = .ok (.ior, 1) := by decide +kernel
theorem dX7_standInWay_153 : decode cX7_standInWay 153 = .ok (.istore 6, 2) := by decide +kernel
theorem dX7_standInWay_155 : decode cX7_standInWay 155 = .ok (.iinc 7 1, 3) := by decide +kernel
theorem dX7_standInWay_158 : decode cX7_standInWay 158 = .ok (.goto (-51), 3) := by decide +kernel
theorem dX7_standInWay_161 : decode cX7_standInWay 161 = .ok (.iload 6, 2) := by decide +kernel
theorem dX7_standInWay_163 : decode cX7_standInWay 163 = .ok (.ireturn, 1) := by decide +kernel
theorem dX8_init_0 : decode cX8_init 0 = .ok (.aload_n 0, 1) := by decide +kernel
theorem dX8_init_1 : decode cX8_init 1 = .ok (.invokespecial 3, 3) := by decide +kernel
theorem dX8_init_4 : decode cX8_init 4 = .ok (.aload_n 0, 1) := by decide +kernel
theorem dX8_init_5 : decode cX8_init 5 = .ok (.sipush 720, 3) := by decide +kernel
theorem dX8_init_8 : decode cX8_init 8 = .ok (.newarray .int, 2) := by decide +kernel
theorem dX8_init_10 : decode cX8_init 10 = .ok (.putfield 11, 3) := by decide +kernel
theorem dX8_init_13 : decode cX8_init 13 = .ok (.aload_n 0, 1) := by decide +kernel
theorem dX8_init_14 : decode cX8_init 14 = .ok (.sipush 720, 3) := by decide +kernel
theorem dX8_init_17 : decode cX8_init 17 = .ok (.newarray .int, 2) := by decide +kernel
theorem dX8_init_19 : decode cX8_init 19 = .ok (.putfield 15, 3) := by decide +kernel
theorem dX8_init_22 : decode cX8_init 22 = .ok (.aload_n 0, 1) := by decide +kernel
theorem dX8_init_23 : decode cX8_init 23 = .ok (.sipush 720, 3) := by decide +kernel
theorem dX8_init_26 : decode cX8_init 26 = .ok (.newarray .int, 2) := by decide +kernel
theorem dX8_init_28 : decode cX8_init 28 = .ok (.putfield 18, 3) := by decide +kernel
theorem dX8_init_31 : decode cX8_init 31 = .ok (.aload_n 0, 1) := by decide +kernel
theorem dX8_init_32 : decode cX8_init 32 = .ok (.iconst 5, 1) := by decide +kernel
theorem dX8_init_33 : decode cX8_init 33 = .ok (.newarray .int, 2) := by decide +kernel
theorem dX8_init_35 : decode cX8_init 35 = .ok (.putfield 21, 3) := by decide +kernel
theorem dX8_init_38 : decode cX8_init 38 = .ok (.aload_n 0, 1) := by decide +kernel
theorem dX8_init_39 : decode cX8_init 39 = .ok (.iconst 5, 1) := by decide +kernel
theorem dX8_init_40 : decode cX8_init 40 = .ok (.newarray .int, 2) := by decide +kernel
theorem dX8_init_42 : decode cX8_init 42 = .ok (.putfield 24, 3) := by decide +kernel
theorem dX8_init_45 : decode cX8_init 45 = .ok (.aload_n 0, 1) := by decide +kernel
theorem dX8_init_46 : decode cX8_init 46 = .ok (.iconst 5, 1) := by decide +kernel
theorem dX8_init_47 : decode cX8_init 47 = .ok (.newarray .int, 2) := by decide +kernel
theorem dX8_init_49 : decode cX8_init 49 = .ok (.putfield 27, 3) := by decide +kernel
theorem dX8_init_52 : decode cX8_init 52 = .ok (.aload_n 0, 1) := by decide +kernel
theorem dX8_init_53 : decode cX8_init 53 = .ok (.bipush 6, 2) := by decide +kernel
theorem dX8_init_55 : decode cX8_init 55 = .ok (.newarray .int, 2) := by decide +kernel
theorem dX8_init_57 : decode cX8_init 57 = .ok (.putfield 30, 3) := by decide +kernel
theorem dX8_init_60 : decode cX8_init 60 = .ok (.aload_n 0, 1) := by decide +kernel
theorem dX8_init_61 : decode cX8_init 61 = .ok (.iconst 3, 1) := by decide +kernel
theorem dX8_init_62 : decode cX8_init 62 = .ok (.newarray .int, 2) := by decide +kernel
theorem dX8_init_64 : decode cX8_init 64 = .ok (.putfield 33, 3) := by decide +kernel
theorem dX8_init_67 : decode cX8_init 67 = .ok (.aload_n 0, 1) := by decide +kernel
theorem dX8_init_68 : decode cX8_init 68 = .ok (.bipush 10, 2) := by decide +kernel
theorem dX8_init_70 : decode cX8_init 70 = .ok (.newarray .int, 2) := by decide +kernel
theorem dX8_init_72 : decode cX8_init 72 = .ok (.putfield 36, 3) := by decide +kernel
theorem dX8_init_75 : decode cX8_init 75 = .ok (.return_, 1) := by decide +kernel
theorem dX8_forget_0 : decode cX8_forget 0 = .ok (.aload_n 0, 1) := by decide +kernel
theorem dX8_forget_1 : decode cX8_forget 1 = .ok (.iconst 0, 1) := by decide +kernel
theorem dX8_forget_2 : decode cX8_forget 2 = .ok (.putfield 39, 3) := by decide +kernel
theorem dX8_forget_5 : decode cX8_forget 5 = .ok (.return_, 1) := by decide +kernel
theorem dX8_makeFor_0 : decode cX8_makeFor 0 = .ok (.aload_n 0, 1) := by decide +kernel
theorem dX8_makeFor_1 : decode cX8_makeFor 1 = .ok (.getfield 39, 3) := by decide +kernel
theorem dX8_makeFor_4 : decode cX8_makeFor 4 = .ok (.ifCond .eq 4, 3) := by decide +kernel
theorem dX8_makeFor_7 : decode cX8_makeFor 7 = .ok (.return_, 1) := by decide +kernel
theorem dX8_makeFor_8 : decode cX8_makeFor 8 = .ok (.aload_n 0, 1) := by decide +kernel
theorem dX8_makeFor_9 : decode cX8_makeFor 9 = .ok (.iconst 1, 1) := by decide +kernel
theorem dX8_makeFor_10 : decode cX8_makeFor 10 = .ok (.putfield 39, 3) := by decide +kernel
theorem dX8_makeFor_13 : decode cX8_makeFor 13 = .ok (.aload_n 0, 1) := by decide +kernel
theorem dX8_makeFor_14 : decode cX8_makeFor 14 = .ok (.iconst 0, 1) := by decide +kernel
theorem dX8_makeFor_15 : decode cX8_makeFor 15 = .ok (.putfield 43, 3) := by decide +kernel
theorem dX8_makeFor_18 : decode cX8_makeFor 18 = .ok (.aload_n 0, 1) := by decide +kernel
theorem dX8_makeFor_19 : decode cX8_makeFor 19 = .ok (.aload_n 1, 1) := by decide +kernel
theorem dX8_makeFor_20 : decode cX8_makeFor 20 = .ok (.putfield 47, 3) := by decide +kernel
theorem dX8_makeFor_23 : decode cX8_makeFor 23 = .ok (.aload_n 0, 1) := by decide +kernel
theorem dX8_makeFor_24 : decode cX8_makeFor 24 = .ok (.aload_n 2, 1) := by decide +kernel
theorem dX8_makeFor_25 : decode cX8_makeFor 25 = .ok (.putfield 51, 3) := by decide +kernel
theorem dX8_makeFor_28 : decode cX8_makeFor 28 = .ok (.aload_n 0, 1) := by decide +kernel
theorem dX8_makeFor_29 : decode cX8_makeFor 29 = .ok (.iconst 0, 1) := by decide +kernel
theorem dX8_makeFor_30 : decode cX8_makeFor 30 = .ok (.aload_n 0, 1) := by decide +kernel
theorem dX8_makeFor_31 : decode cX8_makeFor 31 = .ok (.getfield 51, 3) := by decide +kernel
theorem dX8_makeFor_34 : decode cX8_makeFor 34 = .ok (.getfield 55, 3) := by decide +kernel
theorem dX8_makeFor_37 : decode cX8_makeFor 37 = .ok (.aload_n 0, 1) := by decide +kernel
theorem dX8_makeFor_38 : decode cX8_makeFor 38 = .ok (.getfield 47, 3) := by decide +kernel
theorem dX8_makeFor_41 : decode cX8_makeFor 41 = .ok (.getfield 60, 3) := by decide +kernel
theorem dX8_makeFor_44 : decode cX8_makeFor 44 = .ok (.iconst 1, 1) := by decide +kernel
theorem dX8_makeFor_45 : decode cX8_makeFor 45 = .ok (.iaload, 1) := by decide +kernel
theorem dX8_makeFor_46 : decode cX8_makeFor 46 = .ok (.isub, 1) := by decide +kernel
theorem dX8_makeFor_47 : decode cX8_makeFor 47 = .ok (.invokestatic 65, 3) := by decide +kernel
theorem dX8_makeFor_50 : decode cX8_makeFor 50 = .ok (.putfield 71, 3) := by decide +kernel
theorem dX8_makeFor_53 : decode cX8_makeFor 53 = .ok (.aload_n 0, 1) := by decide +kernel
theorem dX8_makeFor_54 : decode cX8_makeFor 54 = .ok (.aload_n 0, 1) := by decide +kernel
theorem dX8_makeFor_55 : decode cX8_makeFor 55 = .ok (.getfield 51, 3) := by decide +kernel
theorem dX8_makeFor_58 : decode cX8_makeFor 58 = .ok (.getfield 55, 3) := by decide +kernel
theorem dX8_makeFor_61 : decode cX8_makeFor 61 = .ok (.aload_n 0, 1) := by decide +kernel
theorem dX8_makeFor_62 : decode cX8_makeFor 62 = .ok (.getfield 47, 3) := by decide +kernel
theorem dX8_makeFor_65 : decode cX8_makeFor 65 = .ok (.getfield 60, 3) := by decide +kernel
theorem dX8_makeFor_68 : decode cX8_makeFor 68 = .ok (.iconst 0, 1) := by decide +kernel
theorem dX8_makeFor_69 : decode cX8_makeFor 69 = .ok (.iaload, 1) := by decide +kernel
theorem dX8_makeFor_70 : decode cX8_makeFor 70 = .ok (.invokestatic 74, 3) := by decide +kernel
theorem dX8_makeFor_73 : decode cX8_makeFor 73 = .ok (.putfield 77, 3) := by decide +kernel
theorem dX8_makeFor_76 : decode cX8_makeFor 76 = .ok (.aload_n 0, 1) := by decide +kernel
theorem dX8_makeFor_77 : decode cX8_makeFor 77 = .ok (.getfield 71, 3) := by decide +kernel
theorem dX8_makeFor_80 : decode cX8_makeFor 80 = .ok (.aload_n 0, 1) := by decide +kernel
theorem dX8_makeFor_81 : decode cX8_makeFor 81 = .ok (.getfield 77, 3) := by decide +kernel
theorem dX8_makeFor_84 : decode cX8_makeFor 84 = .ok (.if_icmp .gt 23, 3) := by decide +kernel
theorem dX8_makeFor_87 : decode cX8_makeFor 87 = .ok (.aload_n 0, 1) := by decide +kernel
theorem dX8_makeFor_88 : decode cX8_makeFor 88 = .ok (.getfield 51, 3) := by decide +kernel
theorem dX8_makeFor_91 : decode cX8_makeFor 91 = .ok (.getfield 80, 3) := by decide +kernel
theorem dX8_makeFor_94 : decode cX8_makeFor 94 = .ok (.aload_n 0, 1) := by decide +kernel
theorem dX8_makeFor_95 : decode cX8_makeFor 95 = .ok (.getfield 47, 3) := by decide +kernel
theorem dX8_makeFor_98 : decode cX8_makeFor 98 = .ok (.getfield 83, 3) := by decide +kernel
theorem dX8_makeFor_101 : decode cX8_makeFor 101 = .ok (.getfield 87, 3) := by decide +kernel
theorem dX8_makeFor_104 : decode cX8_makeFor 104 = .ok (.if_icmp .le 4, 3) := by decide +kernel
theorem dX8_makeFor_107 : decode cX8_makeFor 107 = .ok (.return_, 1) := by decide +kernel
theorem dX8_makeFor_108 : decode cX8_makeFor 108 = .ok (.aload_n 0, 1) := by decide +kernel
theorem dX8_makeFor_109 : decode cX8_makeFor 109 = .ok (.invokevirtual 92, 3) := by decide +kernel
theorem dX8_makeFor_112 : decode cX8_makeFor 112 = .ok (.aload_n 0, 1) := by decide +kernel
theorem dX8_makeFor_113 : decode cX8_makeFor 113 = .ok (.iconst 0, 1) := by decide +kernel
theorem dX8_makeFor_114 : decode cX8_makeFor 114 = .ok (.invokestatic 95, 3) := by decide +kernel
theorem dX8_makeFor_117 : decode cX8_makeFor 117 = .ok (.return_, 1) := by decide +kernel
theorem dX8_total_0 : decode cX8_total 0 = .ok (.aload_n 0, 1) := by decide +kernel
theorem dX8_total_1 : decode cX8_total 1 = .ok (.aload_n 0, 1) := by decide +kernel
theorem dX8_total_2 : decode cX8_total 2 = .ok (.getfield 43, 3) := by decide +kernel
theorem dX8_total_5 : decode cX8_total 5 = .ok (.iconst 1, 1) := by decide +kernel
theorem dX8_total_6 : decode cX8_total 6 = .ok (.isub, 1) := by decide +kernel
theorem dX8_total_7 : decode cX8_total 7 = .ok (.invokevirtual 99, 3) := by decide +kernel
theorem dX8_total_10 : decode cX8_total 10 = .ok (.ireturn, 1) := by decide +kernel
theorem dX8_rowOf_0 : decode cX8_rowOf 0 = .ok (.iconst 0, 1) := by decide +kernel
theorem dX8_rowOf_1 : decode cX8_rowOf 1 = .ok (.istore_n 2, 1) := by decide +kernel
theorem dX8_rowOf_2 : decode cX8_rowOf 2 = .ok (.iload_n 2, 1) := by decide +kernel
theorem dX8_rowOf_3 : decode cX8_rowOf 3 = .ok (.aload_n 0, 1) := by decide +kernel
theorem dX8_rowOf_4 : decode cX8_rowOf 4 = .ok (.getfield 43, 3) := by decide +kernel
theorem dX8_rowOf_7 : decode cX8_rowOf 7 = .ok (.if_icmp .ge 25, 3) := by decide +kernel
theorem dX8_rowOf_10 : decode cX8_rowOf 10 = .ok (.iload_n 1, 1) := by decide +kernel
theorem dX8_rowOf_11 : decode cX8_rowOf 11 = .ok (.ifCond .lt 21, 3) := by decide +kernel
theorem dX8_rowOf_14 : decode cX8_rowOf 14 = .ok (.iload_n 1, 1) := by decide +kernel
theorem dX8_rowOf_15 : decode cX8_rowOf 15 = .ok (.aload_n 0, 1) := by decide +kernel
theorem dX8_rowOf_16 : decode cX8_rowOf 16 = .ok (.getfield 18, 3) := by decide +kernel
theorem dX8_rowOf_19 : decode cX8_rowOf 19 = .ok (.iload_n 2, 1) := by decide +kernel
theorem dX8_rowOf_20 : decode cX8_rowOf 20 = .ok (.iaload, 1) := by decide +kernel
theorem dX8_rowOf_21 : decode cX8_rowOf 21 = .ok (.if_icmp .ge 5, 3) := by decide +kernel
theorem dX8_rowOf_24 : decode cX8_rowOf 24 = .ok (.iload_n 2, 1) := by decide +kernel
theorem dX8_rowOf_25 : decode cX8_rowOf 25 = .ok (.ireturn, 1) := by decide +kernel
theorem dX8_rowOf_26 : decode cX8_rowOf 26 = .ok (.iinc 2 1, 3) := by decide +kernel
theorem dX8_rowOf_29 : decode cX8_rowOf 29 = .ok (.goto (-27), 3) := by decide +kernel
theorem dX8_rowOf_32 : decode cX8_rowOf 32 = .ok (.iconst (-1), 1) := by decide +kernel
theorem dX8_rowOf_33 : decode cX8_rowOf 33 = .ok (.ireturn, 1) := by decide +kernel
theorem dX8_spotIn_0 : decode cX8_spotIn 0 = .ok (.iload_n 1, 1) := by decide +kernel
theorem dX8_spotIn_1 : decode cX8_spotIn 1 = .ok (.ifCond .lt 24, 3) := by decide +kernel
theorem dX8_spotIn_4 : decode cX8_spotIn 4 = .ok (.iload_n 1, 1) := by decide +kernel
theorem dX8_spotIn_5 : decode cX8_spotIn 5 = .ok (.aload_n 0, 1) := by decide +kernel
theorem dX8_spotIn_6 : decode cX8_spotIn 6 = .ok (.getfield 43, 3) := by decide +kernel
theorem dX8_spotIn_9 : decode cX8_spotIn 9 = .ok (.if_icmp .ge 16, 3) := by decide +kernel
theorem dX8_spotIn_12 : decode cX8_spotIn 12 = .ok (.iload_n 2, 1) := by decide +kernel
theorem dX8_spotIn_13 : decode cX8_spotIn 13 = .ok (.ifCond .lt 12, 3) := by decide +kernel
theorem dX8_spotIn_16 : decode cX8_spotIn 16 = .ok (.iload_n 2, 1) := by decide +kernel
theorem dX8_spotIn_17 : decode cX8_spotIn 17 = .ok (.iconst 5, 1) := by decide +kernel
theorem dX8_spotIn_18 : decode cX8_spotIn 18 = .ok (.if_icmp .ge 7, 3) := by decide +kernel
theorem dX8_spotIn_21 : decode cX8_spotIn 21 = .ok (.iconst 1, 1) := by decide +kernel
theorem dX8_spotIn_22 : decode cX8_spotIn 22 = .ok (.goto 4, 3) := by decide +kernel
theorem dX8_spotIn_25 : decode cX8_spotIn 25 = .ok (.iconst 0, 1) := by decide +kernel
theorem dX8_spotIn_26 : decode cX8_spotIn 26 = .ok (.istore_n 3, 1) := by decide +kernel
theorem dX8_spotIn_27 : decode cX8_spotIn 27 = .ok (.iload_n 3, 1) := by decide +kernel
theorem dX8_spotIn_28 : decode cX8_spotIn 28 = .ok (.ifCond .eq 19, 3) := by decide +kernel
theorem dX8_spotIn_31 : decode cX8_spotIn 31 = .ok (.aload_n 0, 1) := by decide +kernel
theorem dX8_spotIn_32 : decode cX8_spotIn 32 = .ok (.getfield 11, 3) := by decide +kernel
theorem dX8_spotIn_35 : decode cX8_spotIn 35 = .ok (.iload_n 1, 1) := by decide +kernel
theorem dX8_spotIn_36 : decode cX8_spotIn 36 = .ok (.iaload, 1) := by decide +kernel
theorem dX8_spotIn_37 : decode cX8_spotIn 37 = .ok (.iconst 3, 1) := by decide +kernel
theorem dX8_spotIn_38 : decode cX8_spotIn 38 = .ok (.iload_n 2, 1) := by decide +kernel
theorem dX8_spotIn_39 : decode cX8_spotIn 39 = .ok (.imul, 1) := by decide +kernel
theorem dX8_spotIn_40 : decode cX8_spotIn 40 = .ok (.ishr, 1) := by decide +kernel
theorem dX8_spotIn_41 : decode cX8_spotIn 41 = .ok (.bipush 7, 2) := by decide +kernel
theorem dX8_spotIn_43 : decode cX8_spotIn 43 = .ok (.iand, 1) := by decide +kernel
theorem dX8_spotIn_44 : decode cX8_spotIn 44 = .ok (.goto 4, 3) := by decide +kernel
theorem dX8_spotIn_47 : decode cX8_spotIn 47 = .ok (.iconst (-1), 1) := by decide +kernel
theorem dX8_spotIn_48 : decode cX8_spotIn 48 = .ok (.ireturn, 1) := by decide +kernel
theorem dX8_amountIn_0 : decode cX8_amountIn 0 = .ok (.iload_n 2, 1) := by decide +kernel
theorem dX8_amountIn_1 : decode cX8_amountIn 1 = .ok (.ifCond .lt 11, 3) := by decide +kernel
theorem dX8_amountIn_4 : decode cX8_amountIn 4 = .ok (.iload_n 2, 1) := by decide +kernel
theorem dX8_amountIn_5 : decode cX8_amountIn 5 = .ok (.aload_n 0, 1) := by decide +kernel
theorem dX8_amountIn_6 : decode cX8_amountIn 6 = .ok (.getfield 43, 3) := by decide +kernel
theorem dX8_amountIn_9 : decode cX8_amountIn 9 = .ok (.if_icmp .lt 5, 3) := by decide +kernel
theorem dX8_amountIn_12 : decode cX8_amountIn 12 = .ok (.iconst (-1), 1) := by decide +kernel
theorem dX8_amountIn_13 : decode cX8_amountIn 13 = .ok (.ireturn, 1) := by decide +kernel
theorem dX8_amountIn_14 : decode cX8_amountIn 14 = .ok (.aload_n 0, 1) := by decide +kernel
theorem dX8_amountIn_15 : decode cX8_amountIn 15 = .ok (.getfield 15, 3) := by decide +kernel
theorem dX8_amountIn_18 : decode cX8_amountIn 18 = .ok (.iload_n 2, 1) := by decide +kernel
theorem dX8_amountIn_19 : decode cX8_amountIn 19 = .ok (.iaload, 1) := by decide +kernel
theorem dX8_amountIn_20 : decode cX8_amountIn 20 = .ok (.iload_n 1, 1) := by decide +kernel
theorem dX8_amountIn_21 : decode cX8_amountIn 21 = .ok (.iadd, 1) := by decide +kernel
theorem dX8_amountIn_22 : decode cX8_amountIn 22 = .ok (.aload_n 0, 1) := by decide +kernel
theorem dX8_amountIn_23 : decode cX8_amountIn 23 = .ok (.iload_n 2, 1) := by decide +kernel
theorem dX8_amountIn_24 : decode cX8_amountIn 24 = .ok (.iconst 1, 1) := by decide +kernel
theorem dX8_amountIn_25 : decode cX8_amountIn 25 = .ok (.isub, 1) := by decide +kernel
theorem dX8_amountIn_26 : decode cX8_amountIn 26 = .ok (.invokevirtual 99, 3) := by decide +kernel
theorem dX8_amountIn_29 : decode cX8_amountIn 29 = .ok (.isub, 1) := by decide +kernel
theorem dX8_amountIn_30 : decode cX8_amountIn 30 = .ok (.istore 4, 2) := by decide +kernel
theorem dX8_amountIn_32 : decode cX8_amountIn 32 = .ok (.iload_n 3, 1) := by decide +kernel
theorem dX8_amountIn_33 : decode cX8_amountIn 33 = .ok (.ifCond .ne 8, 3) := by decide +kernel
theorem dX8_amountIn_36 : decode cX8_amountIn 36 = .ok (.iload 4, 2) := by decide +kernel
theorem dX8_amountIn_38 : decode cX8_amountIn 38 = .ok (.goto 13, 3) := by decide +kernel
theorem dX8_amountIn_41 : decode cX8_amountIn 41 = .ok (.aload_n 0, 1) := by decide +kernel
theorem dX8_amountIn_42 : decode cX8_amountIn 42 = .ok (.getfield 51, 3) := by decide +kernel
theorem dX8_amountIn_45 : decode cX8_amountIn 45 = .ok (.getfield 55, 3) := by decide +kernel
theorem dX8_amountIn_48 : decode cX8_amountIn 48 = .ok (.iload 4, 2) := by decide +kernel
theorem dX8_amountIn_50 : decode cX8_amountIn 50 = .ok (.isub, 1) := by decide +kernel
theorem dX8_amountIn_51 : decode cX8_amountIn 51 = .ok (.ireturn, 1) := by decide +kernel
theorem dX8_takesAmount_0 : decode cX8_takesAmount 0 = .ok (.iload_n 1, 1) := by decide +kernel
theorem dX8_takesAmount_1 : decode cX8_takesAmount 1 = .ok (.ifCond .lt 11, 3) := by decide +kernel
theorem dX8_takesAmount_4 : decode cX8_takesAmount 4 = .ok (.iload_n 1, 1) := by decide +kernel
theorem dX8_takesAmount_5 : decode cX8_takesAmount 5 = .ok (.aload_n 0, 1) := by decide +kernel
theorem dX8_takesAmount_6 : decode cX8_takesAmount 6 = .ok (.getfield 43, 3) := by decide +kernel
theorem dX8_takesAmount_9 : decode cX8_takesAmount 9 = .ok (.if_icmp .lt 5, 3) := by decide +kernel
theorem dX8_takesAmount_12 : decode cX8_takesAmount 12 = .ok (.iconst 0, 1) := by decide +kernel
theorem dX8_takesAmount_13 : decode cX8_takesAmount 13 = .ok (.ireturn, 1) := by decide +kernel
theorem dX8_takesAmount_14 : decode cX8_takesAmount 14 = .ok (.aload_n 0, 1) := by decide +kernel
theorem dX8_takesAmount_15 : decode cX8_takesAmount 15 = .ok (.iload_n 1, 1) := by decide +kernel
theorem dX8_takesAmount_16 : decode cX8_takesAmount 16 = .ok (.invokevirtual 99, 3) := by decide +kernel
theorem dX8_takesAmount_19 : decode cX8_takesAmount 19 = .ok (.aload_n 0, 1) := by decide +kernel
theorem dX8_takesAmount_20 : decode cX8_takesAmount 20 = .ok (.iload_n 1, 1) := by decide +kernel
theorem dX8_takesAmount_21 : decode cX8_takesAmount 21 = .ok (.iconst 1, 1) := by decide +kernel
theorem dX8_takesAmount_22 : decode cX8_takesAmount 22 = .ok (.isub, 1) := by decide +kernel
theorem dX8_takesAmount_23 : decode cX8_takesAmount 23 = .ok (.invokevirtual 99, 3) := by decide +kernel
theorem dX8_takesAmount_26 : decode cX8_takesAmount 26 = .ok (.isub, 1) := by decide +kernel
theorem dX8_takesAmount_27 : decode cX8_takesAmount 27 = .ok (.istore_n 3, 1) := by decide +kernel
theorem dX8_takesAmount_28 : decode cX8_takesAmount 28 = .ok (.iload_n 2, 1) := by decide +kernel
theorem dX8_takesAmount_29 : decode cX8_takesAmount 29 = .ok (.aload_n 0, 1) := by decide +kernel
theorem dX8_takesAmount_30 : decode cX8_takesAmount 30 = .ok (.getfield 15, 3) := by decide +kernel
theorem dX8_takesAmount_33 : decode cX8_takesAmount 33 = .ok (.iload_n 1, 1) := by decide +kernel
theorem dX8_takesAmount_34 : decode cX8_takesAmount 34 = .ok (.iaload, 1) := by decide +kernel
theorem dX8_takesAmount_35 : decode cX8_takesAmount 35 = .ok (.if_icmp .lt 19, 3) := by decide +kernel
theorem dX8_takesAmount_38 : decode cX8_takesAmount 38 = .ok (.iload_n 2, 1) := by decide +kernel
theorem dX8_takesAmount_39 : decode cX8_takesAmount 39 = .ok (.aload_n 0, 1) := by decide +kernel
theorem dX8_takesAmount_40 : decode cX8_takesAmount 40 = .ok (.getfield 15, 3) := by decide +kernel
theorem dX8_takesAmount_43 : decode cX8_takesAmount 43 = .ok (.iload_n 1, 1) := by decide +kernel
theorem dX8_takesAmount_44 : decode cX8_takesAmount 44 = .ok (.iaload, 1) := by decide +kernel
theorem dX8_takesAmount_45 : decode cX8_takesAmount 45 = .ok (.iload_n 3, 1) := by decide +kernel
theorem dX8_takesAmount_46 : decode cX8_takesAmount 46 = .ok (.iadd, 1) := by decide +kernel
theorem dX8_takesAmount_47 : decode cX8_takesAmount 47 = .ok (.if_icmp .ge 7, 3) := by decide +kernel
theorem dX8_takesAmount_50 : decode cX8_takesAmount 50 = .ok (.iconst 1, 1) := by decide +kernel
theorem dX8_takesAmount_51 : decode cX8_takesAmount 51 = .ok (.goto 4, 3) := by decide +kernel
theorem dX8_takesAmount_54 : decode cX8_takesAmount 54 = .ok (.iconst 0, 1) := by decide +kernel
theorem dX8_takesAmount_55 : decode cX8_takesAmount 55 = .ok (.ireturn, 1) := by decide +kernel
theorem dX8_upTo_0 : decode cX8_upTo 0 = .ok (.iload_n 1, 1) := by decide +kernel
theorem dX8_upTo_1 : decode cX8_upTo 1 = .ok (.ifCond .lt 20, 3) := by decide +kernel
theorem dX8_upTo_4 : decode cX8_upTo 4 = .ok (.iload_n 1, 1) := by decide +kernel
theorem dX8_upTo_5 : decode cX8_upTo 5 = .ok (.aload_n 0, 1) := by decide +kernel
theorem dX8_upTo_6 : decode cX8_upTo 6 = .ok (.getfield 43, 3) := by decide +kernel
theorem dX8_upTo_9 : decode cX8_upTo 9 = .ok (.if_icmp .ge 12, 3) := by decide +kernel
theorem dX8_upTo_12 : decode cX8_upTo 12 = .ok (.aload_n 0, 1) := by decide +kernel
theorem dX8_upTo_13 : decode cX8_upTo 13 = .ok (.getfield 18, 3) := by decide +kernel
theorem dX8_upTo_16 : decode cX8_upTo 16 = .ok (.iload_n 1, 1) := by decide +kernel
theorem dX8_upTo_17 : decode cX8_upTo 17 = .ok (.iaload, 1) := by decide +kernel
theorem dX8_upTo_18 : decode cX8_upTo 18 = .ok (.goto 4, 3) := by decide +kernel
theorem dX8_upTo_21 : decode cX8_upTo 21 = .ok (.iconst 0, 1) := by decide +kernel
theorem dX8_upTo_22 : decode cX8_upTo 22 = .ok (.ireturn, 1) := by decide +kernel
theorem dX8_reckonMoments_0 : decode cX8_reckonMoments 0 = .ok (.iconst 0, 1) := by decide +kernel
theorem dX8_reckonMoments_1 : decode cX8_reckonMoments 1 = .ok (.istore_n 1, 1) := by decide +kernel
theorem dX8_reckonMoments_2 : decode cX8_reckonMoments 2 = .ok (.iload_n 1, 1) := by decide +kernel
theorem dX8_reckonMoments_3 : decode cX8_reckonMoments 3 = .ok (.iconst 4, 1) := by decide +kernel
theorem dX8_reckonMoments_4 : decode cX8_reckonMoments 4 = .ok (.if_icmp .gt 25, 3) := by decide +kernel
theorem dX8_reckonMoments_7 : decode cX8_reckonMoments 7 = .ok (.aload_n 0, 1) := by decide +kernel
theorem dX8_reckonMoments_8 : decode cX8_reckonMoments 8 = .ok (.getfield 21, 3) := by decide +kernel
theorem dX8_reckonMoments_11 : decode cX8_reckonMoments 11 = .ok (.iload_n 1, 1) := by decide +kernel
theorem dX8_reckonMoments_12 : decode cX8_reckonMoments 12 = .ok (.ldc 103, 2) := by decide +kernel
theorem dX8_reckonMoments_14 : decode cX8_reckonMoments 14 = .ok (.iastore, 1) := by decide +kernel
theorem dX8_reckonMoments_15 : decode cX8_reckonMoments 15 = .ok (.aload_n 0, 1) := by decide +kernel
theorem dX8_reckonMoments_16 : decode cX8_reckonMoments 16 = .ok (.getfield 24, 3) := by decide +kernel
theorem dX8_reckonMoments_19 : decode cX8_reckonMoments 19 = .ok (.iload_n 1, 1) := by decide +kernel
theorem dX8_reckonMoments_20 : decode cX8_reckonMoments 20 = .ok (.ldc 104, 2) := by decide +kernel
theorem dX8_reckonMoments_22 : decode cX8_reckonMoments 22 = .ok (.iastore, 1) := by decide +kernel
theorem dX8_reckonMoments_23 : decode cX8_reckonMoments 23 = .ok (.iinc 1 1, 3) := by decide +kernel
theorem dX8_reckonMoments_26 : decode cX8_reckonMoments 26 = .ok (.goto (-24), 3) := by decide +kernel
theorem dX8_reckonMoments_29 : decode cX8_reckonMoments 29 = .ok (.aload_n 0, 1) := by decide +kernel
theorem dX8_reckonMoments_30 : decode cX8_reckonMoments 30 = .ok (.getfield 47, 3) := by decide +kernel
theorem dX8_reckonMoments_33 : decode cX8_reckonMoments 33 = .ok (.getfield 105, 3) := by decide +kernel
theorem dX8_reckonMoments_36 : decode cX8_reckonMoments 36 = .ok (.astore_n 1, 1) := by decide +kernel
theorem dX8_reckonMoments_37 : decode cX8_reckonMoments 37 = .ok (.iconst 0, 1) := by decide +kernel
theorem dX8_reckonMoments_38 : decode cX8_reckonMoments 38 = .ok (.istore_n 2, 1) := by decide +kernel
theorem dX8_reckonMoments_39 : decode cX8_reckonMoments 39 = .ok (.iload_n 2, 1) := by decide +kernel
theorem dX8_reckonMoments_40 : decode cX8_reckonMoments 40 = .ok (.aload_n 1, 1) := by decide +kernel
theorem dX8_reckonMoments_41 : decode cX8_reckonMoments 41 = .ok (.getfield 109, 3) := by decide +kernel
theorem dX8_reckonMoments_44 : decode cX8_reckonMoments 44 = .ok (.if_icmp .gt 120, 3) := by decide +kernel
theorem dX8_reckonMoments_47 : decode cX8_reckonMoments 47 = .ok (.aload_n 1, 1) := by decide +kernel
theorem dX8_reckonMoments_48 : decode cX8_reckonMoments 48 = .ok (.getfield 114, 3) := by decide +kernel
theorem dX8_reckonMoments_51 : decode cX8_reckonMoments 51 = .ok (.iload_n 2, 1) := by decide +kernel
theorem dX8_reckonMoments_52 : decode cX8_reckonMoments 52 = .ok (.iaload, 1) := by decide +kernel
theorem dX8_reckonMoments_53 : decode cX8_reckonMoments 53 = .ok (.istore_n 3, 1) := by decide +kernel
theorem dX8_reckonMoments_54 : decode cX8_reckonMoments 54 = .ok (.aload_n 1, 1) := by decide +kernel
theorem dX8_reckonMoments_55 : decode cX8_reckonMoments 55 = .ok (.getfield 117, 3) := by decide +kernel
theorem dX8_reckonMoments_58 : decode cX8_reckonMoments 58 = .ok (.iload_n 2, 1) := by decide +kernel
theorem dX8_reckonMoments_59 : decode cX8_reckonMoments 59 = .ok (.iaload, 1) := by decide +kernel
theorem dX8_reckonMoments_60 : decode cX8_reckonMoments 60 = .ok (.aload_n 0, 1) := by decide +kernel
theorem dX8_reckonMoments_61 : decode cX8_reckonMoments 61 = .ok (.getfield 51, 3) := by decide +kernel
theorem dX8_reckonMoments_64 : decode cX8_reckonMoments 64 = .ok (.getfield 55, 3) := by decide +kernel
theorem dX8_reckonMoments_67 : decode cX8_reckonMoments 67 = .ok (.iadd, 1) := by decide +kernel
theorem dX8_reckonMoments_68 : decode cX8_reckonMoments 68 = .ok (.aload_n 0, 1) := by decide +kernel
theorem dX8_reckonMoments_69 : decode cX8_reckonMoments 69 = .ok (.iload_n 3, 1) := by decide +kernel
theorem dX8_reckonMoments_70 : decode cX8_reckonMoments 70 = .ok (.invokevirtual 120, 3) := by decide +kernel
theorem dX8_reckonMoments_73 : decode cX8_reckonMoments 73 = .ok (.iadd, 1) := by decide +kernel
theorem dX8_reckonMoments_74 : decode cX8_reckonMoments 74 = .ok (.istore 4, 2) := by decide +kernel
theorem dX8_reckonMoments_76 : decode cX8_reckonMoments 76 = .ok (.aload_n 1, 1) := by decide +kernel
theorem dX8_reckonMoments_77 : decode cX8_reckonMoments 77 = .ok (.getfield 123, 3) := by decide +kernel
theorem dX8_reckonMoments_80 : decode cX8_reckonMoments 80 = .ok (.iload_n 2, 1) := by decide +kernel
theorem dX8_reckonMoments_81 : decode cX8_reckonMoments 81 = .ok (.iaload, 1) := by decide +kernel
theorem dX8_reckonMoments_82 : decode cX8_reckonMoments 82 = .ok (.aload_n 0, 1) := by decide +kernel
theorem dX8_reckonMoments_83 : decode cX8_reckonMoments 83 = .ok (.getfield 51, 3) := by decide +kernel
theorem dX8_reckonMoments_86 : decode cX8_reckonMoments 86 = .ok (.getfield 55, 3) := by decide +kernel
theorem dX8_reckonMoments_89 : decode cX8_reckonMoments 89 = .ok (.aload_n 0, 1) := by decide +kernel
theorem dX8_reckonMoments_90 : decode cX8_reckonMoments 90 = .ok (.getfield 47, 3) := by decide +kernel
theorem dX8_reckonMoments_93 : decode cX8_reckonMoments 93 = .ok (.getfield 126, 3) := by decide +kernel
theorem dX8_reckonMoments_96 : decode cX8_reckonMoments 96 = .ok (.iconst 1, 1) := by decide +kernel
theorem dX8_reckonMoments_97 : decode cX8_reckonMoments 97 = .ok (.iaload, 1) := by decide +kernel
theorem dX8_reckonMoments_98 : decode cX8_reckonMoments 98 = .ok (.imul, 1) := by decide +kernel
theorem dX8_reckonMoments_99 : decode cX8_reckonMoments 99 = .ok (.iadd, 1) := by decide +kernel
theorem dX8_reckonMoments_100 : decode cX8_reckonMoments 100 = .ok (.istore 5, 2) := by decide +kernel
theorem dX8_reckonMoments_102 : decode cX8_reckonMoments 102 = .ok (.aload_n 0, 1) := by decide +kernel
theorem dX8_reckonMoments_103 : decode cX8_reckonMoments 103 = .ok (.getfield 21, 3) := by decide +kernel
theorem dX8_reckonMoments_106 : decode cX8_reckonMoments 106 = .ok (.iload_n 3, 1) := by decide +kernel
theorem dX8_reckonMoments_107 : decode cX8_reckonMoments 107 = .ok (.aload_n 0, 1) := by decide +kernel
theorem dX8_reckonMoments_108 : decode cX8_reckonMoments 108 = .ok (.getfield 21, 3) := by decide +kernel
theorem dX8_reckonMoments_111 : decode cX8_reckonMoments 111 = .ok (.iload_n 3, 1) := by decide +kernel
theorem dX8_reckonMoments_112 : decode cX8_reckonMoments 112 = .ok (.iaload, 1) := by decide +kernel
theorem dX8_reckonMoments_113 : decode cX8_reckonMoments 113 = .ok (.iload 4, 2) := by decide +kernel
theorem dX8_reckonMoments_115 : decode cX8_reckonMoments 115 = .ok (.aload_n 0, 1) := by decide +kernel
theorem dX8_reckonMoments_116 : decode cX8_reckonMoments 116 = .ok (.getfield 47, 3) := by decide +kernel
theorem dX8_reckonMoments_119 : decode cX8_reckonMoments 119 = .ok (.getfield 129, 3) := by decide +kernel
theorem dX8_reckonMoments_122 : decode cX8_reckonMoments 122 = .ok (.imul, 1) := by decide +kernel
theorem dX8_reckonMoments_123 : decode cX8_reckonMoments 123 = .ok (.iload 5, 2) := by decide +kernel
theorem dX8_reckonMoments_125 : decode cX8_reckonMoments 125 = .ok (.isub, 1) := by decide +kernel
theorem dX8_reckonMoments_126 : decode cX8_reckonMoments 126 = .ok (.invokestatic 65, 3) := by decide +kernel
theorem dX8_reckonMoments_129 : decode cX8_reckonMoments 129 = .ok (.iastore, 1) := by decide +kernel
theorem dX8_reckonMoments_130 : decode cX8_reckonMoments 130 = .ok (.aload_n 0, 1) := by decide +kernel
theorem dX8_reckonMoments_131 : decode cX8_reckonMoments 131 = .ok (.getfield 24, 3) := by decide +kernel
theorem dX8_reckonMoments_134 : decode cX8_reckonMoments 134 = .ok (.iload_n 3, 1) := by decide +kernel
theorem dX8_reckonMoments_135 : decode cX8_reckonMoments 135 = .ok (.aload_n 0, 1) := by decide +kernel
theorem dX8_reckonMoments_136 : decode cX8_reckonMoments 136 = .ok (.getfield 24, 3) := by decide +kernel
theorem dX8_reckonMoments_139 : decode cX8_reckonMoments 139 = .ok (.iload_n 3, 1) := by decide +kernel
theorem dX8_reckonMoments_140 : decode cX8_reckonMoments 140 = .ok (.iaload, 1) := by decide +kernel
theorem dX8_reckonMoments_141 : decode cX8_reckonMoments 141 = .ok (.iload 4, 2) := by decide +kernel
theorem dX8_reckonMoments_143 : decode cX8_reckonMoments 143 = .ok (.aload_n 0, 1) := by decide +kernel
theorem dX8_reckonMoments_144 : decode cX8_reckonMoments 144 = .ok (.getfield 47, 3) := by decide +kernel
theorem dX8_reckonMoments_147 : decode cX8_reckonMoments 147 = .ok (.getfield 132, 3) := by decide +kernel
theorem dX8_reckonMoments_150 : decode cX8_reckonMoments 150 = .ok (.imul, 1) := by decide +kernel
theorem dX8_reckonMoments_151 : decode cX8_reckonMoments 151 = .ok (.iload 5, 2) := by decide +kernel
theorem dX8_reckonMoments_153 : decode cX8_reckonMoments 153 = .ok (.isub, 1) := by decide +kernel
theorem dX8_reckonMoments_154 : decode cX8_reckonMoments 154 = .ok (.invokestatic 74, 3) := by decide +kernel
theorem dX8_reckonMoments_157 : decode cX8_reckonMoments 157 = .ok (.iastore, 1) := by decide +kernel
theorem dX8_reckonMoments_158 : decode cX8_reckonMoments 158 = .ok (.iinc 2 1, 3) := by decide +kernel
theorem dX8_reckonMoments_161 : decode cX8_reckonMoments 161 = .ok (.goto (-122), 3) := by decide +kernel
theorem dX8_reckonMoments_164 : decode cX8_reckonMoments 164 = .ok (.return_, 1) := by decide +kernel
theorem dX8_weightBehind_0 : decode cX8_weightBehind 0 = .ok (.iconst 0, 1) := by decide +kernel
theorem dX8_weightBehind_1 : decode cX8_weightBehind 1 = .ok (.istore_n 2, 1) := by decide +kernel
theorem dX8_weightBehind_2 : decode cX8_weightBehind 2 = .ok (.iconst 0, 1) := by decide +kernel
theorem dX8_weightBehind_3 : decode cX8_weightBehind 3 = .ok (.istore_n 3, 1) := by decide +kernel
theorem dX8_weightBehind_4 : decode cX8_weightBehind 4 = .ok (.iload_n 3, 1) := by decide +kernel
theorem dX8_weightBehind_5 : decode cX8_weightBehind 5 = .ok (.aload_n 0, 1) := by decide +kernel
theorem dX8_weightBehind_6 : decode cX8_weightBehind 6 = .ok (.getfield 51, 3) := by decide +kernel
theorem dX8_weightBehind_9 : decode cX8_weightBehind 9 = .ok (.getfield 80, 3) := by decide +kernel
theorem dX8_weightBehind_12 : decode cX8_weightBehind 12 = .ok (.if_icmp .ge 38, 3) := by decide +kernel
theorem dX8_weightBehind_15 : decode cX8_weightBehind 15 = .ok (.iload_n 2, 1) := by decide +kernel
theorem dX8_weightBehind_16 : decode cX8_weightBehind 16 = .ok (.aload_n 0, 1) := by decide +kernel
theorem dX8_weightBehind_17 : decode cX8_weightBehind 17 = .ok (.getfield 51, 3) := by decide +kernel
theorem dX8_weightBehind_20 : decode cX8_weightBehind 20 = .ok (.getfield 135, 3) := by decide +kernel
theorem dX8_weightBehind_23 : decode cX8_weightBehind 23 = .ok (.iload_n 3, 1) := by decide +kernel
theorem dX8_weightBehind_24 : decode cX8_weightBehind 24 = .ok (.iaload, 1) := by decide +kernel
theorem dX8_weightBehind_25 : decode cX8_weightBehind 25 = .ok (.iload_n 1, 1) := by decide +kernel
theorem dX8_weightBehind_26 : decode cX8_weightBehind 26 = .ok (.if_icmp .le 15, 3) := by decide +kernel
theorem dX8_weightBehind_29 : decode cX8_weightBehind 29 = .ok (.aload_n 0, 1) := by decide +kernel
theorem dX8_weightBehind_30 : decode cX8_weightBehind 30 = .ok (.getfield 51, 3) := by decide +kernel
theorem dX8_weightBehind_33 : decode cX8_weightBehind 33 = .ok (.getfield 138, 3) := by decide +kernel
theorem dX8_weightBehind_36 : decode cX8_weightBehind 36 = .ok (.iload_n 3, 1) := by decide +kernel
theorem dX8_weightBehind_37 : decode cX8_weightBehind 37 = .ok (.iaload, 1) := by decide +kernel
theorem dX8_weightBehind_38 : decode cX8_weightBehind 38 = .ok (.goto 4, 3) := by decide +kernel
theorem dX8_weightBehind_41 : decode cX8_weightBehind 41 = .ok (.iconst 0, 1) := by decide +kernel
theorem dX8_weightBehind_42 : decode cX8_weightBehind 42 = .ok (.iadd, 1) := by decide +kernel
theorem dX8_weightBehind_43 : decode cX8_weightBehind 43 = .ok (.istore_n 2, 1) := by decide +kernel
theorem dX8_weightBehind_44 : decode cX8_weightBehind 44 = .ok (.iinc 3 1, 3) := by decide +kernel
theorem dX8_weightBehind_47 : decode cX8_weightBehind 47 = .ok (.goto (-43), 3) := by decide +kernel
theorem dX8_weightBehind_50 : decode cX8_weightBehind 50 = .ok (.iload_n 2, 1) := by decide +kernel
theorem dX8_weightBehind_51 : decode cX8_weightBehind 51 = .ok (.ireturn, 1) := by decide +kernel
theorem dX8_layFrom_0 : decode cX8_layFrom 0 = .ok (.iload_n 1, 1) := by decide +kernel
theorem dX8_layFrom_1 : decode cX8_layFrom 1 = .ok (.aload_n 0, 1) := by decide +kernel
theorem dX8_layFrom_2 : decode cX8_layFrom 2 = .ok (.getfield 51, 3) := by decide +kernel
theorem dX8_layFrom_5 : decode cX8_layFrom 5 = .ok (.getfield 80, 3) := by decide +kernel
theorem dX8_layFrom_8 : decode cX8_layFrom 8 = .ok (.if_icmp .ge 8, 3) := by decide +kernel
theorem dX8_layFrom_11 : decode cX8_layFrom 11 = .ok (.iload_n 1, 1) := by decide +kernel
theorem dX8_layFrom_12 : decode cX8_layFrom 12 = .ok (.iconst 5, 1) := by decide +kernel
theorem dX8_layFrom_13 : decode cX8_layFrom 13 = .ok (.if_icmp .lt 8, 3) := by decide +kernel
theorem dX8_layFrom_16 : decode cX8_layFrom 16 = .ok (.aload_n 0, 1) := by decide +kernel
theorem dX8_layFrom_17 : decode cX8_layFrom 17 = .ok (.invokevirtual 141, 3) := by decide +kernel
theorem dX8_layFrom_20 : decode cX8_layFrom 20 = .ok (.return_, 1) := by decide +kernel
theorem dX8_layFrom_21 : decode cX8_layFrom 21 = .ok (.iconst 0, 1) := by decide +kernel
theorem dX8_layFrom_22 : decode cX8_layFrom 22 = .ok (.istore_n 2, 1) := by decide +kernel
theorem dX8_layFrom_23 : decode cX8_layFrom 23 = .ok (.iload_n 2, 1) := by decide +kernel
theorem dX8_layFrom_24 : decode cX8_layFrom 24 = .ok (.aload_n 0, 1) := by decide +kernel
theorem dX8_layFrom_25 : decode cX8_layFrom 25 = .ok (.getfield 47, 3) := by decide +kernel
theorem dX8_layFrom_28 : decode cX8_layFrom 28 = .ok (.getfield 83, 3) := by decide +kernel
theorem dX8_layFrom_31 : decode cX8_layFrom 31 = .ok (.getfield 87, 3) := by decide +kernel
theorem dX8_layFrom_34 : decode cX8_layFrom 34 = .ok (.if_icmp .ge 39, 3) := by decide +kernel
theorem dX8_layFrom_37 : decode cX8_layFrom 37 = .ok (.aload_n 0, 1) := by decide +kernel
theorem dX8_layFrom_38 : decode cX8_layFrom 38 = .ok (.iload_n 1, 1) := by decide +kernel
theorem dX8_layFrom_39 : decode cX8_layFrom 39 = .ok (.iload_n 2, 1) := by decide +kernel
theorem dX8_layFrom_40 : decode cX8_layFrom 40 = .ok (.invokevirtual 144, 3) := by decide +kernel
theorem dX8_layFrom_43 : decode cX8_layFrom 43 = .ok (.ifCond .eq 24, 3) := by decide +kernel
theorem dX8_layFrom_46 : decode cX8_layFrom 46 = .ok (.aload_n 0, 1) := by decide +kernel
theorem dX8_layFrom_47 : decode cX8_layFrom 47 = .ok (.iload_n 1, 1) := by decide +kernel
theorem dX8_layFrom_48 : decode cX8_layFrom 48 = .ok (.iload_n 2, 1) := by decide +kernel
theorem dX8_layFrom_49 : decode cX8_layFrom 49 = .ok (.iconst 1, 1) := by decide +kernel
theorem dX8_layFrom_50 : decode cX8_layFrom 50 = .ok (.invokevirtual 148, 3) := by decide +kernel
theorem dX8_layFrom_53 : decode cX8_layFrom 53 = .ok (.aload_n 0, 1) := by decide +kernel
theorem dX8_layFrom_54 : decode cX8_layFrom 54 = .ok (.iload_n 1, 1) := by decide +kernel
theorem dX8_layFrom_55 : decode cX8_layFrom 55 = .ok (.iconst 1, 1) := by decide +kernel
theorem dX8_layFrom_56 : decode cX8_layFrom 56 = .ok (.iadd, 1) := by decide +kernel
theorem dX8_layFrom_57 : decode cX8_layFrom 57 = .ok (.invokestatic 95, 3) := by decide +kernel
theorem dX8_layFrom_60 : decode cX8_layFrom 60 = .ok (.aload_n 0, 1) := by decide +kernel
theorem dX8_layFrom_61 : decode cX8_layFrom 61 = .ok (.iload_n 1, 1) := by decide +kernel
theorem dX8_layFrom_62 : decode cX8_layFrom 62 = .ok (.iload_n 2, 1) := by decide +kernel
theorem dX8_layFrom_63 : decode cX8_layFrom 63 = .ok (.iconst (-1), 1) := by decide +kernel
theorem dX8_layFrom_64 : decode cX8_layFrom 64 = .ok (.invokevirtual 148, 3) := by decide +kernel
theorem dX8_layFrom_67 : decode cX8_layFrom 67 = .ok (.iinc 2 1, 3) := by decide +kernel
theorem dX8_layFrom_70 : decode cX8_layFrom 70 = .ok (.goto (-47), 3) := by decide +kernel
theorem dX8_layFrom_73 : decode cX8_layFrom 73 = .ok (.return_, 1) := by decide +kernel
theorem dX8_mayLie_0 : decode cX8_mayLie 0 = .ok (.aload_n 0, 1) := by decide +kernel
theorem dX8_mayLie_1 : decode cX8_mayLie 1 = .ok (.getfield 47, 3) := by decide +kernel
theorem dX8_mayLie_4 : decode cX8_mayLie 4 = .ok (.getfield 83, 3) := by decide +kernel
theorem dX8_mayLie_7 : decode cX8_mayLie 7 = .ok (.astore_n 3, 1) := by decide +kernel
theorem dX8_mayLie_8 : decode cX8_mayLie 8 = .ok (.aload_n 0, 1) := by decide +kernel
theorem dX8_mayLie_9 : decode cX8_mayLie 9 = .ok (.getfield 51, 3) := by decide +kernel
theorem dX8_mayLie_12 : decode cX8_mayLie 12 = .ok (.getfield 138, 3) := by decide +kernel
theorem dX8_mayLie_15 : decode cX8_mayLie 15 = .ok (.iload_n 1, 1) := by decide +kernel
theorem dX8_mayLie_16 : decode cX8_mayLie 16 = .ok (.iaload, 1) := by decide +kernel
theorem dX8_mayLie_17 : decode cX8_mayLie 17 = .ok (.istore 4, 2) := by decide +kernel
theorem dX8_mayLie_19 : decode cX8_mayLie 19 = .ok (.aload_n 3, 1) := by decide +kernel
theorem dX8_mayLie_20 : decode cX8_mayLie 20 = .ok (.getfield 152, 3) := by decide +kernel
theorem dX8_mayLie_23 : decode cX8_mayLie 23 = .ok (.iload_n 2, 1) := by decide +kernel
theorem dX8_mayLie_24 : decode cX8_mayLie 24 = .ok (.iaload, 1) := by decide +kernel
theorem dX8_mayLie_25 : decode cX8_mayLie 25 = .ok (.istore 5, 2) := by decide +kernel
theorem dX8_mayLie_27 : decode cX8_mayLie 27 = .ok (.aload_n 0, 1) := by decide +kernel
theorem dX8_mayLie_28 : decode cX8_mayLie 28 = .ok (.getfield 30, 3) := by decide +kernel
theorem dX8_mayLie_31 : decode cX8_mayLie 31 = .ok (.iload_n 2, 1) := by decide +kernel
theorem dX8_mayLie_32 : decode cX8_mayLie 32 = .ok (.iaload, 1) := by decide +kernel
theorem dX8_mayLie_33 : decode cX8_mayLie 33 = .ok (.ifCond .ne 34, 3) := by decide +kernel
theorem dX8_mayLie_36 : decode cX8_mayLie 36 = .ok (.iload 4, 2) := by decide +kernel
theorem dX8_mayLie_38 : decode cX8_mayLie 38 = .ok (.aload_n 3, 1) := by decide +kernel
theorem dX8_mayLie_39 : decode cX8_mayLie 39 = .ok (.getfield 155, 3) := by decide +kernel
theorem dX8_mayLie_42 : decode cX8_mayLie 42 = .ok (.iload_n 2, 1) := by decide +kernel
theorem dX8_mayLie_43 : decode cX8_mayLie 43 = .ok (.iaload, 1) := by decide +kernel
theorem dX8_mayLie_44 : decode cX8_mayLie 44 = .ok (.if_icmp .gt 23, 3) := by decide +kernel
theorem dX8_mayLie_47 : decode cX8_mayLie 47 = .ok (.aload_n 0, 1) := by decide +kernel
theorem dX8_mayLie_48 : decode cX8_mayLie 48 = .ok (.getfield 33, 3) := by decide +kernel
theorem dX8_mayLie_51 : decode cX8_mayLie 51 = .ok (.iload 5, 2) := by decide +kernel
theorem dX8_mayLie_53 : decode cX8_mayLie 53 = .ok (.iaload, 1) := by decide +kernel
theorem dX8_mayLie_54 : decode cX8_mayLie 54 = .ok (.iload 4, 2) := by decide +kernel
theorem dX8_mayLie_56 : decode cX8_mayLie 56 = .ok (.iadd, 1) := by decide +kernel
theorem dX8_mayLie_57 : decode cX8_mayLie 57 = .ok (.aload_n 3, 1) := by decide +kernel
theorem dX8_mayLie_58 : decode cX8_mayLie 58 = .ok (.getfield 158, 3) := by decide +kernel
theorem dX8_mayLie_61 : decode cX8_mayLie 61 = .ok (.iload 5, 2) := by decide +kernel
theorem dX8_mayLie_63 : decode cX8_mayLie 63 = .ok (.iaload, 1) := by decide +kernel
theorem dX8_mayLie_64 : decode cX8_mayLie 64 = .ok (.if_icmp .le 5, 3) := by decide +kernel
theorem dX8_mayLie_67 : decode cX8_mayLie 67 = .ok (.iconst 0, 1) := by decide +kernel
theorem dX8_mayLie_68 : decode cX8_mayLie 68 = .ok (.ireturn, 1) := by decide +kernel
theorem dX8_mayLie_69 : decode cX8_mayLie 69 = .ok (.iconst 0, 1) := by decide +kernel
theorem dX8_mayLie_70 : decode cX8_mayLie 70 = .ok (.istore 6, 2) := by decide +kernel
theorem dX8_mayLie_72 : decode cX8_mayLie 72 = .ok (.iload 6, 2) := by decide +kernel
theorem dX8_mayLie_74 : decode cX8_mayLie 74 = .ok (.aload_n 3, 1) := by decide +kernel
theorem dX8_mayLie_75 : decode cX8_mayLie 75 = .ok (.getfield 161, 3) := by decide +kernel
theorem dX8_mayLie_78 : decode cX8_mayLie 78 = .ok (.if_icmp .ge 82, 3) := by decide +kernel
theorem dX8_mayLie_81 : decode cX8_mayLie 81 = .ok (.aload_n 3, 1) := by decide +kernel
theorem dX8_mayLie_82 : decode cX8_mayLie 82 = .ok (.getfield 164, 3) := by decide +kernel
theorem dX8_mayLie_85 : decode cX8_mayLie 85 = .ok (.iload 6, 2) := by decide +kernel
theorem dX8_mayLie_87 : decode cX8_mayLie 87 = .ok (.iaload, 1) := by decide +kernel
theorem dX8_mayLie_88 : decode cX8_mayLie 88 = .ok (.istore 7, 2) := by decide +kernel
theorem dX8_mayLie_90 : decode cX8_mayLie 90 = .ok (.iload 7, 2) := by decide +kernel
theorem dX8_mayLie_92 : decode cX8_mayLie 92 = .ok (.iconst 1, 1) := by decide +kernel
theorem dX8_mayLie_93 : decode cX8_mayLie 93 = .ok (.if_icmp .lt 21, 3) := by decide +kernel
theorem dX8_mayLie_96 : decode cX8_mayLie 96 = .ok (.iload_n 2, 1) := by decide +kernel
theorem dX8_mayLie_97 : decode cX8_mayLie 97 = .ok (.iload 7, 2) := by decide +kernel
theorem dX8_mayLie_99 : decode cX8_mayLie 99 = .ok (.if_icmp .eq 11, 3) := by decide +kernel
theorem dX8_mayLie_102 : decode cX8_mayLie 102 = .ok (.iload_n 2, 1) := by decide +kernel
theorem dX8_mayLie_103 : decode cX8_mayLie 103 = .ok (.iload 7, 2) := by decide +kernel
theorem dX8_mayLie_105 : decode cX8_mayLie 105 = .ok (.iconst 1, 1) := by decide +kernel
theorem dX8_mayLie_106 : decode cX8_mayLie 106 = .ok (.isub, 1) := by decide +kernel
theorem dX8_mayLie_107 : decode cX8_mayLie 107 = .ok (.if_icmp .ne 7, 3) := by decide +kernel
theorem dX8_mayLie_110 : decode cX8_mayLie 110 = .ok (.iconst 1, 1) := by decide +kernel
theorem dX8_mayLie_111 : decode cX8_mayLie 111 = .ok (.goto 4, 3) := by decide +kernel
theorem dX8_mayLie_114 : decode cX8_mayLie 114 = .ok (.iconst 0, 1) := by decide +kernel
theorem dX8_mayLie_115 : decode cX8_mayLie 115 = .ok (.istore 8, 2) := by decide +kernel
theorem dX8_mayLie_117 : decode cX8_mayLie 117 = .ok (.iload 8, 2) := by decide +kernel
theorem dX8_mayLie_119 : decode cX8_mayLie 119 = .ok (.ifCond .eq 35, 3) := by decide +kernel
theorem dX8_mayLie_122 : decode cX8_mayLie 122 = .ok (.aload_n 0, 1) := by decide +kernel
theorem dX8_mayLie_123 : decode cX8_mayLie 123 = .ok (.getfield 30, 3) := by decide +kernel
theorem dX8_mayLie_126 : decode cX8_mayLie 126 = .ok (.iload 7, 2) := by decide +kernel
theorem dX8_mayLie_128 : decode cX8_mayLie 128 = .ok (.iaload, 1) := by decide +kernel
theorem dX8_mayLie_129 : decode cX8_mayLie 129 = .ok (.aload_n 0, 1) := by decide +kernel
theorem dX8_mayLie_130 : decode cX8_mayLie 130 = .ok (.getfield 30, 3) := by decide +kernel
theorem dX8_mayLie_133 : decode cX8_mayLie 133 = .ok (.iload 7, 2) := by decide +kernel
theorem dX8_mayLie_135 : decode cX8_mayLie 135 = .ok (.iconst 1, 1) := by decide +kernel
theorem dX8_mayLie_136 : decode cX8_mayLie 136 = .ok (.isub, 1) := by decide +kernel
theorem dX8_mayLie_137 : decode cX8_mayLie 137 = .ok (.iaload, 1) := by decide +kernel
theorem dX8_mayLie_138 : decode cX8_mayLie 138 = .ok (.iadd, 1) := by decide +kernel
theorem dX8_mayLie_139 : decode cX8_mayLie 139 = .ok (.iload 4, 2) := by decide +kernel
theorem dX8_mayLie_141 : decode cX8_mayLie 141 = .ok (.iadd, 1) := by decide +kernel
theorem dX8_mayLie_142 : decode cX8_mayLie 142 = .ok (.aload_n 3, 1) := by decide +kernel
theorem dX8_mayLie_143 : decode cX8_mayLie 143 = .ok (.getfield 167, 3) := by decide +kernel
theorem dX8_mayLie_146 : decode cX8_mayLie 146 = .ok (.iload 6, 2) := by decide +kernel
theorem dX8_mayLie_148 : decode cX8_mayLie 148 = .ok (.iaload, 1) := by decide +kernel
theorem dX8_mayLie_149 : decode cX8_mayLie 149 = .ok (.if_icmp .le 5, 3) := by decide +kernel
theorem dX8_mayLie_152 : decode cX8_mayLie 152 = .ok (.iconst 0, 1) := by decide +kernel
theorem dX8_mayLie_153 : decode cX8_mayLie 153 = .ok (.ireturn, 1) := by decide +kernel
theorem dX8_mayLie_154 : decode cX8_mayLie 154 = .ok (.iinc 6 1, 3) := by decide +kernel
theorem dX8_mayLie_157 : decode cX8_mayLie 157 = .ok (.goto (-85), 3) := by decide +kernel
theorem dX8_mayLie_160 : decode cX8_mayLie 160 = .ok (.iconst 0, 1) := by decide +kernel
theorem dX8_mayLie_161 : decode cX8_mayLie 161 = .ok (.istore 6, 2) := by decide +kernel
theorem dX8_mayLie_163 : decode cX8_mayLie 163 = .ok (.iload 6, 2) := by decide +kernel
theorem dX8_mayLie_165 : decode cX8_mayLie 165 = .ok (.iload_n 1, 1) := by decide +kernel
theorem dX8_mayLie_166 : decode cX8_mayLie 166 = .ok (.if_icmp .ge 85, 3) := by decide +kernel
theorem dX8_mayLie_169 : decode cX8_mayLie 169 = .ok (.aload_n 0, 1) := by decide +kernel
theorem dX8_mayLie_170 : decode cX8_mayLie 170 = .ok (.getfield 51, 3) := by decide +kernel
theorem dX8_mayLie_173 : decode cX8_mayLie 173 = .ok (.getfield 135, 3) := by decide +kernel
theorem dX8_mayLie_176 : decode cX8_mayLie 176 = .ok (.iload 6, 2) := by decide +kernel
theorem dX8_mayLie_178 : decode cX8_mayLie 178 = .ok (.iaload, 1) := by decide +kernel
theorem dX8_mayLie_179 : decode cX8_mayLie 179 = .ok (.aload_n 0, 1) := by decide +kernel
theorem dX8_mayLie_180 : decode cX8_mayLie 180 = .ok (.getfield 51, 3) := by decide +kernel
theorem dX8_mayLie_183 : decode cX8_mayLie 183 = .ok (.getfield 135, 3) := by decide +kernel
theorem dX8_mayLie_186 : decode cX8_mayLie 186 = .ok (.iload_n 1, 1) := by decide +kernel
theorem dX8_mayLie_187 : decode cX8_mayLie 187 = .ok (.iaload, 1) := by decide +kernel
theorem dX8_mayLie_188 : decode cX8_mayLie 188 = .ok (.if_icmp .le 18, 3) := by decide +kernel
theorem dX8_mayLie_191 : decode cX8_mayLie 191 = .ok (.aload_n 3, 1) := by decide +kernel
theorem dX8_mayLie_192 : decode cX8_mayLie 192 = .ok (.aload_n 0, 1) := by decide +kernel
theorem dX8_mayLie_193 : decode cX8_mayLie 193 = .ok (.getfield 27, 3) := by decide +kernel
theorem dX8_mayLie_196 : decode cX8_mayLie 196 = .ok (.iload 6, 2) := by decide +kernel
theorem dX8_mayLie_198 : decode cX8_mayLie 198 = .ok (.iaload, 1) := by decide +kernel
theorem dX8_mayLie_199 : decode cX8_mayLie 199 = .ok (.iload_n 2, 1) := by decide +kernel
theorem dX8_mayLie_200 : decode cX8_mayLie 200 = .ok (.invokevirtual 170, 3) := by decide +kernel
theorem dX8_mayLie_203 : decode cX8_mayLie 203 = .ok (.ifCond .ne 40, 3) := by decide +kernel
theorem dX8_mayLie_206 : decode cX8_mayLie 206 = .ok (.aload_n 0, 1) := by decide +kernel
theorem dX8_mayLie_207 : decode cX8_mayLie 207 = .ok (.getfield 51, 3) := by decide +kernel
theorem dX8_mayLie_210 : decode cX8_mayLie 210 = .ok (.getfield 135, 3) := by decide +kernel
theorem dX8_mayLie_213 : decode cX8_mayLie 213 = .ok (.iload 6, 2) := by decide +kernel
theorem dX8_mayLie_215 : decode cX8_mayLie 215 = .ok (.iaload, 1) := by decide +kernel
theorem dX8_mayLie_216 : decode cX8_mayLie 216 = .ok (.aload_n 0, 1) := by decide +kernel
theorem dX8_mayLie_217 : decode cX8_mayLie 217 = .ok (.getfield 51, 3) := by decide +kernel
theorem dX8_mayLie_220 : decode cX8_mayLie 220 = .ok (.getfield 135, 3) := by decide +kernel
theorem dX8_mayLie_223 : decode cX8_mayLie 223 = .ok (.iload_n 1, 1) := by decide +kernel
theorem dX8_mayLie_224 : decode cX8_mayLie 224 = .ok (.iaload, 1) := by decide +kernel
theorem dX8_mayLie_225 : decode cX8_mayLie 225 = .ok (.if_icmp .ge 20, 3) := by decide +kernel
theorem dX8_mayLie_228 : decode cX8_mayLie 228 = .ok (.aload_n 3, 1) := by decide +kernel
theorem dX8_mayLie_229 : decode cX8_mayLie 229 = .ok (.iload_n 2, 1) := by decide +kernel
theorem dX8_mayLie_230 : decode cX8_mayLie 230 = .ok (.aload_n 0, 1) := by decide +kernel
theorem dX8_mayLie_231 : decode cX8_mayLie 231 = .ok (.getfield 27, 3) := by decide +kernel
theorem dX8_mayLie_234 : decode cX8_mayLie 234 = .ok (.iload 6, 2) := by decide +kernel
theorem dX8_mayLie_236 : decode cX8_mayLie 236 = .ok (.iaload, 1) := by decide +kernel
theorem dX8_mayLie_237 : decode cX8_mayLie 237 = .ok (.invokevirtual 170, 3) := by decide +kernel
theorem dX8_mayLie_240 : decode cX8_mayLie 240 = .ok (.ifCond .eq 5, 3) := by decide +kernel
theorem dX8_mayLie_243 : decode cX8_mayLie 243 = .ok (.iconst 0, 1) := by decide +kernel
theorem dX8_mayLie_244 : decode cX8_mayLie 244 = .ok (.ireturn, 1) := by decide +kernel
theorem dX8_mayLie_245 : decode cX8_mayLie 245 = .ok (.iinc 6 1, 3) := by decide +kernel
theorem dX8_mayLie_248 : decode cX8_mayLie 248 = .ok (.goto (-85), 3) := by decide +kernel
theorem dX8_mayLie_251 : decode cX8_mayLie 251 = .ok (.iconst 1, 1) := by decide +kernel
theorem dX8_mayLie_252 : decode cX8_mayLie 252 = .ok (.ireturn, 1) := by decide +kernel
theorem dX8_lay_0 : decode cX8_lay 0 = .ok (.iload_n 3, 1) := by decide +kernel
theorem dX8_lay_1 : decode cX8_lay 1 = .ok (.aload_n 0, 1) := by decide +kernel
theorem dX8_lay_2 : decode cX8_lay 2 = .ok (.getfield 51, 3) := by decide +kernel
theorem dX8_lay_5 : decode cX8_lay 5 = .ok (.getfield 138, 3) := by decide +kernel
theorem dX8_lay_8 : decode cX8_lay 8 = .ok (.iload_n 1, 1) := by decide +kernel
theorem dX8_lay_9 : decode cX8_lay 9 = .ok (.iaload, 1) := by decide +kernel
theorem dX8_lay_10 : decode cX8_lay 10 = .ok (.imul, 1) := by decide +kernel
theorem dX8_lay_11 : decode cX8_lay 11 = .ok (.istore 4, 2) := by decide +kernel
theorem dX8_lay_13 : decode cX8_lay 13 = .ok (.aload_n 0, 1) := by decide +kernel
theorem dX8_lay_14 : decode cX8_lay 14 = .ok (.getfield 27, 3) := by decide +kernel
theorem dX8_lay_17 : decode cX8_lay 17 = .ok (.iload_n 1, 1) := by decide +kernel
theorem dX8_lay_18 : decode cX8_lay 18 = .ok (.iload_n 2, 1) := by decide +kernel
theorem dX8_lay_19 : decode cX8_lay 19 = .ok (.iastore, 1) := by decide +kernel
theorem dX8_lay_20 : decode cX8_lay 20 = .ok (.aload_n 0, 1) := by decide +kernel
theorem dX8_lay_21 : decode cX8_lay 21 = .ok (.getfield 30, 3) := by decide +kernel
theorem dX8_lay_24 : decode cX8_lay 24 = .ok (.iload_n 2, 1) := by decide +kernel
theorem dX8_lay_25 : decode cX8_lay 25 = .ok (.dup2, 1) := by decide +kernel
theorem dX8_lay_26 : decode cX8_lay 26 = .ok (.iaload, 1) := by decide +kernel
theorem dX8_lay_27 : decode cX8_lay 27 = .ok (.iload 4, 2) := by decide +kernel
theorem dX8_lay_29 : decode cX8_lay 29 = .ok (.iadd, 1) := by decide +kernel
theorem dX8_lay_30 : decode cX8_lay 30 = .ok (.iastore, 1) := by decide +kernel
theorem dX8_lay_31 : decode cX8_lay 31 = .ok (.aload_n 0, 1) := by decide +kernel
theorem dX8_lay_32 : decode cX8_lay 32 = .ok (.getfield 33, 3) := by decide +kernel
theorem dX8_lay_35 : decode cX8_lay 35 = .ok (.aload_n 0, 1) := by decide +kernel
theorem dX8_lay_36 : decode cX8_lay 36 = .ok (.getfield 47, 3) := by decide +kernel
theorem dX8_lay_39 : decode cX8_lay 39 = .ok (.getfield 83, 3) := by decide +kernel
theorem dX8_lay_42 : decode cX8_lay 42 = .ok (.getfield 152, 3) := by decide +kernel
theorem dX8_lay_45 : decode cX8_lay 45 = .ok (.iload_n 2, 1) := by decide +kernel
theorem dX8_lay_46 : decode cX8_lay 46 = .ok (.iaload, 1) := by decide +kernel
theorem dX8_lay_47 : decode cX8_lay 47 = .ok (.dup2, 1) := by decide +kernel
theorem dX8_lay_48 : decode cX8_lay 48 = .ok (.iaload, 1) := by decide +kernel
theorem dX8_lay_49 : decode cX8_lay 49 = .ok (.iload 4, 2) := by decide +kernel
theorem dX8_lay_51 : decode cX8_lay 51 = .ok (.iadd, 1) := by decide +kernel
theorem dX8_lay_52 : decode cX8_lay 52 = .ok (.iastore, 1) := by decide +kernel
theorem dX8_lay_53 : decode cX8_lay 53 = .ok (.aload_n 0, 1) := by decide +kernel
theorem dX8_lay_54 : decode cX8_lay 54 = .ok (.getfield 36, 3) := by decide +kernel
theorem dX8_lay_57 : decode cX8_lay 57 = .ok (.aload_n 0, 1) := by decide +kernel
theorem dX8_lay_58 : decode cX8_lay 58 = .ok (.getfield 51, 3) := by decide +kernel
theorem dX8_lay_61 : decode cX8_lay 61 = .ok (.getfield 135, 3) := by decide +kernel
theorem dX8_lay_64 : decode cX8_lay 64 = .ok (.iload_n 1, 1) := by decide +kernel
theorem dX8_lay_65 : decode cX8_lay 65 = .ok (.iaload, 1) := by decide +kernel
theorem dX8_lay_66 : decode cX8_lay 66 = .ok (.dup2, 1) := by decide +kernel
theorem dX8_lay_67 : decode cX8_lay 67 = .ok (.iaload, 1) := by decide +kernel
theorem dX8_lay_68 : decode cX8_lay 68 = .ok (.iload 4, 2) := by decide +kernel
theorem dX8_lay_70 : decode cX8_lay 70 = .ok (.aload_n 0, 1) := by decide +kernel
theorem dX8_lay_71 : decode cX8_lay 71 = .ok (.getfield 47, 3) := by decide +kernel
theorem dX8_lay_74 : decode cX8_lay 74 = .ok (.getfield 83, 3) := by decide +kernel
theorem dX8_lay_77 : decode cX8_lay 77 = .ok (.getfield 173, 3) := by decide +kernel
theorem dX8_lay_80 : decode cX8_lay 80 = .ok (.iload_n 2, 1) := by decide +kernel
theorem dX8_lay_81 : decode cX8_lay 81 = .ok (.iaload, 1) := by decide +kernel
theorem dX8_lay_82 : decode cX8_lay 82 = .ok (.imul, 1) := by decide +kernel
theorem dX8_lay_83 : decode cX8_lay 83 = .ok (.iadd, 1) := by decide +kernel
theorem dX8_lay_84 : decode cX8_lay 84 = .ok (.iastore, 1) := by decide +kernel
theorem dX8_lay_85 : decode cX8_lay 85 = .ok (.return_, 1) := by decide +kernel
theorem dX8_keepRow_0 : decode cX8_keepRow 0 = .ok (.ldc 103, 2) := by decide +kernel
theorem dX8_keepRow_2 : decode cX8_keepRow 2 = .ok (.istore_n 1, 1) := by decide +kernel
theorem dX8_keepRow_3 : decode cX8_keepRow 3 = .ok (.ldc 104, 2) := by decide +kernel
theorem dX8_keepRow_5 : decode cX8_keepRow 5 = .ok (.istore_n 2, 1) := by decide +kernel
theorem dX8_keepRow_6 : decode cX8_keepRow 6 = .ok (.iconst 0, 1) := by decide +kernel
theorem dX8_keepRow_7 : decode cX8_keepRow 7 = .ok (.istore_n 3, 1) := by decide +kernel
theorem dX8_keepRow_8 : decode cX8_keepRow 8 = .ok (.bipush 9, 2) := by decide +kernel
theorem dX8_keepRow_10 : decode cX8_keepRow 10 = .ok (.istore 4, 2) := by decide +kernel
theorem dX8_keepRow_12 : decode cX8_keepRow 12 = .ok (.iload 4, 2) := by decide +kernel
theorem dX8_keepRow_14 : decode cX8_keepRow 14 = .ok (.ifCond .lt 62, 3) := by decide +kernel
theorem dX8_keepRow_17 : decode cX8_keepRow 17 = .ok (.iload 4, 2) := by decide +kernel
theorem dX8_keepRow_19 : decode cX8_keepRow 19 = .ok (.aload_n 0, 1) := by decide +kernel
theorem dX8_keepRow_20 : decode cX8_keepRow 20 = .ok (.getfield 47, 3) := by decide +kernel
theorem dX8_keepRow_23 : decode cX8_keepRow 23 = .ok (.getfield 105, 3) := by decide +kernel
theorem dX8_keepRow_26 : decode cX8_keepRow 26 = .ok (.getfield 176, 3) := by decide +kernel
theorem dX8_keepRow_29 : decode cX8_keepRow 29 = .ok (.if_icmp .gt 31, 3) := by decide +kernel
theorem dX8_keepRow_32 : decode cX8_keepRow 32 = .ok (.iload_n 1, 1) := by decide +kernel
theorem dX8_keepRow_33 : decode cX8_keepRow 33 = .ok (.aload_n 0, 1) := by decide +kernel
theorem dX8_keepRow_34 : decode cX8_keepRow 34 = .ok (.getfield 21, 3) := by decide +kernel
theorem dX8_keepRow_37 : decode cX8_keepRow 37 = .ok (.iload 4, 2) := by decide +kernel
theorem dX8_keepRow_39 : decode cX8_keepRow 39 = .ok (.iaload, 1) := by decide +kernel
theorem dX8_keepRow_40 : decode cX8_keepRow 40 = .ok (.iload_n 3, 1) := by decide +kernel
theorem dX8_keepRow_41 : decode cX8_keepRow 41 = .ok (.isub, 1) := by decide +kernel
theorem dX8_keepRow_42 : decode cX8_keepRow 42 = .ok (.invokestatic 65, 3) := by decide +kernel
theorem dX8_keepRow_45 : decode cX8_keepRow 45 = .ok (.istore_n 1, 1) := by decide +kernel
theorem dX8_keepRow_46 : decode cX8_keepRow 46 = .ok (.iload_n 2, 1) := by decide +kernel
theorem dX8_keepRow_47 : decode cX8_keepRow 47 = .ok (.aload_n 0, 1) := by decide +kernel
theorem dX8_keepRow_48 : decode cX8_keepRow 48 = .ok (.getfield 24, 3) := by decide +kernel
theorem dX8_keepRow_51 : decode cX8_keepRow 51 = .ok (.iload 4, 2) := by decide +kernel
theorem dX8_keepRow_53 : decode cX8_keepRow 53 = .ok (.iaload, 1) := by decide +kernel
theorem dX8_keepRow_54 : decode cX8_keepRow 54 = .ok (.iload_n 3, 1) := by decide +kernel
theorem dX8_keepRow_55 : decode cX8_keepRow 55 = .ok (.isub, 1) := by decide +kernel
theorem dX8_keepRow_56 : decode cX8_keepRow 56 = .ok (.invokestatic 74, 3) := by decide +kernel
theorem dX8_keepRow_59 : decode cX8_keepRow 59 = .ok (.istore_n 2, 1) := by decide +kernel
theorem dX8_keepRow_60 : decode cX8_keepRow 60 = .ok (.iload_n 3, 1) := by decide +kernel
theorem dX8_keepRow_61 : decode cX8_keepRow 61 = .ok (.aload_n 0, 1) := by decide +kernel
theorem dX8_keepRow_62 : decode cX8_keepRow 62 = .ok (.getfield 36, 3) := by decide +kernel
theorem dX8_keepRow_65 : decode cX8_keepRow 65 = .ok (.iload 4, 2) := by decide +kernel
theorem dX8_keepRow_67 : decode cX8_keepRow 67 = .ok (.iaload, 1) := by decide +kernel
theorem dX8_keepRow_68 : decode cX8_keepRow 68 = .ok (.iadd, 1) := by decide +kernel
theorem dX8_keepRow_69 : decode cX8_keepRow 69 = .ok (.istore_n 3, 1) := by decide +kernel
theorem dX8_keepRow_70 : decode cX8_keepRow 70 = .ok (.iinc 4 (-1), 3) := by decide +kernel
theorem dX8_keepRow_73 : decode cX8_keepRow 73 = .ok (.goto (-61), 3) := by decide +kernel
theorem dX8_keepRow_76 : decode cX8_keepRow 76 = .ok (.aload_n 0, 1) := by decide +kernel
theorem dX8_keepRow_77 : decode cX8_keepRow 77 = .ok (.getfield 47, 3) := by decide +kernel
theorem dX8_keepRow_80 : decode cX8_keepRow 80 = .ok (.getfield 126, 3) := by decide +kernel
theorem dX8_keepRow_83 : decode cX8_keepRow 83 = .ok (.iconst 0, 1) := by decide +kernel
theorem dX8_keepRow_84 : decode cX8_keepRow 84 = .ok (.iaload, 1) := by decide +kernel
theorem dX8_keepRow_85 : decode cX8_keepRow 85 = .ok (.aload_n 0, 1) := by decide +kernel
theorem dX8_keepRow_86 : decode cX8_keepRow 86 = .ok (.getfield 47, 3) := by decide +kernel
theorem dX8_keepRow_89 : decode cX8_keepRow 89 = .ok (.getfield 126, 3) := by decide +kernel
theorem dX8_keepRow_92 : decode cX8_keepRow 92 = .ok (.iconst 1, 1) := by decide +kernel
theorem dX8_keepRow_93 : decode cX8_keepRow 93 = .ok (.iaload, 1) := by decide +kernel
theorem dX8_keepRow_94 : decode cX8_keepRow 94 = .ok (.isub, 1) := by decide +kernel
theorem dX8_keepRow_95 : decode cX8_keepRow 95 = .ok (.istore 4, 2) := by decide +kernel
theorem dX8_keepRow_97 : decode cX8_keepRow 97 = .ok (.aload_n 0, 1) := by decide +kernel
theorem dX8_keepRow_98 : decode cX8_keepRow 98 = .ok (.getfield 71, 3) := by decide +kernel
theorem dX8_keepRow_101 : decode cX8_keepRow 101 = .ok (.istore 5, 2) := by decide +kernel
theorem dX8_keepRow_103 : decode cX8_keepRow 103 = .ok (.aload_n 0, 1) := by decide +kernel
theorem dX8_keepRow_104 : decode cX8_keepRow 104 = .ok (.getfield 77, 3) := by decide +kernel
theorem dX8_keepRow_107 : decode cX8_keepRow 107 = .ok (.istore 6, 2) := by decide +kernel
theorem dX8_keepRow_109 : decode cX8_keepRow 109 = .ok (.iload 4, 2) := by decide +kernel
theorem dX8_keepRow_111 : decode cX8_keepRow 111 = .ok (.ifCond .eq 52, 3) := by decide +kernel
theorem dX8_keepRow_114 : decode cX8_keepRow 114 = .ok (.iload 5, 2) := by decide +kernel
theorem dX8_keepRow_116 : decode cX8_keepRow 116 = .ok (.iload 4, 2) := by decide +kernel
theorem dX8_keepRow_118 : decode cX8_keepRow 118 = .ok (.ifCond .le 7, 3) := by decide +kernel
theorem dX8_keepRow_121 : decode cX8_keepRow 121 = .ok (.iload_n 1, 1) := by decide +kernel
theorem dX8_keepRow_122 : decode cX8_keepRow 122 = .ok (.goto 4, 3) := by decide +kernel
theorem dX8_keepRow_125 : decode cX8_keepRow 125 = .ok (.iload_n 2, 1) := by decide +kernel
theorem dX8_keepRow_126 : decode cX8_keepRow 126 = .ok (.ineg, 1) := by decide +kernel
theorem dX8_keepRow_127 : decode cX8_keepRow 127 = .ok (.iload 4, 2) := by decide +kernel
theorem dX8_keepRow_129 : decode cX8_keepRow 129 = .ok (.invokestatic 179, 3) := by decide +kernel
theorem dX8_keepRow_132 : decode cX8_keepRow 132 = .ok (.ineg, 1) := by decide +kernel
theorem dX8_keepRow_133 : decode cX8_keepRow 133 = .ok (.invokestatic 65, 3) := by decide +kernel
theorem dX8_keepRow_136 : decode cX8_keepRow 136 = .ok (.istore 5, 2) := by decide +kernel
theorem dX8_keepRow_138 : decode cX8_keepRow 138 = .ok (.iload 6, 2) := by decide +kernel
theorem dX8_keepRow_140 : decode cX8_keepRow 140 = .ok (.iload 4, 2) := by decide +kernel
theorem dX8_keepRow_142 : decode cX8_keepRow 142 = .ok (.ifCond .le 7, 3) := by decide +kernel
theorem dX8_keepRow_145 : decode cX8_keepRow 145 = .ok (.iload_n 2, 1) := by decide +kernel
theorem dX8_keepRow_146 : decode cX8_keepRow 146 = .ok (.goto 4, 3) := by decide +kernel
theorem dX8_keepRow_149 : decode cX8_keepRow 149 = .ok (.iload_n 1, 1) := by decide +kernel
theorem dX8_keepRow_150 : decode cX8_keepRow 150 = .ok (.iload 4, 2) := by decide +kernel
theorem dX8_keepRow_152 : decode cX8_keepRow 152 = .ok (.invokestatic 179, 3) := by decide +kernel
theorem dX8_keepRow_155 : decode cX8_keepRow 155 = .ok (.invokestatic 74, 3) := by decide +kernel
theorem dX8_keepRow_158 : decode cX8_keepRow 158 = .ok (.istore 6, 2) := by decide +kernel
theorem dX8_keepRow_160 : decode cX8_keepRow 160 = .ok (.goto 12, 3) := by decide +kernel
theorem dX8_keepRow_163 : decode cX8_keepRow 163 = .ok (.iload_n 1, 1) := by decide +kernel
theorem dX8_keepRow_164 : decode cX8_keepRow 164 = .ok (.ifCond .gt 7, 3) := by decide +kernel
theorem dX8_keepRow_167 : decode cX8_keepRow 167 = .ok (.iload_n 2, 1) := by decide +kernel
theorem dX8_keepRow_168 : decode cX8_keepRow 168 = .ok (.ifCond .ge 4, 3) := by decide +kernel
theorem dX8_keepRow_171 : decode cX8_keepRow 171 = .ok (.return_, 1) := by decide +kernel
theorem dX8_keepRow_172 : decode cX8_keepRow 172 = .ok (.iload 5, 2) := by decide +kernel
theorem dX8_keepRow_174 : decode cX8_keepRow 174 = .ok (.iload 6, 2) := by decide +kernel
theorem dX8_keepRow_176 : decode cX8_keepRow 176 = .ok (.if_icmp .gt 74, 3) := by decide +kernel
theorem dX8_keepRow_179 : decode cX8_keepRow 179 = .ok (.aload_n 0, 1) := by decide +kernel
theorem dX8_keepRow_180 : decode cX8_keepRow 180 = .ok (.getfield 43, 3) := by decide +kernel
theorem dX8_keepRow_183 : decode cX8_keepRow 183 = .ok (.sipush 720, 3) := by decide +kernel
theorem dX8_keepRow_186 : decode cX8_keepRow 186 = .ok (.if_icmp .ge 64, 3) := by decide +kernel
theorem dX8_keepRow_189 : decode cX8_keepRow 189 = .ok (.aload_n 0, 1) := by decide +kernel
theorem dX8_keepRow_190 : decode cX8_keepRow 190 = .ok (.getfield 11, 3) := by decide +kernel
theorem dX8_keepRow_193 : decode cX8_keepRow 193 = .ok (.aload_n 0, 1) := by decide +kernel
theorem dX8_keepRow_194 : decode cX8_keepRow 194 = .ok (.getfield 43, 3) := by decide +kernel
theorem dX8_keepRow_197 : decode cX8_keepRow 197 = .ok (.aload_n 0, 1) := by decide +kernel
theorem dX8_keepRow_198 : decode cX8_keepRow 198 = .ok (.invokevirtual 182, 3) := by decide +kernel
theorem dX8_keepRow_201 : decode cX8_keepRow 201 = .ok (.iastore, 1) := by decide +kernel
theorem dX8_keepRow_202 : decode cX8_keepRow 202 = .ok (.aload_n 0, 1) := by decide +kernel
theorem dX8_keepRow_203 : decode cX8_keepRow 203 = .ok (.getfield 15, 3) := by decide +kernel
theorem dX8_keepRow_206 : decode cX8_keepRow 206 = .ok (.aload_n 0, 1) := by decide +kernel
theorem dX8_keepRow_207 : decode cX8_keepRow 207 = .ok (.getfield 43, 3) := by decide +kernel
theorem dX8_keepRow_210 : decode cX8_keepRow 210 = .ok (.iload 5, 2) := by decide +kernel
theorem dX8_keepRow_212 : decode cX8_keepRow 212 = .ok (.iastore, 1) := by decide +kernel
theorem dX8_keepRow_213 : decode cX8_keepRow 213 = .ok (.aload_n 0, 1) := by decide +kernel
theorem dX8_keepRow_214 : decode cX8_keepRow 214 = .ok (.getfield 18, 3) := by decide +kernel
theorem dX8_keepRow_217 : decode cX8_keepRow 217 = .ok (.aload_n 0, 1) := by decide +kernel
theorem dX8_keepRow_218 : decode cX8_keepRow 218 = .ok (.getfield 43, 3) := by decide +kernel
theorem dX8_keepRow_221 : decode cX8_keepRow 221 = .ok (.aload_n 0, 1) := by decide +kernel
theorem dX8_keepRow_222 : decode cX8_keepRow 222 = .ok (.aload_n 0, 1) := by decide +kernel
theorem dX8_keepRow_223 : decode cX8_keepRow 223 = .ok (.getfield 43, 3) := by decide +kernel
theorem dX8_keepRow_226 : decode cX8_keepRow 226 = .ok (.iconst 1, 1) := by decide +kernel
theorem dX8_keepRow_227 : decode cX8_keepRow 227 = .ok (.isub, 1) := by decide +kernel
theorem dX8_keepRow_228 : decode cX8_keepRow 228 = .ok (.invokevirtual 99, 3) := by decide +kernel
theorem dX8_keepRow_231 : decode cX8_keepRow 231 = .ok (.iload 6, 2) := by decide +kernel
theorem dX8_keepRow_233 : decode cX8_keepRow 233 = .ok (.iadd, 1) := by decide +kernel
theorem dX8_keepRow_234 : decode cX8_keepRow 234 = .ok (.iload 5, 2) := by decide +kernel
theorem dX8_keepRow_236 : decode cX8_keepRow 236 = .ok (.isub, 1) := by decide +kernel
theorem dX8_keepRow_237 : decode cX8_keepRow 237 = .ok (.iconst 1, 1) := by decide +kernel
theorem dX8_keepRow_238 : decode cX8_keepRow 238 = .ok (.iadd, 1) := by decide +kernel
theorem dX8_keepRow_239 : decode cX8_keepRow 239 = .ok (.iastore, 1) := by decide +kernel
theorem dX8_keepRow_240 : decode cX8_keepRow 240 = .ok (.aload_n 0, 1) := by decide +kernel
theorem dX8_keepRow_241 : decode cX8_keepRow 241 = .ok (.dup, 1) := by decide +kernel
theorem dX8_keepRow_242 : decode cX8_keepRow 242 = .ok (.getfield 43, 3) := by decide +kernel
theorem dX8_keepRow_245 : decode cX8_keepRow 245 = .ok (.iconst 1, 1) := by decide +kernel
theorem dX8_keepRow_246 : decode cX8_keepRow 246 = .ok (.iadd, 1) := by decide +kernel
theorem dX8_keepRow_247 : decode cX8_keepRow 247 = .ok (.putfield 43, 3) := by decide +kernel
theorem dX8_keepRow_250 : decode cX8_keepRow 250 = .ok (.return_, 1) := by decide +kernel
theorem dX8_packedPlaces_0 : decode cX8_packedPlaces 0 = .ok (.iconst 0, 1) := by decide +kernel
theorem dX8_packedPlaces_1 : decode cX8_packedPlaces 1 = .ok (.istore_n 1, 1) := by decide +kernel
theorem dX8_packedPlaces_2 : decode cX8_packedPlaces 2 = .ok (.iconst 0, 1) := by decide +kernel
theorem dX8_packedPlaces_3 : decode cX8_packedPlaces 3 = .ok (.istore_n 2, 1) := by decide +kernel
theorem dX8_packedPlaces_4 : decode cX8_packedPlaces 4 = .ok (.iload_n 2, 1) := by decide +kernel
theorem dX8_packedPlaces_5 : decode cX8_packedPlaces 5 = .ok (.aload_n 0, 1) := by decide +kernel
theorem dX8_packedPlaces_6 : decode cX8_packedPlaces 6 = .ok (.getfield 51, 3) := by decide +kernel
theorem dX8_packedPlaces_9 : decode cX8_packedPlaces 9 = .ok (.getfield 80, 3) := by decide +kernel
theorem dX8_packedPlaces_12 : decode cX8_packedPlaces 12 = .ok (.if_icmp .ge 22, 3) := by decide +kernel
theorem dX8_packedPlaces_15 : decode cX8_packedPlaces 15 = .ok (.iload_n 1, 1) := by decide +kernel
theorem dX8_packedPlaces_16 : decode cX8_packedPlaces 16 = .ok (.aload_n 0, 1) := by decide +kernel
theorem dX8_packedPlaces_17 : decode cX8_packedPlaces 17 = .ok (.getfield 27, 3) := by decide +kernel
theorem dX8_packedPlaces_20 : decode cX8_packedPlaces 20 = .ok (.iload_n 2, 1) := by decide +kernel
theorem dX8_packedPlaces_21 : decode cX8_packedPlaces 21 = .ok (.iaload, 1) := by decide +kernel
theorem dX8_packedPlaces_22 : decode cX8_packedPlaces 22 = .ok (.iconst 3, 1) := by decide +kernel
theorem dX8_packedPlaces_23 : decode cX8_packedPlaces 23 = .ok (.iload_n 2, 1) := by decide +kernel
theorem dX8_packedPlaces_24 : decode cX8_packedPlaces 24 = .ok (.imul, 1) := by decide +kernel
theorem dX8_packedPlaces_25 : decode cX8_packedPlaces 25 = .ok (.ishl, 1) := by decide +kernel
theorem dX8_packedPlaces_26 : decode cX8_packedPlaces 26 = .ok (.ior, 1) := by decide +kernel
theorem dX8_packedPlaces_27 : decode cX8_packedPlaces 27 = .ok (.istore_n 1, 1) := by decide +kernel
theorem dX8_packedPlaces_28 : decode cX8_packedPlaces 28 = .ok (.iinc 2 1, 3) := by decide +kernel
theorem dX8_packedPlaces_31 : decode cX8_packedPlaces 31 = .ok (.goto (-27), 3) := by decide +kernel
theorem dX8_packedPlaces_34 : decode cX8_packedPlaces 34 = .ok (.iload_n 1, 1) := by decide +kernel
theorem dX8_packedPlaces_35 : decode cX8_packedPlaces 35 = .ok (.ireturn, 1) := by decide +kernel
theorem dX9_init_0 : decode cX9_init 0 = .ok (.aload_n 0, 1) := by decide +kernel
theorem dX9_init_1 : decode cX9_init 1 = .ok (.invokespecial 3, 3) := by decide +kernel
theorem dX9_init_4 : decode cX9_init 4 = .ok (.aload_n 0, 1) := by decide +kernel
theorem dX9_init_5 : decode cX9_init 5 = .ok (.sipush 540, 3) := by decide +kernel
theorem dX9_init_8 : decode cX9_init 8 = .ok (.newarray .int, 2) := by decide +kernel
theorem dX9_init_10 : decode cX9_init 10 = .ok (.putfield 9, 3) := by decide +kernel
theorem dX9_init_13 : decode cX9_init 13 = .ok (.return_, 1) := by decide +kernel
theorem dX9_addBytes_0 : decode cX9_addBytes 0 = .ok (.bipush 24, 2) := by decide +kernel
theorem dX9_addBytes_2 : decode cX9_addBytes 2 = .ok (.istore_n 2, 1) := by decide +kernel
theorem dX9_addBytes_3 : decode cX9_addBytes 3 = .ok (.iload_n 2, 1) := by decide +kernel
theorem dX9_addBytes_4 : decode cX9_addBytes 4 = .ok (.ifCond .lt 47, 3) := by decide +kernel
theorem dX9_addBytes_7 : decode cX9_addBytes 7 = .ok (.aload_n 0, 1) := by decide +kernel
theorem dX9_addBytes_8 : decode cX9_addBytes 8 = .ok (.getfield 15, 3) := by decide +kernel
theorem dX9_addBytes_11 : decode cX9_addBytes 11 = .ok (.aload_n 0, 1) := by decide +kernel
theorem dX9_addBytes_12 : decode cX9_addBytes 12 = .ok (.getfield 9, 3) := by decide +kernel
theorem dX9_addBytes_15 : decode cX9_addBytes 15 = .ok (.arraylength, 1) := by decide +kernel
theorem dX9_addBytes_16 : decode cX9_addBytes 16 = .ok (.if_icmp .ge 29, 3) := by decide +kernel
theorem dX9_addBytes_19 : decode cX9_addBytes 19 = .ok (.aload_n 0, 1) := by decide +kernel
theorem dX9_addBytes_20 : decode cX9_addBytes 20 = .ok (.getfield 9, 3) := by decide +kernel
theorem dX9_addBytes_23 : decode cX9_addBytes 23 = .ok (.aload_n 0, 1) := by decide +kernel
theorem dX9_addBytes_24 : decode cX9_addBytes 24 = .ok (.getfield 15, 3) := by decide +kernel
theorem dX9_addBytes_27 : decode cX9_addBytes 27 = .ok (.iload_n 1, 1) := by decide +kernel
theorem dX9_addBytes_28 : decode cX9_addBytes 28 = .ok (.iload_n 2, 1) := by decide +kernel
theorem dX9_addBytes_29 : decode cX9_addBytes 29 = .ok (.iushr, 1) := by decide +kernel
theorem dX9_addBytes_30 : decode cX9_addBytes 30 = .ok (.sipush 255, 3) := by decide +kernel
theorem dX9_addBytes_33 : decode cX9_addBytes 33 = .ok (.iand, 1) := by decide +kernel
theorem dX9_addBytes_34 : decode cX9_addBytes 34 = .ok (.iastore, 1) := by decide +kernel
theorem dX9_addBytes_35 : decode cX9_addBytes 35 = .ok (.aload_n 0, 1) := by decide +kernel
theorem dX9_addBytes_36 : decode cX9_addBytes 36 = .ok (.dup, 1) := by decide +kernel
theorem dX9_addBytes_37 : decode cX9_addBytes 37 = .ok (.getfield 15, 3) := by decide +kernel
theorem dX9_addBytes_40 : decode cX9_addBytes 40 = .ok (.iconst 1, 1) := by decide +kernel
theorem dX9_addBytes_41 : decode cX9_addBytes 41 = .ok (.iadd, 1) := by decide +kernel
theorem dX9_addBytes_42 : decode cX9_addBytes 42 = .ok (.putfield 15, 3) := by decide +kernel
theorem dX9_addBytes_45 : decode cX9_addBytes 45 = .ok (.iinc 2 (-8), 3) := by decide +kernel
theorem dX9_addBytes_48 : decode cX9_addBytes 48 = .ok (.goto (-45), 3) := by decide +kernel
theorem dX9_addBytes_51 : decode cX9_addBytes 51 = .ok (.return_, 1) := by decide +kernel
theorem dX9_begin_0 : decode cX9_begin 0 = .ok (.aload_n 0, 1) := by decide +kernel
theorem dX9_begin_1 : decode cX9_begin 1 = .ok (.iconst 0, 1) := by decide +kernel
theorem dX9_begin_2 : decode cX9_begin 2 = .ok (.putfield 19, 3) := by decide +kernel
theorem dX9_begin_5 : decode cX9_begin 5 = .ok (.aload_n 0, 1) := by decide +kernel
theorem dX9_begin_6 : decode cX9_begin 6 = .ok (.iconst 0, 1) := by decide +kernel
theorem dX9_begin_7 : decode cX9_begin 7 = .ok (.putfield 22, 3) := by decide +kernel
theorem dX9_begin_10 : decode cX9_begin 10 = .ok (.aload_n 0, 1) := by decide +kernel
theorem dX9_begin_11 : decode cX9_begin 11 = .ok (.iconst 0, 1) := by decide +kernel
theorem dX9_begin_12 : decode cX9_begin 12 = .ok (.putfield 25, 3) := by decide +kernel
theorem dX9_begin_15 : decode cX9_begin 15 = .ok (.aload_n 0, 1) := by decide +kernel
theorem dX9_begin_16 : decode cX9_begin 16 = .ok (.iconst 0, 1) := by decide +kernel
theorem dX9_begin_17 : decode cX9_begin 17 = .ok (.putfield 28, 3) := by decide +kernel
theorem dX9_begin_20 : decode cX9_begin 20 = .ok (.aload_n 0, 1) := by decide +kernel
theorem dX9_begin_21 : decode cX9_begin 21 = .ok (.iconst 0, 1) := by decide +kernel
theorem dX9_begin_22 : decode cX9_begin 22 = .ok (.putfield 31, 3) := by decide +kernel
theorem dX9_begin_25 : decode cX9_begin 25 = .ok (.aload_n 0, 1) := by decide +kernel
theorem dX9_begin_26 : decode cX9_begin 26 = .ok (.getfield 15, 3) := by decide +kernel
theorem dX9_begin_29 : decode cX9_begin 29 = .ok (.iload_n 1, 1) := by decide +kernel
theorem dX9_begin_30 : decode cX9_begin 30 = .ok (.if_icmp .le 13, 3) := by decide +kernel
theorem dX9_begin_33 : decode cX9_begin 33 = .ok (.aload_n 0, 1) := by decide +kernel
theorem dX9_begin_34 : decode cX9_begin 34 = .ok (.iload_n 1, 1) := by decide +kernel
theorem dX9_begin_35 : decode cX9_begin 35 = .ok (.putfield 19, 3) := by decide +kernel
theorem dX9_begin_38 : decode cX9_begin 38 = .ok (.aload_n 0, 1) := by decide +kernel
theorem dX9_begin_39 : decode cX9_begin 39 = .ok (.iconst 1, 1) := by decide +kernel
theorem dX9_begin_40 : decode cX9_begin 40 = .ok (.invokevirtual 34, 3) := by decide +kernel
theorem dX9_begin_43 : decode cX9_begin 43 = .ok (.return_, 1) := by decide +kernel
theorem dX9_fail_0 : decode cX9_fail 0 = .ok (.aload_n 0, 1) := by decide +kernel
theorem dX9_fail_1 : decode cX9_fail 1 = .ok (.getfield 28, 3) := by decide +kernel
theorem dX9_fail_4 : decode cX9_fail 4 = .ok (.ifCond .ne 16, 3) := by decide +kernel
theorem dX9_fail_7 : decode cX9_fail 7 = .ok (.aload_n 0, 1) := by decide +kernel
theorem dX9_fail_8 : decode cX9_fail 8 = .ok (.iload_n 1, 1) := by decide +kernel
theorem dX9_fail_9 : decode cX9_fail 9 = .ok (.putfield 28, 3) := by decide +kernel
theorem dX9_fail_12 : decode cX9_fail 12 = .ok (.aload_n 0, 1) := by decide +kernel
theorem dX9_fail_13 : decode cX9_fail 13 = .ok (.aload_n 0, 1) := by decide +kernel
theorem dX9_fail_14 : decode cX9_fail 14 = .ok (.getfield 19, 3) := by decide +kernel
theorem dX9_fail_17 : decode cX9_fail 17 = .ok (.putfield 31, 3) := by decide +kernel
theorem dX9_fail_20 : decode cX9_fail 20 = .ok (.return_, 1) := by decide +kernel
theorem dX9_next_0 : decode cX9_next 0 = .ok (.aload_n 0, 1) := by decide +kernel
theorem dX9_next_1 : decode cX9_next 1 = .ok (.getfield 28, 3) := by decide +kernel
theorem dX9_next_4 : decode cX9_next 4 = .ok (.ifCond .eq 4, 3) := by decide +kernel
theorem dX9_next_7 : decode cX9_next 7 = .ok (.return_, 1) := by decide +kernel
theorem dX9_next_8 : decode cX9_next 8 = .ok (.aload_n 0, 1) := by decide +kernel
theorem dX9_next_9 : decode cX9_next 9 = .ok (.aload_n 0, 1) := by decide +kernel
theorem dX9_next_10 : decode cX9_next 10 = .ok (.getfield 22, 3) := by decide +kernel
theorem dX9_next_13 : decode cX9_next 13 = .ok (.putfield 19, 3) := by decide +kernel
theorem dX9_next_16 : decode cX9_next 16 = .ok (.aload_n 0, 1) := by decide +kernel
theorem dX9_next_17 : decode cX9_next 17 = .ok (.getfield 19, 3) := by decide +kernel
theorem dX9_next_20 : decode cX9_next 20 = .ok (.aload_n 0, 1) := by decide +kernel
theorem dX9_next_21 : decode cX9_next 21 = .ok (.getfield 15, 3) := by decide +kernel
theorem dX9_next_24 : decode cX9_next 24 = .ok (.if_icmp .ge 30, 3) := by decide +kernel
theorem dX9_next_27 : decode cX9_next 27 = .ok (.aload_n 0, 1) := by decide +kernel
theorem dX9_next_28 : decode cX9_next 28 = .ok (.getfield 9, 3) := by decide +kernel
theorem dX9_next_31 : decode cX9_next 31 = .ok (.aload_n 0, 1) := by decide +kernel
theorem dX9_next_32 : decode cX9_next 32 = .ok (.getfield 19, 3) := by decide +kernel
theorem dX9_next_35 : decode cX9_next 35 = .ok (.iaload, 1) := by decide +kernel
theorem dX9_next_36 : decode cX9_next 36 = .ok (.bipush 32, 2) := by decide +kernel
theorem dX9_next_38 : decode cX9_next 38 = .ok (.if_icmp .ne 16, 3) := by decide +kernel
theorem dX9_next_41 : decode cX9_next 41 = .ok (.aload_n 0, 1) := by decide +kernel
theorem dX9_next_42 : decode cX9_next 42 = .ok (.dup, 1) := by decide +kernel
theorem dX9_next_43 : decode cX9_next 43 = .ok (.getfield 19, 3) := by decide +kernel
theorem dX9_next_46 : decode cX9_next 46 = .ok (.iconst 1, 1) := by decide +kernel
theorem dX9_next_47 : decode cX9_next 47 = .ok (.iadd, 1) := by decide +kernel
theorem dX9_next_48 : decode cX9_next 48 = .ok (.putfield 19, 3) := by decide +kernel
theorem dX9_next_51 : decode cX9_next 51 = .ok (.goto (-35), 3) := by decide +kernel
theorem dX9_next_54 : decode cX9_next 54 = .ok (.aload_n 0, 1) := by decide +kernel
theorem dX9_next_55 : decode cX9_next 55 = .ok (.aload_n 0, 1) := by decide +kernel
theorem dX9_next_56 : decode cX9_next 56 = .ok (.getfield 19, 3) := by decide +kernel
theorem dX9_next_59 : decode cX9_next 59 = .ok (.putfield 22, 3) := by decide +kernel
theorem dX9_next_62 : decode cX9_next 62 = .ok (.aload_n 0, 1) := by decide +kernel
theorem dX9_next_63 : decode cX9_next 63 = .ok (.getfield 19, 3) := by decide +kernel
theorem dX9_next_66 : decode cX9_next 66 = .ok (.aload_n 0, 1) := by decide +kernel
theorem dX9_next_67 : decode cX9_next 67 = .ok (.getfield 15, 3) := by decide +kernel
theorem dX9_next_70 : decode cX9_next 70 = .ok (.if_icmp .lt 9, 3) := by decide +kernel
theorem dX9_next_73 : decode cX9_next 73 = .ok (.aload_n 0, 1) := by decide +kernel
theorem dX9_next_74 : decode cX9_next 74 = .ok (.iconst 0, 1) := by decide +kernel
theorem dX9_next_75 : decode cX9_next 75 = .ok (.putfield 25, 3) := by decide +kernel
theorem dX9_next_78 : decode cX9_next 78 = .ok (.return_, 1) := by decide +kernel
theorem dX9_next_79 : decode cX9_next 79 = .ok (.aload_n 0, 1) := by decide +kernel
theorem dX9_next_80 : decode cX9_next 80 = .ok (.getfield 9, 3) := by decide +kernel
theorem dX9_next_83 : decode cX9_next 83 = .ok (.aload_n 0, 1) := by decide +kernel
theorem dX9_next_84 : decode cX9_next 84 = .ok (.getfield 19, 3) := by decide +kernel
theorem dX9_next_87 : decode cX9_next 87 = .ok (.iaload, 1) := by decide +kernel
theorem dX9_next_88 : decode cX9_next 88 = .ok (.bipush 59, 2) := by decide +kernel
theorem dX9_next_90 : decode cX9_next 90 = .ok (.if_icmp .ne 19, 3) := by decide +kernel
theorem dX9_next_93 : decode cX9_next 93 = .ok (.aload_n 0, 1) := by decide +kernel
theorem dX9_next_94 : decode cX9_next 94 = .ok (.aload_n 0, 1) := by decide +kernel
theorem dX9_next_95 : decode cX9_next 95 = .ok (.getfield 19, 3) := by decide +kernel
theorem dX9_next_98 : decode cX9_next 98 = .ok (.iconst 1, 1) := by decide +kernel
theorem dX9_next_99 : decode cX9_next 99 = .ok (.iadd, 1) := by decide +kernel
theorem dX9_next_100 : decode cX9_next 100 = .ok (.putfield 22, 3) := by decide +kernel
theorem dX9_next_103 : decode cX9_next 103 = .ok (.aload_n 0, 1) := by decide +kernel
theorem dX9_next_104 : decode cX9_next 104 = .ok (.iconst 3, 1) := by decide +kernel
theorem dX9_next_105 : decode cX9_next 105 = .ok (.putfield 25, 3) := by decide +kernel
theorem dX9_next_108 : decode cX9_next 108 = .ok (.return_, 1) := by decide +kernel
theorem dX9_next_109 : decode cX9_next 109 = .ok (.iconst 0, 1) := by decide +kernel
theorem dX9_next_110 : decode cX9_next 110 = .ok (.istore_n 1, 1) := by decide +kernel
theorem dX9_next_111 : decode cX9_next 111 = .ok (.aload_n 0, 1) := by decide +kernel
theorem dX9_next_112 : decode cX9_next 112 = .ok (.aload_n 0, 1) := by decide +kernel
theorem dX9_next_113 : decode cX9_next 113 = .ok (.getfield 19, 3) := by decide +kernel
theorem dX9_next_116 : decode cX9_next 116 = .ok (.putfield 22, 3) := by decide +kernel
theorem dX9_next_119 : decode cX9_next 119 = .ok (.aload_n 0, 1) := by decide +kernel
theorem dX9_next_120 : decode cX9_next 120 = .ok (.getfield 22, 3) := by decide +kernel
theorem dX9_next_123 : decode cX9_next 123 = .ok (.aload_n 0, 1) := by decide +kernel
theorem dX9_next_124 : decode cX9_next 124 = .ok (.getfield 15, 3) := by decide +kernel
theorem dX9_next_127 : decode cX9_next 127 = .ok (.if_icmp .ge 69, 3) := by decide +kernel
theorem dX9_next_130 : decode cX9_next 130 = .ok (.aload_n 0, 1) := by decide +kernel
theorem dX9_next_131 : decode cX9_next 131 = .ok (.getfield 9, 3) := by decide +kernel
theorem dX9_next_134 : decode cX9_next 134 = .ok (.aload_n 0, 1) := by decide +kernel
theorem dX9_next_135 : decode cX9_next 135 = .ok (.getfield 22, 3) := by decide +kernel
theorem dX9_next_138 : decode cX9_next 138 = .ok (.iaload, 1) := by decide +kernel
theorem dX9_next_139 : decode cX9_next 139 = .ok (.invokestatic 38, 3) := by decide +kernel
theorem dX9_next_142 : decode cX9_next 142 = .ok (.ifCond .ne 18, 3) := by decide +kernel
theorem dX9_next_145 : decode cX9_next 145 = .ok (.aload_n 0, 1) := by decide +kernel
theorem dX9_next_146 : decode cX9_next 146 = .ok (.getfield 9, 3) := by decide +kernel
theorem dX9_next_149 : decode cX9_next 149 = .ok (.aload_n 0, 1) := by decide +kernel
theorem dX9_next_150 : decode cX9_next 150 = .ok (.getfield 22, 3) := by decide +kernel
theorem dX9_next_153 : decode cX9_next 153 = .ok (.iaload, 1) := by decide +kernel
theorem dX9_next_154 : decode cX9_next 154 = .ok (.invokestatic 42, 3) := by decide +kernel
theorem dX9_next_157 : decode cX9_next 157 = .ok (.ifCond .eq 39, 3) := by decide +kernel
theorem dX9_next_160 : decode cX9_next 160 = .ok (.iload_n 1, 1) := by decide +kernel
theorem dX9_next_161 : decode cX9_next 161 = .ok (.aload_n 0, 1) := by decide +kernel
theorem dX9_next_162 : decode cX9_next 162 = .ok (.getfield 9, 3) := by decide +kernel
theorem dX9_next_165 : decode cX9_next 165 = .ok (.aload_n 0, 1) := by decide +kernel
theorem dX9_next_166 : decode cX9_next 166 = .ok (.getfield 22, 3) := by decide +kernel
theorem dX9_next_169 : decode cX9_next 169 = .ok (.iaload, 1) := by decide +kernel
theorem dX9_next_170 : decode cX9_next 170 = .ok (.invokestatic 42, 3) := by decide +kernel
theorem dX9_next_173 : decode cX9_next 173 = .ok (.ifCond .eq 7, 3) := by decide +kernel
theorem dX9_next_176 : decode cX9_next 176 = .ok (.iconst 1, 1) := by decide +kernel
theorem dX9_next_177 : decode cX9_next 177 = .ok (.goto 4, 3) := by decide +kernel
theorem dX9_next_180 : decode cX9_next 180 = .ok (.iconst 0, 1) := by decide +kernel
theorem dX9_next_181 : decode cX9_next 181 = .ok (.iadd, 1) := by decide +kernel
theorem dX9_next_182 : decode cX9_next 182 = .ok (.istore_n 1, 1) := by decide +kernel
theorem dX9_next_183 : decode cX9_next 183 = .ok (.aload_n 0, 1) := by decide +kernel
theorem dX9_next_184 : decode cX9_next 184 = .ok (.dup, 1) := by decide +kernel
theorem dX9_next_185 : decode cX9_next 185 = .ok (.getfield 22, 3) := by decide +kernel
theorem dX9_next_188 : decode cX9_next 188 = .ok (.iconst 1, 1) := by decide +kernel
theorem dX9_next_189 : decode cX9_next 189 = .ok (.iadd, 1) := by decide +kernel
theorem dX9_next_190 : decode cX9_next 190 = .ok (.putfield 22, 3) := by decide +kernel
theorem dX9_next_193 : decode cX9_next 193 = .ok (.goto (-74), 3) := by decide +kernel
theorem dX9_next_196 : decode cX9_next 196 = .ok (.aload_n 0, 1) := by decide +kernel
theorem dX9_next_197 : decode cX9_next 197 = .ok (.aload_n 0, 1) := by decide +kernel
theorem dX9_next_198 : decode cX9_next 198 = .ok (.getfield 22, 3) := by decide +kernel
theorem dX9_next_201 : decode cX9_next 201 = .ok (.aload_n 0, 1) := by decide +kernel
theorem dX9_next_202 : decode cX9_next 202 = .ok (.getfield 19, 3) := by decide +kernel
theorem dX9_next_205 : decode cX9_next 205 = .ok (.isub, 1) := by decide +kernel
theorem dX9_next_206 : decode cX9_next 206 = .ok (.iload_n 1, 1) := by decide +kernel
theorem dX9_next_207 : decode cX9_next 207 = .ok (.invokestatic 45, 3) := by decide +kernel
theorem dX9_next_210 : decode cX9_next 210 = .ok (.putfield 25, 3) := by decide +kernel
theorem dX9_next_213 : decode cX9_next 213 = .ok (.return_, 1) := by decide +kernel
theorem dX9_number_0 : decode cX9_number 0 = .ok (.aload_n 0, 1) := by decide +kernel
theorem dX9_number_1 : decode cX9_number 1 = .ok (.invokevirtual 49, 3) := by decide +kernel
theorem dX9_number_4 : decode cX9_number 4 = .ok (.aload_n 0, 1) := by decide +kernel
theorem dX9_number_5 : decode cX9_number 5 = .ok (.getfield 28, 3) := by decide +kernel
theorem dX9_number_8 : decode cX9_number 8 = .ok (.ifCond .eq 5, 3) := by decide +kernel
theorem dX9_number_11 : decode cX9_number 11 = .ok (.iconst 0, 1) := by decide +kernel
theorem dX9_number_12 : decode cX9_number 12 = .ok (.ireturn, 1) := by decide +kernel
theorem dX9_number_13 : decode cX9_number 13 = .ok (.aload_n 0, 1) := by decide +kernel
theorem dX9_number_14 : decode cX9_number 14 = .ok (.getfield 25, 3) := by decide +kernel
theorem dX9_number_17 : decode cX9_number 17 = .ok (.iconst 2, 1) := by decide +kernel
theorem dX9_number_18 : decode cX9_number 18 = .ok (.if_icmp .eq 10, 3) := by decide +kernel
theorem dX9_number_21 : decode cX9_number 21 = .ok (.aload_n 0, 1) := by decide +kernel
theorem dX9_number_22 : decode cX9_number 22 = .ok (.iconst 1, 1) := by decide +kernel
theorem dX9_number_23 : decode cX9_number 23 = .ok (.invokevirtual 34, 3) := by decide +kernel
theorem dX9_number_26 : decode cX9_number 26 = .ok (.iconst 0, 1) := by decide +kernel
theorem dX9_number_27 : decode cX9_number 27 = .ok (.ireturn, 1) := by decide +kernel
theorem dX9_number_28 : decode cX9_number 28 = .ok (.iconst 0, 1) := by decide +kernel
theorem dX9_number_29 : decode cX9_number 29 = .ok (.istore_n 3, 1) := by decide +kernel
theorem dX9_number_30 : decode cX9_number 30 = .ok (.aload_n 0, 1) := by decide +kernel
theorem dX9_number_31 : decode cX9_number 31 = .ok (.getfield 19, 3) := by decide +kernel
theorem dX9_number_34 : decode cX9_number 34 = .ok (.istore 4, 2) := by decide +kernel
theorem dX9_number_36 : decode cX9_number 36 = .ok (.iload 4, 2) := by decide +kernel
theorem dX9_number_38 : decode cX9_number 38 = .ok (.aload_n 0, 1) := by decide +kernel
theorem dX9_number_39 : decode cX9_number 39 = .ok (.getfield 22, 3) := by decide +kernel
theorem dX9_number_42 : decode cX9_number 42 = .ok (.if_icmp .ge 25, 3) := by decide +kernel
theorem dX9_number_45 : decode cX9_number 45 = .ok (.iload_n 3, 1) := by decide +kernel
theorem dX9_number_46 : decode cX9_number 46 = .ok (.bipush 10, 2) := by decide +kernel
theorem dX9_number_48 : decode cX9_number 48 = .ok (.imul, 1) := by decide +kernel
theorem dX9_number_49 : decode cX9_number 49 = .ok (.aload_n 0, 1) := by decide +kernel
theorem dX9_number_50 : decode cX9_number 50 = .ok (.getfield 9, 3) := by decide +kernel
theorem dX9_number_53 : decode cX9_number 53 = .ok (.iload 4, 2) := by decide +kernel
theorem dX9_number_55 : decode cX9_number 55 = .ok (.iaload, 1) := by decide +kernel
theorem dX9_number_56 : decode cX9_number 56 = .ok (.iadd, 1) := by decide +kernel
theorem dX9_number_57 : decode cX9_number 57 = .ok (.bipush 48, 2) := by decide +kernel
theorem dX9_number_59 : decode cX9_number 59 = .ok (.isub, 1) := by decide +kernel
theorem dX9_number_60 : decode cX9_number 60 = .ok (.istore_n 3, 1) := by decide +kernel
theorem dX9_number_61 : decode cX9_number 61 = .ok (.iinc 4 1, 3) := by decide +kernel
theorem dX9_number_64 : decode cX9_number 64 = .ok (.goto (-28), 3) := by decide +kernel
theorem dX9_number_67 : decode cX9_number 67 = .ok (.iload_n 3, 1) := by decide +kernel
theorem dX9_number_68 : decode cX9_number 68 = .ok (.iload_n 1, 1) := by decide +kernel
theorem dX9_number_69 : decode cX9_number 69 = .ok (.if_icmp .lt 8, 3) := by decide +kernel
theorem dX9_number_72 : decode cX9_number 72 = .ok (.iload_n 3, 1) := by decide +kernel
theorem dX9_number_73 : decode cX9_number 73 = .ok (.iload_n 2, 1) := by decide +kernel
theorem dX9_number_74 : decode cX9_number 74 = .ok (.if_icmp .le 8, 3) := by decide +kernel
theorem dX9_number_77 : decode cX9_number 77 = .ok (.aload_n 0, 1) := by decide +kernel
theorem dX9_number_78 : decode cX9_number 78 = .ok (.iconst 2, 1) := by decide +kernel
theorem dX9_number_79 : decode cX9_number 79 = .ok (.invokevirtual 34, 3) := by decide +kernel
theorem dX9_number_82 : decode cX9_number 82 = .ok (.iload_n 3, 1) := by decide +kernel
theorem dX9_number_83 : decode cX9_number 83 = .ok (.ireturn, 1) := by decide +kernel
theorem dX9_newWord_0 : decode cX9_newWord 0 = .ok (.aload_n 0, 1) := by decide +kernel
theorem dX9_newWord_1 : decode cX9_newWord 1 = .ok (.invokevirtual 49, 3) := by decide +kernel
theorem dX9_newWord_4 : decode cX9_newWord 4 = .ok (.aload_n 0, 1) := by decide +kernel
theorem dX9_newWord_5 : decode cX9_newWord 5 = .ok (.getfield 28, 3) := by decide +kernel
theorem dX9_newWord_8 : decode cX9_newWord 8 = .ok (.ifCond .eq 5, 3) := by decide +kernel
theorem dX9_newWord_11 : decode cX9_newWord 11 = .ok (.lconst 0, 1) := by decide +kernel
theorem dX9_newWord_12 : decode cX9_newWord 12 = .ok (.lreturn, 1) := by decide +kernel
theorem dX9_newWord_13 : decode cX9_newWord 13 = .ok (.aload_n 0, 1) := by decide +kernel
theorem dX9_newWord_14 : decode cX9_newWord 14 = .ok (.getfield 25, 3) := by decide +kernel
theorem dX9_newWord_17 : decode cX9_newWord 17 = .ok (.iconst 1, 1) := by decide +kernel
theorem dX9_newWord_18 : decode cX9_newWord 18 = .ok (.if_icmp .ne 10, 3) := by decide +kernel
theorem dX9_newWord_21 : decode cX9_newWord 21 = .ok (.aload_n 0, 1) := by decide +kernel
theorem dX9_newWord_22 : decode cX9_newWord 22 = .ok (.invokevirtual 52, 3) := by decide +kernel
theorem dX9_newWord_25 : decode cX9_newWord 25 = .ok (.ifCond .eq 8, 3) := by decide +kernel
theorem dX9_newWord_28 : decode cX9_newWord 28 = .ok (.aload_n 0, 1) := by decide +kernel
theorem dX9_newWord_29 : decode cX9_newWord 29 = .ok (.iconst 1, 1) := by decide +kernel
theorem dX9_newWord_30 : decode cX9_newWord 30 = .ok (.invokevirtual 34, 3) := by decide +kernel
theorem dX9_newWord_33 : decode cX9_newWord 33 = .ok (.aload_n 0, 1) := by decide +kernel
theorem dX9_newWord_34 : decode cX9_newWord 34 = .ok (.aload_n 0, 1) := by decide +kernel
theorem dX9_newWord_35 : decode cX9_newWord 35 = .ok (.getfield 19, 3) := by decide +kernel
theorem dX9_newWord_38 : decode cX9_newWord 38 = .ok (.aload_n 0, 1) := by decide +kernel
theorem dX9_newWord_39 : decode cX9_newWord 39 = .ok (.getfield 22, 3) := by decide +kernel
theorem dX9_newWord_42 : decode cX9_newWord 42 = .ok (.invokevirtual 56, 3) := by decide +kernel
theorem dX9_newWord_45 : decode cX9_newWord 45 = .ok (.lreturn, 1) := by decide +kernel
theorem dX9_lineEnd_0 : decode cX9_lineEnd 0 = .ok (.aload_n 0, 1) := by decide +kernel
theorem dX9_lineEnd_1 : decode cX9_lineEnd 1 = .ok (.invokevirtual 49, 3) := by decide +kernel
theorem dX9_lineEnd_4 : decode cX9_lineEnd 4 = .ok (.aload_n 0, 1) := by decide +kernel
theorem dX9_lineEnd_5 : decode cX9_lineEnd 5 = .ok (.getfield 25, 3) := by decide +kernel
theorem dX9_lineEnd_8 : decode cX9_lineEnd 8 = .ok (.iconst 3, 1) := by decide +kernel
theorem dX9_lineEnd_9 : decode cX9_lineEnd 9 = .ok (.if_icmp .eq 8, 3) := by decide +kernel
theorem dX9_lineEnd_12 : decode cX9_lineEnd 12 = .ok (.aload_n 0, 1) := by decide +kernel
theorem dX9_lineEnd_13 : decode cX9_lineEnd 13 = .ok (.iconst 1, 1) := by decide +kernel
theorem dX9_lineEnd_14 : decode cX9_lineEnd 14 = .ok (.invokevirtual 34, 3) := by decide +kernel
theorem dX9_lineEnd_17 : decode cX9_lineEnd 17 = .ok (.return_, 1) := by decide +kernel
theorem dX9_tells_0 : decode cX9_tells 0 = .ok (.aload_n 0, 1) := by decide +kernel
theorem dX9_tells_1 : decode cX9_tells 1 = .ok (.getfield 28, 3) := by decide +kernel
theorem dX9_tells_4 : decode cX9_tells 4 = .ok (.ifCond .ne 27, 3) := by decide +kernel
theorem dX9_tells_7 : decode cX9_tells 7 = .ok (.aload_n 0, 1) := by decide +kernel
theorem dX9_tells_8 : decode cX9_tells 8 = .ok (.getfield 25, 3) := by decide +kernel
theorem dX9_tells_11 : decode cX9_tells 11 = .ok (.iconst 1, 1) := by decide +kernel
theorem dX9_tells_12 : decode cX9_tells 12 = .ok (.if_icmp .ne 19, 3) := by decide +kernel
theorem dX9_tells_15 : decode cX9_tells 15 = .ok (.aload_n 0, 1) := by decide +kernel
theorem dX9_tells_16 : decode cX9_tells 16 = .ok (.getfield 22, 3) := by decide +kernel
theorem dX9_tells_19 : decode cX9_tells 19 = .ok (.aload_n 0, 1) := by decide +kernel
theorem dX9_tells_20 : decode cX9_tells 20 = .ok (.getfield 19, 3) := by decide +kernel
theorem dX9_tells_23 : decode cX9_tells 23 = .ok (.isub, 1) := by decide +kernel
theorem dX9_tells_24 : decode cX9_tells 24 = .ok (.aload_n 1, 1) := by decide +kernel
theorem dX9_tells_25 : decode cX9_tells 25 = .ok (.invokevirtual 60, 3) := by decide +kernel
theorem dX9_tells_28 : decode cX9_tells 28 = .ok (.if_icmp .eq 5, 3) := by decide +kernel
theorem dX9_tells_31 : decode cX9_tells 31 = .ok (.iconst 0, 1) := by decide +kernel
theorem dX9_tells_32 : decode cX9_tells 32 = .ok (.ireturn, 1) := by decide +kernel
theorem dX9_tells_33 : decode cX9_tells 33 = .ok (.iconst 0, 1) := by decide +kernel
theorem dX9_tells_34 : decode cX9_tells 34 = .ok (.istore_n 2, 1) := by decide +kernel
theorem dX9_tells_35 : decode cX9_tells 35 = .ok (.iload_n 2, 1) := by decide +kernel
theorem dX9_tells_36 : decode cX9_tells 36 = .ok (.aload_n 1, 1) := by decide +kernel
theorem dX9_tells_37 : decode cX9_tells 37 = .ok (.invokevirtual 60, 3) := by decide +kernel
theorem dX9_tells_40 : decode cX9_tells 40 = .ok (.if_icmp .ge 30, 3) := by decide +kernel
theorem dX9_tells_43 : decode cX9_tells 43 = .ok (.aload_n 0, 1) := by decide +kernel
theorem dX9_tells_44 : decode cX9_tells 44 = .ok (.getfield 9, 3) := by decide +kernel
theorem dX9_tells_47 : decode cX9_tells 47 = .ok (.aload_n 0, 1) := by decide +kernel
theorem dX9_tells_48 : decode cX9_tells 48 = .ok (.getfield 19, 3) := by decide +kernel
theorem dX9_tells_51 : decode cX9_tells 51 = .ok (.iload_n 2, 1) := by decide +kernel
theorem dX9_tells_52 : decode cX9_tells 52 = .ok (.iadd, 1) := by decide +kernel
theorem dX9_tells_53 : decode cX9_tells 53 = .ok (.iaload, 1) := by decide +kernel
theorem dX9_tells_54 : decode cX9_tells 54 = .ok (.aload_n 1, 1) := by decide +kernel
theorem dX9_tells_55 : decode cX9_tells 55 = .ok (.iload_n 2, 1) := by decide +kernel
theorem dX9_tells_56 : decode cX9_tells 56 = .ok (.invokevirtual 65, 3) := by decide +kernel
theorem dX9_tells_59 : decode cX9_tells 59 = .ok (.if_icmp .eq 5, 3) := by decide +kernel
theorem dX9_tells_62 : decode cX9_tells 62 = .ok (.iconst 0, 1) := by decide +kernel
theorem dX9_tells_63 : decode cX9_tells 63 = .ok (.ireturn, 1) := by decide +kernel
theorem dX9_tells_64 : decode cX9_tells 64 = .ok (.iinc 2 1, 3) := by decide +kernel
theorem dX9_tells_67 : decode cX9_tells 67 = .ok (.goto (-32), 3) := by decide +kernel
theorem dX9_tells_70 : decode cX9_tells 70 = .ok (.iconst 1, 1) := by decide +kernel
theorem dX9_tells_71 : decode cX9_tells 71 = .ok (.ireturn, 1) := by decide +kernel
theorem dX9_isQuoted_0 : decode cX9_isQuoted 0 = .ok (.aload_n 0, 1) := by decide +kernel
theorem dX9_isQuoted_1 : decode cX9_isQuoted 1 = .ok (.ldc 69, 2) := by decide +kernel
theorem dX9_isQuoted_3 : decode cX9_isQuoted 3 = .ok (.invokevirtual 71, 3) := by decide +kernel
theorem dX9_isQuoted_6 : decode cX9_isQuoted 6 = .ok (.ifCond .ne 111, 3) := by decide +kernel
theorem dX9_isQuoted_9 : decode cX9_isQuoted 9 = .ok (.aload_n 0, 1) := by decide +kernel
theorem dX9_isQuoted_10 : decode cX9_isQuoted 10 = .ok (.ldc 75, 2) := by decide +kernel
theorem dX9_isQuoted_12 : decode cX9_isQuoted 12 = .ok (.invokevirtual 71, 3) := by decide +kernel
theorem dX9_isQuoted_15 : decode cX9_isQuoted 15 = .ok (.ifCond .ne 102, 3) := by decide +kernel
theorem dX9_isQuoted_18 : decode cX9_isQuoted 18 = .ok (.aload_n 0, 1) := by decide +kernel
theorem dX9_isQuoted_19 : decode cX9_isQuoted 19 = .ok (.ldc 77, 2) := by decide +kernel
theorem dX9_isQuoted_21 : decode cX9_isQuoted 21 = .ok (.invokevirtual 71, 3) := by decide +kernel
theorem dX9_isQuoted_24 : decode cX9_isQuoted 24 = .ok (.ifCond .ne 93, 3) := by decide +kernel
theorem dX9_isQuoted_27 : decode cX9_isQuoted 27 = .ok (.aload_n 0, 1) := by decide +kernel
theorem dX9_isQuoted_28 : decode cX9_isQuoted 28 = .ok (.ldc 79, 2) := by decide +kernel
theorem dX9_isQuoted_30 : decode cX9_isQuoted 30 = .ok (.invokevirtual 71, 3) := by decide +kernel
theorem dX9_isQuoted_33 : decode cX9_isQuoted 33 = .ok (.ifCond .ne 84, 3) := by decide +kernel
theorem dX9_isQuoted_36 : decode cX9_isQuoted 36 = .ok (.aload_n 0, 1) := by decide +kernel
theorem dX9_isQuoted_37 : decode cX9_isQuoted 37 = .ok (.ldc 81, 2) := by decide +kernel
theorem dX9_isQuoted_39 : decode cX9_isQuoted 39 = .ok (.invokevirtual 71, 3) := by decide +kernel
theorem dX9_isQuoted_42 : decode cX9_isQuoted 42 = .ok (.ifCond .ne 75, 3) := by decide +kernel
theorem dX9_isQuoted_45 : decode cX9_isQuoted 45 = .ok (.aload_n 0, 1) := by decide +kernel
theorem dX9_isQuoted_46 : decode cX9_isQuoted 46 = .ok (.ldc 83, 2) := by decide +kernel
theorem dX9_isQuoted_48 : decode cX9_isQuoted 48 = .ok (.invokevirtual 71, 3) := by decide +kernel
theorem dX9_isQuoted_51 : decode cX9_isQuoted 51 = .ok (.ifCond .ne 66, 3) := by decide +kernel
theorem dX9_isQuoted_54 : decode cX9_isQuoted 54 = .ok (.aload_n 0, 1) := by decide +kernel
theorem dX9_isQuoted_55 : decode cX9_isQuoted 55 = .ok (.ldc 85, 2) := by decide +kernel
theorem dX9_isQuoted_57 : decode cX9_isQuoted 57 = .ok (.invokevirtual 71, 3) := by decide +kernel
theorem dX9_isQuoted_60 : decode cX9_isQuoted 60 = .ok (.ifCond .ne 57, 3) := by decide +kernel
theorem dX9_isQuoted_63 : decode cX9_isQuoted 63 = .ok (.aload_n 0, 1) := by decide +kernel
theorem dX9_isQuoted_64 : decode cX9_isQuoted 64 = .ok (.ldc 87, 2) := by decide +kernel
theorem dX9_isQuoted_66 : decode cX9_isQuoted 66 = .ok (.invokevirtual 71, 3) := by decide +kernel
theorem dX9_isQuoted_69 : decode cX9_isQuoted 69 = .ok (.ifCond .ne 48, 3) := by decide +kernel
theorem dX9_isQuoted_72 : decode cX9_isQuoted 72 = .ok (.aload_n 0, 1) := by decide +kernel
theorem dX9_isQuoted_73 : decode cX9_isQuoted 73 = .ok (.ldc 89, 2) := by decide +kernel
theorem dX9_isQuoted_75 : decode cX9_isQuoted 75 = .ok (.invokevirtual 71, 3) := by decide +kernel
theorem dX9_isQuoted_78 : decode cX9_isQuoted 78 = .ok (.ifCond .ne 39, 3) := by decide +kernel
theorem dX9_isQuoted_81 : decode cX9_isQuoted 81 = .ok (.aload_n 0, 1) := by decide +kernel
theorem dX9_isQuoted_82 : decode cX9_isQuoted 82 = .ok (.ldc 91, 2) := by decide +kernel
theorem dX9_isQuoted_84 : decode cX9_isQuoted 84 = .ok (.invokevirtual 71, 3) := by decide +kernel
theorem dX9_isQuoted_87 : decode cX9_isQuoted 87 = .ok (.ifCond .ne 30, 3) := by decide +kernel
theorem dX9_isQuoted_90 : decode cX9_isQuoted 90 = .ok (.aload_n 0, 1) := by decide +kernel
theorem dX9_isQuoted_91 : decode cX9_isQuoted 91 = .ok (.ldc 93, 2) := by decide +kernel
theorem dX9_isQuoted_93 : decode cX9_isQuoted 93 = .ok (.invokevirtual 71, 3) := by decide +kernel
theorem dX9_isQuoted_96 : decode cX9_isQuoted 96 = .ok (.ifCond .ne 21, 3) := by decide +kernel
theorem dX9_isQuoted_99 : decode cX9_isQuoted 99 = .ok (.aload_n 0, 1) := by decide +kernel
theorem dX9_isQuoted_100 : decode cX9_isQuoted 100 = .ok (.ldc 95, 2) := by decide +kernel
theorem dX9_isQuoted_102 : decode cX9_isQuoted 102 = .ok (.invokevirtual 71, 3) := by decide +kernel
theorem dX9_isQuoted_105 : decode cX9_isQuoted 105 = .ok (.ifCond .ne 12, 3) := by decide +kernel
theorem dX9_isQuoted_108 : decode cX9_isQuoted 108 = .ok (.aload_n 0, 1) := by decide +kernel
theorem dX9_isQuoted_109 : decode cX9_isQuoted 109 = .ok (.ldc 97, 2) := by decide +kernel
theorem dX9_isQuoted_111 : decode cX9_isQuoted 111 = .ok (.invokevirtual 71, 3) := by decide +kernel
theorem dX9_isQuoted_114 : decode cX9_isQuoted 114 = .ok (.ifCond .eq 7, 3) := by decide +kernel
theorem dX9_isQuoted_117 : decode cX9_isQuoted 117 = .ok (.iconst 1, 1) := by decide +kernel
theorem dX9_isQuoted_118 : decode cX9_isQuoted 118 = .ok (.goto 4, 3) := by decide +kernel
theorem dX9_isQuoted_121 : decode cX9_isQuoted 121 = .ok (.iconst 0, 1) := by decide +kernel
theorem dX9_isQuoted_122 : decode cX9_isQuoted 122 = .ok (.ireturn, 1) := by decide +kernel
theorem dX9_kindOf_0 : decode cX9_kindOf 0 = .ok (.iload_n 1, 1) := by decide +kernel
theorem dX9_kindOf_1 : decode cX9_kindOf 1 = .ok (.ifCond .ne 16, 3) := by decide +kernel
theorem dX9_kindOf_4 : decode cX9_kindOf 4 = .ok (.iload_n 0, 1) := by decide +kernel
theorem dX9_kindOf_5 : decode cX9_kindOf 5 = .ok (.iconst 1, 1) := by decide +kernel
theorem dX9_kindOf_6 : decode cX9_kindOf 6 = .ok (.if_icmp .lt 11, 3) := by decide +kernel
theorem dX9_kindOf_9 : decode cX9_kindOf 9 = .ok (.iload_n 0, 1) := by decide +kernel
theorem dX9_kindOf_10 : decode cX9_kindOf 10 = .ok (.bipush 8, 2) := by decide +kernel
theorem dX9_kindOf_12 : decode cX9_kindOf 12 = .ok (.if_icmp .gt 5, 3) := by decide +kernel
theorem dX9_kindOf_15 : decode cX9_kindOf 15 = .ok (.iconst 1, 1) := by decide +kernel
theorem dX9_kindOf_16 : decode cX9_kindOf 16 = .ok (.ireturn, 1) := by decide +kernel
theorem dX9_kindOf_17 : decode cX9_kindOf 17 = .ok (.iload_n 1, 1) := by decide +kernel
theorem dX9_kindOf_18 : decode cX9_kindOf 18 = .ok (.iload_n 0, 1) := by decide +kernel
theorem dX9_kindOf_19 : decode cX9_kindOf 19 = .ok (.if_icmp .ne 17, 3) := by decide +kernel
theorem dX9_kindOf_22 : decode cX9_kindOf 22 = .ok (.iload_n 0, 1) := by decide +kernel
theorem dX9_kindOf_23 : decode cX9_kindOf 23 = .ok (.iconst 1, 1) := by decide +kernel
theorem dX9_kindOf_24 : decode cX9_kindOf 24 = .ok (.if_icmp .lt 12, 3) := by decide +kernel
theorem dX9_kindOf_27 : decode cX9_kindOf 27 = .ok (.iload_n 0, 1) := by decide +kernel
theorem dX9_kindOf_28 : decode cX9_kindOf 28 = .ok (.iconst 3, 1) := by decide +kernel
theorem dX9_kindOf_29 : decode cX9_kindOf 29 = .ok (.if_icmp .gt 7, 3) := by decide +kernel
theorem dX9_kindOf_32 : decode cX9_kindOf 32 = .ok (.iconst 2, 1) := by decide +kernel
theorem dX9_kindOf_33 : decode cX9_kindOf 33 = .ok (.goto 4, 3) := by decide +kernel
theorem dX9_kindOf_36 : decode cX9_kindOf 36 = .ok (.iconst 4, 1) := by decide +kernel
theorem dX9_kindOf_37 : decode cX9_kindOf 37 = .ok (.ireturn, 1) := by decide +kernel
theorem dX9_isLetter_0 : decode cX9_isLetter 0 = .ok (.iload_n 0, 1) := by decide +kernel
theorem dX9_isLetter_1 : decode cX9_isLetter 1 = .ok (.bipush 97, 2) := by decide +kernel
theorem dX9_isLetter_3 : decode cX9_isLetter 3 = .ok (.if_icmp .lt 13, 3) := by decide +kernel
theorem dX9_isLetter_6 : decode cX9_isLetter 6 = .ok (.iload_n 0, 1) := by decide +kernel
theorem dX9_isLetter_7 : decode cX9_isLetter 7 = .ok (.bipush 122, 2) := by decide +kernel
theorem dX9_isLetter_9 : decode cX9_isLetter 9 = .ok (.if_icmp .gt 7, 3) := by decide +kernel
theorem dX9_isLetter_12 : decode cX9_isLetter 12 = .ok (.iconst 1, 1) := by decide +kernel
theorem dX9_isLetter_13 : decode cX9_isLetter 13 = .ok (.goto 4, 3) := by decide +kernel
theorem dX9_isLetter_16 : decode cX9_isLetter 16 = .ok (.iconst 0, 1) := by decide +kernel
theorem dX9_isLetter_17 : decode cX9_isLetter 17 = .ok (.ireturn, 1) := by decide +kernel
theorem dX9_isDigit_0 : decode cX9_isDigit 0 = .ok (.iload_n 0, 1) := by decide +kernel
theorem dX9_isDigit_1 : decode cX9_isDigit 1 = .ok (.bipush 48, 2) := by decide +kernel
theorem dX9_isDigit_3 : decode cX9_isDigit 3 = .ok (.if_icmp .lt 13, 3) := by decide +kernel
theorem dX9_isDigit_6 : decode cX9_isDigit 6 = .ok (.iload_n 0, 1) := by decide +kernel
theorem dX9_isDigit_7 : decode cX9_isDigit 7 = .ok (.bipush 57, 2) := by decide +kernel
theorem dX9_isDigit_9 : decode cX9_isDigit 9 = .ok (.if_icmp .gt 7, 3) := by decide +kernel
theorem dX9_isDigit_12 : decode cX9_isDigit 12 = .ok (.iconst 1, 1) := by decide +kernel
theorem dX9_isDigit_13 : decode cX9_isDigit 13 = .ok (.goto 4, 3) := by decide +kernel
theorem dX9_isDigit_16 : decode cX9_isDigit 16 = .ok (.iconst 0, 1) := by decide +kernel
theorem dX9_isDigit_17 : decode cX9_isDigit 17 = .ok (.ireturn, 1) := by decide +kernel
theorem dX9_packed_0 : decode cX9_packed 0 = .ok (.iload_n 1, 1) := by decide +kernel
theorem dX9_packed_1 : decode cX9_packed 1 = .ok (.ifCond .lt 19, 3) := by decide +kernel
theorem dX9_packed_4 : decode cX9_packed 4 = .ok (.iload_n 2, 1) := by decide +kernel
theorem dX9_packed_5 : decode cX9_packed 5 = .ok (.aload_n 0, 1) := by decide +kernel
theorem dX9_packed_6 : decode cX9_packed 6 = .ok (.getfield 15, 3) := by decide +kernel
theorem dX9_packed_9 : decode cX9_packed 9 = .ok (.if_icmp .gt 11, 3) := by decide +kernel
theorem dX9_packed_12 : decode cX9_packed 12 = .ok (.iload_n 2, 1) := by decide +kernel
theorem dX9_packed_13 : decode cX9_packed 13 = .ok (.iload_n 1, 1) := by decide +kernel
theorem dX9_packed_14 : decode cX9_packed 14 = .ok (.isub, 1) := by decide +kernel
theorem dX9_packed_15 : decode cX9_packed 15 = .ok (.bipush 8, 2) := by decide +kernel
theorem dX9_packed_17 : decode cX9_packed 17 = .ok (.if_icmp .le 5, 3) := by decide +kernel
theorem dX9_packed_20 : decode cX9_packed 20 = .ok (.lconst 0, 1) := by decide +kernel
theorem dX9_packed_21 : decode cX9_packed 21 = .ok (.lreturn, 1) := by decide +kernel
theorem dX9_packed_22 : decode cX9_packed 22 = .ok (.lconst 0, 1) := by decide +kernel
theorem dX9_packed_23 : decode cX9_packed 23 = .ok (.lstore_n 3, 1) := by decide +kernel
theorem dX9_packed_24 : decode cX9_packed 24 = .ok (.iload_n 1, 1) := by decide +kernel
theorem dX9_packed_25 : decode cX9_packed 25 = .ok (.istore 5, 2) := by decide +kernel
theorem dX9_packed_27 : decode cX9_packed 27 = .ok (.iload 5, 2) := by decide +kernel
theorem dX9_packed_29 : decode cX9_packed 29 = .ok (.iload_n 2, 1) := by decide +kernel
theorem dX9_packed_30 : decode cX9_packed 30 = .ok (.if_icmp .ge 42, 3) := by decide +kernel
theorem dX9_packed_33 : decode cX9_packed 33 = .ok (.aload_n 0, 1) := by decide +kernel
theorem dX9_packed_34 : decode cX9_packed 34 = .ok (.getfield 9, 3) := by decide +kernel
theorem dX9_packed_37 : decode cX9_packed 37 = .ok (.iload 5, 2) := by decide +kernel
theorem dX9_packed_39 : decode cX9_packed 39 = .ok (.iaload, 1) := by decide +kernel
theorem dX9_packed_40 : decode cX9_packed 40 = .ok (.invokestatic 38, 3) := by decide +kernel
theorem dX9_packed_43 : decode cX9_packed 43 = .ok (.ifCond .ne 5, 3) := by decide +kernel
theorem dX9_packed_46 : decode cX9_packed 46 = .ok (.lconst 0, 1) := by decide +kernel
theorem dX9_packed_47 : decode cX9_packed 47 = .ok (.lreturn, 1) := by decide +kernel
theorem dX9_packed_48 : decode cX9_packed 48 = .ok (.lload_n 3, 1) := by decide +kernel
theorem dX9_packed_49 : decode cX9_packed 49 = .ok (.iconst 5, 1) := by decide +kernel
theorem dX9_packed_50 : decode cX9_packed 50 = .ok (.lshl, 1) := by decide +kernel
theorem dX9_packed_51 : decode cX9_packed 51 = .ok (.aload_n 0, 1) := by decide +kernel
theorem dX9_packed_52 : decode cX9_packed 52 = .ok (.getfield 9, 3) := by decide +kernel
theorem dX9_packed_55 : decode cX9_packed 55 = .ok (.iload 5, 2) := by decide +kernel
theorem dX9_packed_57 : decode cX9_packed 57 = .ok (.iaload, 1) := by decide +kernel
theorem dX9_packed_58 : decode cX9_packed 58 = .ok (.bipush 97, 2) := by decide +kernel
theorem dX9_packed_60 : decode cX9_packed 60 = .ok (.isub, 1) := by decide +kernel
theorem dX9_packed_61 : decode cX9_packed 61 = .ok (.iconst 1, 1) := by decide +kernel
theorem dX9_packed_62 : decode cX9_packed 62 = .ok (.iadd, 1) := by decide +kernel
theorem dX9_packed_63 : decode cX9_packed 63 = .ok (.i2l, 1) := by decide +kernel
theorem dX9_packed_64 : decode cX9_packed 64 = .ok (.ladd, 1) := by decide +kernel
theorem dX9_packed_65 : decode cX9_packed 65 = .ok (.lstore_n 3, 1) := by decide +kernel
theorem dX9_packed_66 : decode cX9_packed 66 = .ok (.iinc 5 1, 3) := by decide +kernel
theorem dX9_packed_69 : decode cX9_packed 69 = .ok (.goto (-42), 3) := by decide +kernel
theorem dX9_packed_72 : decode cX9_packed 72 = .ok (.lload_n 3, 1) := by decide +kernel
theorem dX9_packed_73 : decode cX9_packed 73 = .ok (.lreturn, 1) := by decide +kernel
theorem dX9_lettersOf_0 : decode cX9_lettersOf 0 = .ok (.iconst 0, 1) := by decide +kernel
theorem dX9_lettersOf_1 : decode cX9_lettersOf 1 = .ok (.istore_n 2, 1) := by decide +kernel
theorem dX9_lettersOf_2 : decode cX9_lettersOf 2 = .ok (.iconst 0, 1) := by decide +kernel
theorem dX9_lettersOf_3 : decode cX9_lettersOf 3 = .ok (.istore_n 3, 1) := by decide +kernel
theorem dX9_lettersOf_4 : decode cX9_lettersOf 4 = .ok (.iload_n 3, 1) := by decide +kernel
theorem dX9_lettersOf_5 : decode cX9_lettersOf 5 = .ok (.bipush 8, 2) := by decide +kernel
theorem dX9_lettersOf_7 : decode cX9_lettersOf 7 = .ok (.if_icmp .ge 22, 3) := by decide +kernel
theorem dX9_lettersOf_10 : decode cX9_lettersOf 10 = .ok (.lload_n 0, 1) := by decide +kernel
theorem dX9_lettersOf_11 : decode cX9_lettersOf 11 = .ok (.iconst 5, 1) := by decide +kernel
theorem dX9_lettersOf_12 : decode cX9_lettersOf 12 = .ok (.iload_n 3, 1) := by decide +kernel
theorem dX9_lettersOf_13 : decode cX9_lettersOf 13 = .ok (.imul, 1) := by decide +kernel
theorem dX9_lettersOf_14 : decode cX9_lettersOf 14 = .ok (.lushr, 1) := by decide +kernel
theorem dX9_lettersOf_15 : decode cX9_lettersOf 15 = .ok (.lconst 0, 1) := by decide +kernel
theorem dX9_lettersOf_16 : decode cX9_lettersOf 16 = .ok (.lcmp, 1) := by decide +kernel
theorem dX9_lettersOf_17 : decode cX9_lettersOf 17 = .ok (.ifCond .eq 6, 3) := by decide +kernel
theorem dX9_lettersOf_20 : decode cX9_lettersOf 20 = .ok (.iinc 2 1, 3) := by decide +kernel
theorem dX9_lettersOf_23 : decode cX9_lettersOf 23 = .ok (.iinc 3 1, 3) := by decide +kernel
theorem dX9_lettersOf_26 : decode cX9_lettersOf 26 = .ok (.goto (-22), 3) := by decide +kernel
theorem dX9_lettersOf_29 : decode cX9_lettersOf 29 = .ok (.iload_n 2, 1) := by decide +kernel
theorem dX9_lettersOf_30 : decode cX9_lettersOf 30 = .ok (.ireturn, 1) := by decide +kernel
theorem dX10_init_0 : decode cX10_init 0 = .ok (.aload_n 0, 1) := by decide +kernel
theorem dX10_init_1 : decode cX10_init 1 = .ok (.invokespecial 3, 3) := by decide +kernel
theorem dX10_init_4 : decode cX10_init 4 = .ok (.aload_n 0, 1) := by decide +kernel
theorem dX10_init_5 : decode cX10_init 5 = .ok (.iconst 3, 1) := by decide +kernel
theorem dX10_init_6 : decode cX10_init 6 = .ok (.newarray .long, 2) := by decide +kernel
theorem dX10_init_8 : decode cX10_init 8 = .ok (.putfield 9, 3) := by decide +kernel
theorem dX10_init_11 : decode cX10_init 11 = .ok (.aload_n 0, 1) := by decide +kernel
theorem dX10_init_12 : decode cX10_init 12 = .ok (.iconst 3, 1) := by decide +kernel
theorem dX10_init_13 : decode cX10_init 13 = .ok (.newarray .int, 2) := by decide +kernel
theorem dX10_init_15 : decode cX10_init 15 = .ok (.putfield 15, 3) := by decide +kernel
theorem dX10_init_18 : decode cX10_init 18 = .ok (.aload_n 0, 1) := by decide +kernel
theorem dX10_init_19 : decode cX10_init 19 = .ok (.iconst 3, 1) := by decide +kernel
theorem dX10_init_20 : decode cX10_init 20 = .ok (.newarray .int, 2) := by decide +kernel
theorem dX10_init_22 : decode cX10_init 22 = .ok (.putfield 19, 3) := by decide +kernel
theorem dX10_init_25 : decode cX10_init 25 = .ok (.aload_n 0, 1) := by decide +kernel
theorem dX10_init_26 : decode cX10_init 26 = .ok (.iconst 3, 1) := by decide +kernel
theorem dX10_init_27 : decode cX10_init 27 = .ok (.newarray .int, 2) := by decide +kernel
theorem dX10_init_29 : decode cX10_init 29 = .ok (.putfield 22, 3) := by decide +kernel
theorem dX10_init_32 : decode cX10_init 32 = .ok (.aload_n 0, 1) := by decide +kernel
theorem dX10_init_33 : decode cX10_init 33 = .ok (.bipush 12, 2) := by decide +kernel
theorem dX10_init_35 : decode cX10_init 35 = .ok (.newarray .int, 2) := by decide +kernel
theorem dX10_init_37 : decode cX10_init 37 = .ok (.putfield 25, 3) := by decide +kernel
theorem dX10_init_40 : decode cX10_init 40 = .ok (.aload_n 0, 1) := by decide +kernel
theorem dX10_init_41 : decode cX10_init 41 = .ok (.bipush 12, 2) := by decide +kernel
theorem dX10_init_43 : decode cX10_init 43 = .ok (.newarray .int, 2) := by decide +kernel
theorem dX10_init_45 : decode cX10_init 45 = .ok (.putfield 28, 3) := by decide +kernel
theorem dX10_init_48 : decode cX10_init 48 = .ok (.aload_n 0, 1) := by decide +kernel
theorem dX10_init_49 : decode cX10_init 49 = .ok (.bipush 13, 2) := by decide +kernel
theorem dX10_init_51 : decode cX10_init 51 = .ok (.newarray .int, 2) := by decide +kernel
theorem dX10_init_53 : decode cX10_init 53 = .ok (.putfield 31, 3) := by decide +kernel
theorem dX10_init_56 : decode cX10_init 56 = .ok (.aload_n 0, 1) := by decide +kernel
theorem dX10_init_57 : decode cX10_init 57 = .ok (.bipush 13, 2) := by decide +kernel
theorem dX10_init_59 : decode cX10_init 59 = .ok (.newarray .int, 2) := by decide +kernel
theorem dX10_init_61 : decode cX10_init 61 = .ok (.putfield 34, 3) := by decide +kernel
theorem dX10_init_64 : decode cX10_init 64 = .ok (.aload_n 0, 1) := by decide +kernel
theorem dX10_init_65 : decode cX10_init 65 = .ok (.bipush 13, 2) := by decide +kernel
theorem dX10_init_67 : decode cX10_init 67 = .ok (.newarray .int, 2) := by decide +kernel
theorem dX10_init_69 : decode cX10_init 69 = .ok (.putfield 37, 3) := by decide +kernel
theorem dX10_init_72 : decode cX10_init 72 = .ok (.return_, 1) := by decide +kernel
theorem dX10_clear_0 : decode cX10_clear 0 = .ok (.aload_n 0, 1) := by decide +kernel
theorem dX10_clear_1 : decode cX10_clear 1 = .ok (.iconst 0, 1) := by decide +kernel
theorem dX10_clear_2 : decode cX10_clear 2 = .ok (.putfield 40, 3) := by decide +kernel
theorem dX10_clear_5 : decode cX10_clear 5 = .ok (.aload_n 0, 1) := by decide +kernel
theorem dX10_clear_6 : decode cX10_clear 6 = .ok (.iconst 0, 1) := by decide +kernel
theorem dX10_clear_7 : decode cX10_clear 7 = .ok (.putfield 44, 3) := by decide +kernel
theorem dX10_clear_10 : decode cX10_clear 10 = .ok (.aload_n 0, 1) := by decide +kernel
theorem dX10_clear_11 : decode cX10_clear 11 = .ok (.iconst 0, 1) := by decide +kernel
theorem dX10_clear_12 : decode cX10_clear 12 = .ok (.putfield 47, 3) := by decide +kernel
theorem dX10_clear_15 : decode cX10_clear 15 = .ok (.return_, 1) := by decide +kernel
theorem dX10_copyFrom_0 : decode cX10_copyFrom 0 = .ok (.aload_n 0, 1) := by decide +kernel
theorem dX10_copyFrom_1 : decode cX10_copyFrom 1 = .ok (.aload_n 1, 1) := by decide +kernel
theorem dX10_copyFrom_2 : decode cX10_copyFrom 2 = .ok (.getfield 40, 3) := by decide +kernel
theorem dX10_copyFrom_5 : decode cX10_copyFrom 5 = .ok (.putfield 40, 3) := by decide +kernel
theorem dX10_copyFrom_8 : decode cX10_copyFrom 8 = .ok (.aload_n 1, 1) := by decide +kernel
theorem dX10_copyFrom_9 : decode cX10_copyFrom 9 = .ok (.getfield 9, 3) := by decide +kernel
theorem dX10_copyFrom_12 : decode cX10_copyFrom 12 = .ok (.iconst 0, 1) := by decide +kernel
theorem dX10_copyFrom_13 : decode cX10_copyFrom 13 = .ok (.aload_n 0, 1) := by decide +kernel
theorem dX10_copyFrom_14 : decode cX10_copyFrom 14 = .ok (.getfield 9, 3) := by decide +kernel
theorem dX10_copyFrom_17 : decode cX10_copyFrom 17 = .ok (.iconst 0, 1) := by decide +kernel
theorem dX10_copyFrom_18 : decode cX10_copyFrom 18 = .ok (.iconst 3, 1) := by decide +kernel
theorem dX10_copyFrom_19 : decode cX10_copyFrom 19 = .ok (.invokestatic 50, 3) := by decide +kernel
theorem dX10_copyFrom_22 : decode cX10_copyFrom 22 = .ok (.aload_n 1, 1) := by decide +kernel
theorem dX10_copyFrom_23 : decode cX10_copyFrom 23 = .ok (.getfield 15, 3) := by decide +kernel
theorem dX10_copyFrom_26 : decode cX10_copyFrom 26 = .ok (.iconst 0, 1) := by decide +kernel
theorem dX10_copyFrom_27 : decode cX10_copyFrom 27 = .ok (.aload_n 0, 1) := by decide +kernel
theorem dX10_copyFrom_28 : decode cX10_copyFrom 28 = .ok (.getfield 15, 3) := by decide +kernel
theorem dX10_copyFrom_31 : decode cX10_copyFrom 31 = .ok (.iconst 0, 1) := by decide +kernel
theorem dX10_copyFrom_32 : decode cX10_copyFrom 32 = .ok (.iconst 3, 1) := by decide +kernel
theorem dX10_copyFrom_33 : decode cX10_copyFrom 33 = .ok (.invokestatic 50, 3) := by decide +kernel
theorem dX10_copyFrom_36 : decode cX10_copyFrom 36 = .ok (.aload_n 1, 1) := by decide +kernel
theorem dX10_copyFrom_37 : decode cX10_copyFrom 37 = .ok (.getfield 19, 3) := by decide +kernel
theorem dX10_copyFrom_40 : decode cX10_copyFrom 40 = .ok (.iconst 0, 1) := by decide +kernel
theorem dX10_copyFrom_41 : decode cX10_copyFrom 41 = .ok (.aload_n 0, 1) := by decide +kernel
theorem dX10_copyFrom_42 : decode cX10_copyFrom 42 = .ok (.getfield 19, 3) := by decide +kernel
theorem dX10_copyFrom_45 : decode cX10_copyFrom 45 = .ok (.iconst 0, 1) := by decide +kernel
theorem dX10_copyFrom_46 : decode cX10_copyFrom 46 = .ok (.iconst 3, 1) := by decide +kernel
theorem dX10_copyFrom_47 : decode cX10_copyFrom 47 = .ok (.invokestatic 50, 3) := by decide +kernel
theorem dX10_copyFrom_50 : decode cX10_copyFrom 50 = .ok (.aload_n 1, 1) := by decide +kernel
theorem dX10_copyFrom_51 : decode cX10_copyFrom 51 = .ok (.getfield 22, 3) := by decide +kernel
theorem dX10_copyFrom_54 : decode cX10_copyFrom 54 = .ok (.iconst 0, 1) := by decide +kernel
theorem dX10_copyFrom_55 : decode cX10_copyFrom 55 = .ok (.aload_n 0, 1) := by decide +kernel
theorem dX10_copyFrom_56 : decode cX10_copyFrom 56 = .ok (.getfield 22, 3) := by decide +kernel
theorem dX10_copyFrom_59 : decode cX10_copyFrom 59 = .ok (.iconst 0, 1) := by decide +kernel
theorem dX10_copyFrom_60 : decode cX10_copyFrom 60 = .ok (.iconst 3, 1) := by decide +kernel
theorem dX10_copyFrom_61 : decode cX10_copyFrom 61 = .ok (.invokestatic 50, 3) := by decide +kernel
theorem dX10_copyFrom_64 : decode cX10_copyFrom 64 = .ok (.aload_n 0, 1) := by decide +kernel
theorem dX10_copyFrom_65 : decode cX10_copyFrom 65 = .ok (.aload_n 1, 1) := by decide +kernel
theorem dX10_copyFrom_66 : decode cX10_copyFrom 66 = .ok (.getfield 44, 3) := by decide +kernel
theorem dX10_copyFrom_69 : decode cX10_copyFrom 69 = .ok (.putfield 44, 3) := by decide +kernel
theorem dX10_copyFrom_72 : decode cX10_copyFrom 72 = .ok (.aload_n 1, 1) := by decide +kernel
theorem dX10_copyFrom_73 : decode cX10_copyFrom 73 = .ok (.getfield 25, 3) := by decide +kernel
theorem dX10_copyFrom_76 : decode cX10_copyFrom 76 = .ok (.iconst 0, 1) := by decide +kernel
theorem dX10_copyFrom_77 : decode cX10_copyFrom 77 = .ok (.aload_n 0, 1) := by decide +kernel
theorem dX10_copyFrom_78 : decode cX10_copyFrom 78 = .ok (.getfield 25, 3) := by decide +kernel
theorem dX10_copyFrom_81 : decode cX10_copyFrom 81 = .ok (.iconst 0, 1) := by decide +kernel
theorem dX10_copyFrom_82 : decode cX10_copyFrom 82 = .ok (.bipush 12, 2) := by decide +kernel
theorem dX10_copyFrom_84 : decode cX10_copyFrom 84 = .ok (.invokestatic 50, 3) := by decide +kernel
theorem dX10_copyFrom_87 : decode cX10_copyFrom 87 = .ok (.aload_n 1, 1) := by decide +kernel
theorem dX10_copyFrom_88 : decode cX10_copyFrom 88 = .ok (.getfield 28, 3) := by decide +kernel
theorem dX10_copyFrom_91 : decode cX10_copyFrom 91 = .ok (.iconst 0, 1) := by decide +kernel
theorem dX10_copyFrom_92 : decode cX10_copyFrom 92 = .ok (.aload_n 0, 1) := by decide +kernel
theorem dX10_copyFrom_93 : decode cX10_copyFrom 93 = .ok (.getfield 28, 3) := by decide +kernel
theorem dX10_copyFrom_96 : decode cX10_copyFrom 96 = .ok (.iconst 0, 1) := by decide +kernel
theorem dX10_copyFrom_97 : decode cX10_copyFrom 97 = .ok (.bipush 12, 2) := by decide +kernel
theorem dX10_copyFrom_99 : decode cX10_copyFrom 99 = .ok (.invokestatic 50, 3) := by decide +kernel
theorem dX10_copyFrom_102 : decode cX10_copyFrom 102 = .ok (.aload_n 0, 1) := by decide +kernel
theorem dX10_copyFrom_103 : decode cX10_copyFrom 103 = .ok (.aload_n 1, 1) := by decide +kernel
theorem dX10_copyFrom_104 : decode cX10_copyFrom 104 = .ok (.getfield 47, 3) := by decide +kernel
theorem dX10_copyFrom_107 : decode cX10_copyFrom 107 = .ok (.putfield 47, 3) := by decide +kernel
theorem dX10_copyFrom_110 : decode cX10_copyFrom 110 = .ok (.aload_n 1, 1) := by decide +kernel
theorem dX10_copyFrom_111 : decode cX10_copyFrom 111 = .ok (.getfield 31, 3) := by decide +kernel
theorem dX10_copyFrom_114 : decode cX10_copyFrom 114 = .ok (.iconst 0, 1) := by decide +kernel
theorem dX10_copyFrom_115 : decode cX10_copyFrom 115 = .ok (.aload_n 0, 1) := by decide +kernel
theorem dX10_copyFrom_116 : decode cX10_copyFrom 116 = .ok (.getfield 31, 3) := by decide +kernel
theorem dX10_copyFrom_119 : decode cX10_copyFrom 119 = .ok (.iconst 0, 1) := by decide +kernel
theorem dX10_copyFrom_120 : decode cX10_copyFrom 120 = .ok (.bipush 13, 2) := by decide +kernel
theorem dX10_copyFrom_122 : decode cX10_copyFrom 122 = .ok (.invokestatic 50, 3) := by decide +kernel
theorem dX10_copyFrom_125 : decode cX10_copyFrom 125 = .ok (.aload_n 1, 1) := by decide +kernel
theorem dX10_copyFrom_126 : decode cX10_copyFrom 126 = .ok (.getfield 34, 3) := by decide +kernel
theorem dX10_copyFrom_129 : decode cX10_copyFrom 129 = .ok (.iconst 0, 1) := by decide +kernel
theorem dX10_copyFrom_130 : decode cX10_copyFrom 130 = .ok (.aload_n 0, 1) := by decide +kernel
theorem dX10_copyFrom_131 : decode cX10_copyFrom 131 = .ok (.getfield 34, 3) := by decide +kernel
theorem dX10_copyFrom_134 : decode cX10_copyFrom 134 = .ok (.iconst 0, 1) := by decide +kernel
theorem dX10_copyFrom_135 : decode cX10_copyFrom 135 = .ok (.bipush 13, 2) := by decide +kernel
theorem dX10_copyFrom_137 : decode cX10_copyFrom 137 = .ok (.invokestatic 50, 3) := by decide +kernel
theorem dX10_copyFrom_140 : decode cX10_copyFrom 140 = .ok (.aload_n 1, 1) := by decide +kernel
theorem dX10_copyFrom_141 : decode cX10_copyFrom 141 = .ok (.getfield 37, 3) := by decide +kernel
theorem dX10_copyFrom_144 : decode cX10_copyFrom 144 = .ok (.iconst 0, 1) := by decide +kernel
theorem dX10_copyFrom_145 : decode cX10_copyFrom 145 = .ok (.aload_n 0, 1) := by decide +kernel
theorem dX10_copyFrom_146 : decode cX10_copyFrom 146 = .ok (.getfield 37, 3) := by decide +kernel
theorem dX10_copyFrom_149 : decode cX10_copyFrom 149 = .ok (.iconst 0, 1) := by decide +kernel
theorem dX10_copyFrom_150 : decode cX10_copyFrom 150 = .ok (.bipush 13, 2) := by decide +kernel
theorem dX10_copyFrom_152 : decode cX10_copyFrom 152 = .ok (.invokestatic 50, 3) := by decide +kernel
theorem dX10_copyFrom_155 : decode cX10_copyFrom 155 = .ok (.return_, 1) := by decide +kernel
theorem dX10_hasTank_0 : decode cX10_hasTank 0 = .ok (.iload_n 1, 1) := by decide +kernel
theorem dX10_hasTank_1 : decode cX10_hasTank 1 = .ok (.ifCond .lt 15, 3) := by decide +kernel
theorem dX10_hasTank_4 : decode cX10_hasTank 4 = .ok (.iload_n 1, 1) := by decide +kernel
theorem dX10_hasTank_5 : decode cX10_hasTank 5 = .ok (.aload_n 0, 1) := by decide +kernel
theorem dX10_hasTank_6 : decode cX10_hasTank 6 = .ok (.getfield 40, 3) := by decide +kernel
theorem dX10_hasTank_9 : decode cX10_hasTank 9 = .ok (.if_icmp .ge 7, 3) := by decide +kernel
theorem dX10_hasTank_12 : decode cX10_hasTank 12 = .ok (.iconst 1, 1) := by decide +kernel
theorem dX10_hasTank_13 : decode cX10_hasTank 13 = .ok (.goto 4, 3) := by decide +kernel
theorem dX10_hasTank_16 : decode cX10_hasTank 16 = .ok (.iconst 0, 1) := by decide +kernel
theorem dX10_hasTank_17 : decode cX10_hasTank 17 = .ok (.ireturn, 1) := by decide +kernel
theorem dX10_tankCalled_0 : decode cX10_tankCalled 0 = .ok (.iconst 0, 1) := by decide +kernel
theorem dX10_tankCalled_1 : decode cX10_tankCalled 1 = .ok (.istore_n 3, 1) := by decide +kernel
theorem dX10_tankCalled_2 : decode cX10_tankCalled 2 = .ok (.iload_n 3, 1) := by decide +kernel
theorem dX10_tankCalled_3 : decode cX10_tankCalled 3 = .ok (.aload_n 0, 1) := by decide +kernel
theorem dX10_tankCalled_4 : decode cX10_tankCalled 4 = .ok (.getfield 40, 3) := by decide +kernel
theorem dX10_tankCalled_7 : decode cX10_tankCalled 7 = .ok (.if_icmp .ge 22, 3) := by decide +kernel
theorem dX10_tankCalled_10 : decode cX10_tankCalled 10 = .ok (.aload_n 0, 1) := by decide +kernel
theorem dX10_tankCalled_11 : decode cX10_tankCalled 11 = .ok (.getfield 9, 3) := by decide +kernel
theorem dX10_tankCalled_14 : decode cX10_tankCalled 14 = .ok (.iload_n 3, 1) := by decide +kernel
theorem dX10_tankCalled_15 : decode cX10_tankCalled 15 = .ok (.laload, 1) := by decide +kernel
theorem dX10_tankCalled_16 : decode cX10_tankCalled 16 = .ok (.lload_n 1, 1) := by decide +kernel
theorem dX10_tankCalled_17 : decode cX10_tankCalled 17 = .ok (.lcmp, 1) := by decide +kernel
theorem dX10_tankCalled_18 : decode cX10_tankCalled 18 = .ok (.ifCond .ne 5, 3) := by decide +kernel
theorem dX10_tankCalled_21 : decode cX10_tankCalled 21 = .ok (.iload_n 3, 1) := by decide +kernel
theorem dX10_tankCalled_22 : decode cX10_tankCalled 22 = .ok (.ireturn, 1) := by decide +kernel
theorem dX10_tankCalled_23 : decode cX10_tankCalled 23 = .ok (.iinc 3 1, 3) := by decide +kernel
theorem dX10_tankCalled_26 : decode cX10_tankCalled 26 = .ok (.goto (-24), 3) := by decide +kernel
theorem dX10_tankCalled_29 : decode cX10_tankCalled 29 = .ok (.iconst (-1), 1) := by decide +kernel
theorem dX10_tankCalled_30 : decode cX10_tankCalled 30 = .ok (.ireturn, 1) := by decide +kernel
theorem dX10_leftIn_0 : decode cX10_leftIn 0 = .ok (.aload_n 0, 1) := by decide +kernel
theorem dX10_leftIn_1 : decode cX10_leftIn 1 = .ok (.iload_n 1, 1) := by decide +kernel
theorem dX10_leftIn_2 : decode cX10_leftIn 2 = .ok (.invokevirtual 56, 3) := by decide +kernel
theorem dX10_leftIn_5 : decode cX10_leftIn 5 = .ok (.ifCond .eq 12, 3) := by decide +kernel
theorem dX10_leftIn_8 : decode cX10_leftIn 8 = .ok (.aload_n 0, 1) := by decide +kernel
theorem dX10_leftIn_9 : decode cX10_leftIn 9 = .ok (.getfield 22, 3) := by decide +kernel
theorem dX10_leftIn_12 : decode cX10_leftIn 12 = .ok (.iload_n 1, 1) := by decide +kernel
theorem dX10_leftIn_13 : decode cX10_leftIn 13 = .ok (.iaload, 1) := by decide +kernel
theorem dX10_leftIn_14 : decode cX10_leftIn 14 = .ok (.goto 4, 3) := by decide +kernel
theorem dX10_leftIn_17 : decode cX10_leftIn 17 = .ok (.iconst 0, 1) := by decide +kernel
theorem dX10_leftIn_18 : decode cX10_leftIn 18 = .ok (.ireturn, 1) := by decide +kernel
theorem dX10_addTank_0 : decode cX10_addTank 0 = .ok (.aload_n 0, 1) := by decide +kernel
theorem dX10_addTank_1 : decode cX10_addTank 1 = .ok (.getfield 40, 3) := by decide +kernel
theorem dX10_addTank_4 : decode cX10_addTank 4 = .ok (.iconst 3, 1) := by decide +kernel
theorem dX10_addTank_5 : decode cX10_addTank 5 = .ok (.if_icmp .lt 4, 3) := by decide +kernel
theorem dX10_addTank_8 : decode cX10_addTank 8 = .ok (.return_, 1) := by decide +kernel
theorem dX10_addTank_9 : decode cX10_addTank 9 = .ok (.aload_n 0, 1) := by decide +kernel
theorem dX10_addTank_10 : decode cX10_addTank 10 = .ok (.getfield 9, 3) := by decide +kernel
theorem dX10_addTank_13 : decode cX10_addTank 13 = .ok (.aload_n 0, 1) := by decide +kernel
theorem dX10_addTank_14 : decode cX10_addTank 14 = .ok (.getfield 40, 3) := by decide +kernel
theorem dX10_addTank_17 : decode cX10_addTank 17 = .ok (.lload_n 1, 1) := by decide +kernel
theorem dX10_addTank_18 : decode cX10_addTank 18 = .ok (.lastore, 1) := by decide +kernel
theorem dX10_addTank_19 : decode cX10_addTank 19 = .ok (.aload_n 0, 1) := by decide +kernel
theorem dX10_addTank_20 : decode cX10_addTank 20 = .ok (.getfield 15, 3) := by decide +kernel
theorem dX10_addTank_23 : decode cX10_addTank 23 = .ok (.aload_n 0, 1) := by decide +kernel
theorem dX10_addTank_24 : decode cX10_addTank 24 = .ok (.getfield 40, 3) := by decide +kernel
theorem dX10_addTank_27 : decode cX10_addTank 27 = .ok (.iload_n 3, 1) := by decide +kernel
theorem dX10_addTank_28 : decode cX10_addTank 28 = .ok (.iastore, 1) := by decide +kernel
theorem dX10_addTank_29 : decode cX10_addTank 29 = .ok (.aload_n 0, 1) := by decide +kernel
theorem dX10_addTank_30 : decode cX10_addTank 30 = .ok (.getfield 19, 3) := by decide +kernel
theorem dX10_addTank_33 : decode cX10_addTank 33 = .ok (.aload_n 0, 1) := by decide +kernel
theorem dX10_addTank_34 : decode cX10_addTank 34 = .ok (.getfield 40, 3) := by decide +kernel
theorem dX10_addTank_37 : decode cX10_addTank 37 = .ok (.iload 4, 2) := by decide +kernel
theorem dX10_addTank_39 : decode cX10_addTank 39 = .ok (.iastore, 1) := by decide +kernel
theorem dX10_addTank_40 : decode cX10_addTank 40 = .ok (.aload_n 0, 1) := by decide +kernel
theorem dX10_addTank_41 : decode cX10_addTank 41 = .ok (.getfield 22, 3) := by decide +kernel
theorem dX10_addTank_44 : decode cX10_addTank 44 = .ok (.aload_n 0, 1) := by decide +kernel
theorem dX10_addTank_45 : decode cX10_addTank 45 = .ok (.getfield 40, 3) := by decide +kernel
theorem dX10_addTank_48 : decode cX10_addTank 48 = .ok (.iload 4, 2) := by decide +kernel
theorem dX10_addTank_50 : decode cX10_addTank 50 = .ok (.iastore, 1) := by decide +kernel
theorem dX10_addTank_51 : decode cX10_addTank 51 = .ok (.aload_n 0, 1) := by decide +kernel
theorem dX10_addTank_52 : decode cX10_addTank 52 = .ok (.dup, 1) := by decide +kernel
theorem dX10_addTank_53 : decode cX10_addTank 53 = .ok (.getfield 40, 3) := by decide +kernel
theorem dX10_addTank_56 : decode cX10_addTank 56 = .ok (.iconst 1, 1) := by decide +kernel
theorem dX10_addTank_57 : decode cX10_addTank 57 = .ok (.iadd, 1) := by decide +kernel
theorem dX10_addTank_58 : decode cX10_addTank 58 = .ok (.putfield 40, 3) := by decide +kernel
theorem dX10_addTank_61 : decode cX10_addTank 61 = .ok (.return_, 1) := by decide +kernel
theorem dX10_addBurn_0 : decode cX10_addBurn 0 = .ok (.aload_n 0, 1) := by decide +kernel
theorem dX10_addBurn_1 : decode cX10_addBurn 1 = .ok (.getfield 44, 3) := by decide +kernel
theorem dX10_addBurn_4 : decode cX10_addBurn 4 = .ok (.bipush 12, 2) := by decide +kernel
theorem dX10_addBurn_6 : decode cX10_addBurn 6 = .ok (.if_icmp .ge 11, 3) := by decide +kernel
theorem dX10_addBurn_9 : decode cX10_addBurn 9 = .ok (.aload_n 0, 1) := by decide +kernel
theorem dX10_addBurn_10 : decode cX10_addBurn 10 = .ok (.iload_n 1, 1) := by decide +kernel
theorem dX10_addBurn_11 : decode cX10_addBurn 11 = .ok (.invokevirtual 56, 3) := by decide +kernel
theorem dX10_addBurn_14 : decode cX10_addBurn 14 = .ok (.ifCond .ne 4, 3) := by decide +kernel
theorem dX10_addBurn_17 : decode cX10_addBurn 17 = .ok (.return_, 1) := by decide +kernel
theorem dX10_addBurn_18 : decode cX10_addBurn 18 = .ok (.aload_n 0, 1) := by decide +kernel
theorem dX10_addBurn_19 : decode cX10_addBurn 19 = .ok (.getfield 22, 3) := by decide +kernel
theorem dX10_addBurn_22 : decode cX10_addBurn 22 = .ok (.iload_n 1, 1) := by decide +kernel
theorem dX10_addBurn_23 : decode cX10_addBurn 23 = .ok (.dup2, 1) := by decide +kernel
theorem dX10_addBurn_24 : decode cX10_addBurn 24 = .ok (.iaload, 1) := by decide +kernel
theorem dX10_addBurn_25 : decode cX10_addBurn 25 = .ok (.iload_n 2, 1) := by decide +kernel
theorem dX10_addBurn_26 : decode cX10_addBurn 26 = .ok (.isub, 1) := by decide +kernel
theorem dX10_addBurn_27 : decode cX10_addBurn 27 = .ok (.iastore, 1) := by decide +kernel
theorem dX10_addBurn_28 : decode cX10_addBurn 28 = .ok (.aload_n 0, 1) := by decide +kernel
theorem dX10_addBurn_29 : decode cX10_addBurn 29 = .ok (.getfield 25, 3) := by decide +kernel
theorem dX10_addBurn_32 : decode cX10_addBurn 32 = .ok (.aload_n 0, 1) := by decide +kernel
theorem dX10_addBurn_33 : decode cX10_addBurn 33 = .ok (.getfield 44, 3) := by decide +kernel
theorem dX10_addBurn_36 : decode cX10_addBurn 36 = .ok (.iload_n 1, 1) := by decide +kernel
theorem dX10_addBurn_37 : decode cX10_addBurn 37 = .ok (.iastore, 1) := by decide +kernel
theorem dX10_addBurn_38 : decode cX10_addBurn 38 = .ok (.aload_n 0, 1) := by decide +kernel
theorem dX10_addBurn_39 : decode cX10_addBurn 39 = .ok (.getfield 28, 3) := by decide +kernel
theorem dX10_addBurn_42 : decode cX10_addBurn 42 = .ok (.aload_n 0, 1) := by decide +kernel
theorem dX10_addBurn_43 : decode cX10_addBurn 43 = .ok (.getfield 44, 3) := by decide +kernel
theorem dX10_addBurn_46 : decode cX10_addBurn 46 = .ok (.iload_n 2, 1) := by decide +kernel
theorem dX10_addBurn_47 : decode cX10_addBurn 47 = .ok (.iastore, 1) := by decide +kernel
theorem dX10_addBurn_48 : decode cX10_addBurn 48 = .ok (.aload_n 0, 1) := by decide +kernel
theorem dX10_addBurn_49 : decode cX10_addBurn 49 = .ok (.dup, 1) := by decide +kernel
theorem dX10_addBurn_50 : decode cX10_addBurn 50 = .ok (.getfield 44, 3) := by decide +kernel
theorem dX10_addBurn_53 : decode cX10_addBurn 53 = .ok (.iconst 1, 1) := by decide +kernel
theorem dX10_addBurn_54 : decode cX10_addBurn 54 = .ok (.iadd, 1) := by decide +kernel
theorem dX10_addBurn_55 : decode cX10_addBurn 55 = .ok (.putfield 44, 3) := by decide +kernel
theorem dX10_addBurn_58 : decode cX10_addBurn 58 = .ok (.return_, 1) := by decide +kernel
theorem dX10_addStop_0 : decode cX10_addStop 0 = .ok (.aload_n 0, 1) := by decide +kernel
theorem dX10_addStop_1 : decode cX10_addStop 1 = .ok (.getfield 44, 3) := by decide +kernel
theorem dX10_addStop_4 : decode cX10_addStop 4 = .ok (.bipush 12, 2) := by decide +kernel
theorem dX10_addStop_6 : decode cX10_addStop 6 = .ok (.if_icmp .lt 4, 3) := by decide +kernel
theorem dX10_addStop_9 : decode cX10_addStop 9 = .ok (.return_, 1) := by decide +kernel
theorem dX10_addStop_10 : decode cX10_addStop 10 = .ok (.aload_n 0, 1) := by decide +kernel
theorem dX10_addStop_11 : decode cX10_addStop 11 = .ok (.getfield 25, 3) := by decide +kernel
theorem dX10_addStop_14 : decode cX10_addStop 14 = .ok (.aload_n 0, 1) := by decide +kernel
theorem dX10_addStop_15 : decode cX10_addStop 15 = .ok (.getfield 44, 3) := by decide +kernel
theorem dX10_addStop_18 : decode cX10_addStop 18 = .ok (.iconst (-1), 1) := by decide +kernel
theorem dX10_addStop_19 : decode cX10_addStop 19 = .ok (.iastore, 1) := by decide +kernel
theorem dX10_addStop_20 : decode cX10_addStop 20 = .ok (.aload_n 0, 1) := by decide +kernel
theorem dX10_addStop_21 : decode cX10_addStop 21 = .ok (.getfield 28, 3) := by decide +kernel
theorem dX10_addStop_24 : decode cX10_addStop 24 = .ok (.aload_n 0, 1) := by decide +kernel
theorem dX10_addStop_25 : decode cX10_addStop 25 = .ok (.getfield 44, 3) := by decide +kernel
theorem dX10_addStop_28 : decode cX10_addStop 28 = .ok (.iconst 0, 1) := by decide +kernel
theorem dX10_addStop_29 : decode cX10_addStop 29 = .ok (.iastore, 1) := by decide +kernel
theorem dX10_addStop_30 : decode cX10_addStop 30 = .ok (.aload_n 0, 1) := by decide +kernel
theorem dX10_addStop_31 : decode cX10_addStop 31 = .ok (.dup, 1) := by decide +kernel
theorem dX10_addStop_32 : decode cX10_addStop 32 = .ok (.getfield 44, 3) := by decide +kernel
theorem dX10_addStop_35 : decode cX10_addStop 35 = .ok (.iconst 1, 1) := by decide +kernel
theorem dX10_addStop_36 : decode cX10_addStop 36 = .ok (.iadd, 1) := by decide +kernel
theorem dX10_addStop_37 : decode cX10_addStop 37 = .ok (.putfield 44, 3) := by decide +kernel
theorem dX10_addStop_40 : decode cX10_addStop 40 = .ok (.aload_n 0, 1) := by decide +kernel
theorem dX10_addStop_41 : decode cX10_addStop 41 = .ok (.dup, 1) := by decide +kernel
theorem dX10_addStop_42 : decode cX10_addStop 42 = .ok (.getfield 47, 3) := by decide +kernel
theorem dX10_addStop_45 : decode cX10_addStop 45 = .ok (.iconst 1, 1) := by decide +kernel
theorem dX10_addStop_46 : decode cX10_addStop 46 = .ok (.iadd, 1) := by decide +kernel
theorem dX10_addStop_47 : decode cX10_addStop 47 = .ok (.putfield 47, 3) := by decide +kernel
theorem dX10_addStop_50 : decode cX10_addStop 50 = .ok (.return_, 1) := by decide +kernel
theorem dX10_reckon_0 : decode cX10_reckon 0 = .ok (.aload_n 0, 1) := by decide +kernel
theorem dX10_reckon_1 : decode cX10_reckon 1 = .ok (.getfield 31, 3) := by decide +kernel
theorem dX10_reckon_4 : decode cX10_reckon 4 = .ok (.iconst 0, 1) := by decide +kernel
theorem dX10_reckon_5 : decode cX10_reckon 5 = .ok (.iload_n 1, 1) := by decide +kernel
theorem dX10_reckon_6 : decode cX10_reckon 6 = .ok (.iastore, 1) := by decide +kernel
theorem dX10_reckon_7 : decode cX10_reckon 7 = .ok (.aload_n 0, 1) := by decide +kernel
theorem dX10_reckon_8 : decode cX10_reckon 8 = .ok (.getfield 34, 3) := by decide +kernel
theorem dX10_reckon_11 : decode cX10_reckon 11 = .ok (.iconst 0, 1) := by decide +kernel
theorem dX10_reckon_12 : decode cX10_reckon 12 = .ok (.iload_n 1, 1) := by decide +kernel
theorem dX10_reckon_13 : decode cX10_reckon 13 = .ok (.iload_n 2, 1) := by decide +kernel
theorem dX10_reckon_14 : decode cX10_reckon 14 = .ok (.imul, 1) := by decide +kernel
theorem dX10_reckon_15 : decode cX10_reckon 15 = .ok (.iastore, 1) := by decide +kernel
theorem dX10_reckon_16 : decode cX10_reckon 16 = .ok (.aload_n 0, 1) := by decide +kernel
theorem dX10_reckon_17 : decode cX10_reckon 17 = .ok (.getfield 37, 3) := by decide +kernel
theorem dX10_reckon_20 : decode cX10_reckon 20 = .ok (.iconst 0, 1) := by decide +kernel
theorem dX10_reckon_21 : decode cX10_reckon 21 = .ok (.iconst 0, 1) := by decide +kernel
theorem dX10_reckon_22 : decode cX10_reckon 22 = .ok (.iastore, 1) := by decide +kernel
theorem dX10_reckon_23 : decode cX10_reckon 23 = .ok (.iconst 0, 1) := by decide +kernel
theorem dX10_reckon_24 : decode cX10_reckon 24 = .ok (.istore_n 3, 1) := by decide +kernel
theorem dX10_reckon_25 : decode cX10_reckon 25 = .ok (.iload_n 3, 1) := by decide +kernel
theorem dX10_reckon_26 : decode cX10_reckon 26 = .ok (.aload_n 0, 1) := by decide +kernel
theorem dX10_reckon_27 : decode cX10_reckon 27 = .ok (.getfield 40, 3) := by decide +kernel
theorem dX10_reckon_30 : decode cX10_reckon 30 = .ok (.if_icmp .ge 46, 3) := by decide +kernel
theorem dX10_reckon_33 : decode cX10_reckon 33 = .ok (.aload_n 0, 1) := by decide +kernel
theorem dX10_reckon_34 : decode cX10_reckon 34 = .ok (.getfield 31, 3) := by decide +kernel
theorem dX10_reckon_37 : decode cX10_reckon 37 = .ok (.iconst 0, 1) := by decide +kernel
theorem dX10_reckon_38 : decode cX10_reckon 38 = .ok (.dup2, 1) := by decide +kernel
theorem dX10_reckon_39 : decode cX10_reckon 39 = .ok (.iaload, 1) := by decide +kernel
theorem dX10_reckon_40 : decode cX10_reckon 40 = .ok (.aload_n 0, 1) := by decide +kernel
theorem dX10_reckon_41 : decode cX10_reckon 41 = .ok (.getfield 19, 3) := by decide +kernel
theorem dX10_reckon_44 : decode cX10_reckon 44 = .ok (.iload_n 3, 1) := by decide +kernel
theorem dX10_reckon_45 : decode cX10_reckon 45 = .ok (.iaload, 1) := by decide +kernel
theorem dX10_reckon_46 : decode cX10_reckon 46 = .ok (.iadd, 1) := by decide +kernel
theorem dX10_reckon_47 : decode cX10_reckon 47 = .ok (.iastore, 1) := by decide +kernel
theorem dX10_reckon_48 : decode cX10_reckon 48 = .ok (.aload_n 0, 1) := by decide +kernel
theorem dX10_reckon_49 : decode cX10_reckon 49 = .ok (.getfield 34, 3) := by decide +kernel
theorem dX10_reckon_52 : decode cX10_reckon 52 = .ok (.iconst 0, 1) := by decide +kernel
theorem dX10_reckon_53 : decode cX10_reckon 53 = .ok (.dup2, 1) := by decide +kernel
theorem dX10_reckon_54 : decode cX10_reckon 54 = .ok (.iaload, 1) := by decide +kernel
theorem dX10_reckon_55 : decode cX10_reckon 55 = .ok (.aload_n 0, 1) := by decide +kernel
theorem dX10_reckon_56 : decode cX10_reckon 56 = .ok (.getfield 19, 3) := by decide +kernel
theorem dX10_reckon_59 : decode cX10_reckon 59 = .ok (.iload_n 3, 1) := by decide +kernel
theorem dX10_reckon_60 : decode cX10_reckon 60 = .ok (.iaload, 1) := by decide +kernel
theorem dX10_reckon_61 : decode cX10_reckon 61 = .ok (.aload_n 0, 1) := by decide +kernel
theorem dX10_reckon_62 : decode cX10_reckon 62 = .ok (.getfield 15, 3) := by decide +kernel
theorem dX10_reckon_65 : decode cX10_reckon 65 = .ok (.iload_n 3, 1) := by decide +kernel
theorem dX10_reckon_66 : decode cX10_reckon 66 = .ok (.iaload, 1) := by decide +kernel
theorem dX10_reckon_67 : decode cX10_reckon 67 = .ok (.imul, 1) := by decide +kernel
theorem dX10_reckon_68 : decode cX10_reckon 68 = .ok (.iadd, 1) := by decide +kernel
theorem dX10_reckon_69 : decode cX10_reckon 69 = .ok (.iastore, 1) := by decide +kernel
theorem dX10_reckon_70 : decode cX10_reckon 70 = .ok (.iinc 3 1, 3) := by decide +kernel
theorem dX10_reckon_73 : decode cX10_reckon 73 = .ok (.goto (-48), 3) := by decide +kernel
theorem dX10_reckon_76 : decode cX10_reckon 76 = .ok (.iconst 0, 1) := by decide +kernel
theorem dX10_reckon_77 : decode cX10_reckon 77 = .ok (.istore_n 3, 1) := by decide +kernel
theorem dX10_reckon_78 : decode cX10_reckon 78 = .ok (.iload_n 3, 1) := by decide +kernel
theorem dX10_reckon_79 : decode cX10_reckon 79 = .ok (.aload_n 0, 1) := by decide +kernel
theorem dX10_reckon_80 : decode cX10_reckon 80 = .ok (.getfield 44, 3) := by decide +kernel
theorem dX10_reckon_83 : decode cX10_reckon 83 = .ok (.if_icmp .ge 110, 3) := by decide +kernel
theorem dX10_reckon_86 : decode cX10_reckon 86 = .ok (.aload_n 0, 1) := by decide +kernel
theorem dX10_reckon_87 : decode cX10_reckon 87 = .ok (.getfield 25, 3) := by decide +kernel
theorem dX10_reckon_90 : decode cX10_reckon 90 = .ok (.iload_n 3, 1) := by decide +kernel
theorem dX10_reckon_91 : decode cX10_reckon 91 = .ok (.iaload, 1) := by decide +kernel
theorem dX10_reckon_92 : decode cX10_reckon 92 = .ok (.istore 4, 2) := by decide +kernel
theorem dX10_reckon_94 : decode cX10_reckon 94 = .ok (.aload_n 0, 1) := by decide +kernel
theorem dX10_reckon_95 : decode cX10_reckon 95 = .ok (.iload 4, 2) := by decide +kernel
theorem dX10_reckon_97 : decode cX10_reckon 97 = .ok (.invokevirtual 56, 3) := by decide +kernel
theorem dX10_reckon_100 : decode cX10_reckon 100 = .ok (.ifCond .eq 13, 3) := by decide +kernel
theorem dX10_reckon_103 : decode cX10_reckon 103 = .ok (.aload_n 0, 1) := by decide +kernel
theorem dX10_reckon_104 : decode cX10_reckon 104 = .ok (.getfield 15, 3) := by decide +kernel
theorem dX10_reckon_107 : decode cX10_reckon 107 = .ok (.iload 4, 2) := by decide +kernel
theorem dX10_reckon_109 : decode cX10_reckon 109 = .ok (.iaload, 1) := by decide +kernel
theorem dX10_reckon_110 : decode cX10_reckon 110 = .ok (.goto 4, 3) := by decide +kernel
theorem dX10_reckon_113 : decode cX10_reckon 113 = .ok (.iconst 0, 1) := by decide +kernel
theorem dX10_reckon_114 : decode cX10_reckon 114 = .ok (.istore 5, 2) := by decide +kernel
theorem dX10_reckon_116 : decode cX10_reckon 116 = .ok (.aload_n 0, 1) := by decide +kernel
theorem dX10_reckon_117 : decode cX10_reckon 117 = .ok (.getfield 31, 3) := by decide +kernel
theorem dX10_reckon_120 : decode cX10_reckon 120 = .ok (.iload_n 3, 1) := by decide +kernel
theorem dX10_reckon_121 : decode cX10_reckon 121 = .ok (.iconst 1, 1) := by decide +kernel
theorem dX10_reckon_122 : decode cX10_reckon 122 = .ok (.iadd, 1) := by decide +kernel
theorem dX10_reckon_123 : decode cX10_reckon 123 = .ok (.aload_n 0, 1) := by decide +kernel
theorem dX10_reckon_124 : decode cX10_reckon 124 = .ok (.getfield 31, 3) := by decide +kernel
theorem dX10_reckon_127 : decode cX10_reckon 127 = .ok (.iload_n 3, 1) := by decide +kernel
theorem dX10_reckon_128 : decode cX10_reckon 128 = .ok (.iaload, 1) := by decide +kernel
theorem dX10_reckon_129 : decode cX10_reckon 129 = .ok (.aload_n 0, 1) := by decide +kernel
theorem dX10_reckon_130 : decode cX10_reckon 130 = .ok (.getfield 28, 3) := by decide +kernel
theorem dX10_reckon_133 : decode cX10_reckon 133 = .ok (.iload_n 3, 1) := by decide +kernel
theorem dX10_reckon_134 : decode cX10_reckon 134 = .ok (.iaload, 1) := by decide +kernel
theorem dX10_reckon_135 : decode cX10_reckon 135 = .ok (.isub, 1) := by decide +kernel
theorem dX10_reckon_136 : decode cX10_reckon 136 = .ok (.iastore, 1) := by decide +kernel
theorem dX10_reckon_137 : decode cX10_reckon 137 = .ok (.aload_n 0, 1) := by decide +kernel
theorem dX10_reckon_138 : decode cX10_reckon 138 = .ok (.getfield 34, 3) := by decide +kernel
theorem dX10_reckon_141 : decode cX10_reckon 141 = .ok (.iload_n 3, 1) := by decide +kernel
theorem dX10_reckon_142 : decode cX10_reckon 142 = .ok (.iconst 1, 1) := by decide +kernel
theorem dX10_reckon_143 : decode cX10_reckon 143 = .ok (.iadd, 1) := by decide +kernel
theorem dX10_reckon_144 : decode cX10_reckon 144 = .ok (.aload_n 0, 1) := by decide +kernel
theorem dX10_reckon_145 : decode cX10_reckon 145 = .ok (.getfield 34, 3) := by decide +kernel
theorem dX10_reckon_148 : decode cX10_reckon 148 = .ok (.iload_n 3, 1) := by decide +kernel
theorem dX10_reckon_149 : decode cX10_reckon 149 = .ok (.iaload, 1) := by decide +kernel
theorem dX10_reckon_150 : decode cX10_reckon 150 = .ok (.aload_n 0, 1) := by decide +kernel
theorem dX10_reckon_151 : decode cX10_reckon 151 = .ok (.getfield 28, 3) := by decide +kernel
theorem dX10_reckon_154 : decode cX10_reckon 154 = .ok (.iload_n 3, 1) := by decide +kernel
theorem dX10_reckon_155 : decode cX10_reckon 155 = .ok (.iaload, 1) := by decide +kernel
theorem dX10_reckon_156 : decode cX10_reckon 156 = .ok (.iload 5, 2) := by decide +kernel
theorem dX10_reckon_158 : decode cX10_reckon 158 = .ok (.imul, 1) := by decide +kernel
theorem dX10_reckon_159 : decode cX10_reckon 159 = .ok (.isub, 1) := by decide +kernel
theorem dX10_reckon_160 : decode cX10_reckon 160 = .ok (.iastore, 1) := by decide +kernel
theorem dX10_reckon_161 : decode cX10_reckon 161 = .ok (.aload_n 0, 1) := by decide +kernel
theorem dX10_reckon_162 : decode cX10_reckon 162 = .ok (.getfield 37, 3) := by decide +kernel
theorem dX10_reckon_165 : decode cX10_reckon 165 = .ok (.iload_n 3, 1) := by decide +kernel
theorem dX10_reckon_166 : decode cX10_reckon 166 = .ok (.iconst 1, 1) := by decide +kernel
theorem dX10_reckon_167 : decode cX10_reckon 167 = .ok (.iadd, 1) := by decide +kernel
theorem dX10_reckon_168 : decode cX10_reckon 168 = .ok (.aload_n 0, 1) := by decide +kernel
theorem dX10_reckon_169 : decode cX10_reckon 169 = .ok (.getfield 37, 3) := by decide +kernel
theorem dX10_reckon_172 : decode cX10_reckon 172 = .ok (.iload_n 3, 1) := by decide +kernel
theorem dX10_reckon_173 : decode cX10_reckon 173 = .ok (.iaload, 1) := by decide +kernel
theorem dX10_reckon_174 : decode cX10_reckon 174 = .ok (.iload 4, 2) := by decide +kernel
theorem dX10_reckon_176 : decode cX10_reckon 176 = .ok (.iconst (-1), 1) := by decide +kernel
theorem dX10_reckon_177 : decode cX10_reckon 177 = .ok (.if_icmp .ne 7, 3) := by decide +kernel
theorem dX10_reckon_180 : decode cX10_reckon 180 = .ok (.iconst 1, 1) := by decide +kernel
theorem dX10_reckon_181 : decode cX10_reckon 181 = .ok (.goto 4, 3) := by decide +kernel
theorem dX10_reckon_184 : decode cX10_reckon 184 = .ok (.iconst 0, 1) := by decide +kernel
theorem dX10_reckon_185 : decode cX10_reckon 185 = .ok (.iadd, 1) := by decide +kernel
theorem dX10_reckon_186 : decode cX10_reckon 186 = .ok (.iastore, 1) := by decide +kernel
theorem dX10_reckon_187 : decode cX10_reckon 187 = .ok (.iinc 3 1, 3) := by decide +kernel
theorem dX10_reckon_190 : decode cX10_reckon 190 = .ok (.goto (-112), 3) := by decide +kernel
theorem dX10_reckon_193 : decode cX10_reckon 193 = .ok (.return_, 1) := by decide +kernel
theorem dX11_init_0 : decode cX11_init 0 = .ok (.aload_n 0, 1) := by decide +kernel
theorem dX11_init_1 : decode cX11_init 1 = .ok (.invokespecial 1, 3) := by decide +kernel
theorem dX11_init_4 : decode cX11_init 4 = .ok (.aload_n 0, 1) := by decide +kernel
theorem dX11_init_5 : decode cX11_init 5 = .ok (.new 7, 3) := by decide +kernel
theorem dX11_init_8 : decode cX11_init 8 = .ok (.dup, 1) := by decide +kernel
theorem dX11_init_9 : decode cX11_init 9 = .ok (.invokespecial 9, 3) := by decide +kernel
theorem dX11_init_12 : decode cX11_init 12 = .ok (.putfield 10, 3) := by decide +kernel
theorem dX11_init_15 : decode cX11_init 15 = .ok (.aload_n 0, 1) := by decide +kernel
theorem dX11_init_16 : decode cX11_init 16 = .ok (.new 16, 3) := by decide +kernel
theorem dX11_init_19 : decode cX11_init 19 = .ok (.dup, 1) := by decide +kernel
theorem dX11_init_20 : decode cX11_init 20 = .ok (.invokespecial 18, 3) := by decide +kernel
theorem dX11_init_23 : decode cX11_init 23 = .ok (.putfield 19, 3) := by decide +kernel
theorem dX11_init_26 : decode cX11_init 26 = .ok (.aload_n 0, 1) := by decide +kernel
theorem dX11_init_27 : decode cX11_init 27 = .ok (.new 16, 3) := by decide +kernel
theorem dX11_init_30 : decode cX11_init 30 = .ok (.dup, 1) := by decide +kernel
theorem dX11_init_31 : decode cX11_init 31 = .ok (.invokespecial 18, 3) := by decide +kernel
theorem dX11_init_34 : decode cX11_init 34 = .ok (.putfield 23, 3) := by decide +kernel
theorem dX11_init_37 : decode cX11_init 37 = .ok (.aload_n 0, 1) := by decide +kernel
theorem dX11_init_38 : decode cX11_init 38 = .ok (.new 26, 3) := by decide +kernel
theorem dX11_init_41 : decode cX11_init 41 = .ok (.dup, 1) := by decide +kernel
theorem dX11_init_42 : decode cX11_init 42 = .ok (.invokespecial 28, 3) := by decide +kernel
theorem dX11_init_45 : decode cX11_init 45 = .ok (.putfield 29, 3) := by decide +kernel
theorem dX11_init_48 : decode cX11_init 48 = .ok (.aload_n 0, 1) := by decide +kernel
theorem dX11_init_49 : decode cX11_init 49 = .ok (.new 26, 3) := by decide +kernel
theorem dX11_init_52 : decode cX11_init 52 = .ok (.dup, 1) := by decide +kernel
theorem dX11_init_53 : decode cX11_init 53 = .ok (.invokespecial 28, 3) := by decide +kernel
theorem dX11_init_56 : decode cX11_init 56 = .ok (.putfield 33, 3) := by decide +kernel
theorem dX11_init_59 : decode cX11_init 59 = .ok (.aload_n 0, 1) := by decide +kernel
theorem dX11_init_60 : decode cX11_init 60 = .ok (.new 36, 3) := by decide +kernel
theorem dX11_init_63 : decode cX11_init 63 = .ok (.dup, 1) := by decide +kernel
theorem dX11_init_64 : decode cX11_init 64 = .ok (.invokespecial 38, 3) := by decide +kernel
theorem dX11_init_67 : decode cX11_init 67 = .ok (.putfield 39, 3) := by decide +kernel
theorem dX11_init_70 : decode cX11_init 70 = .ok (.aload_n 0, 1) := by decide +kernel
theorem dX11_init_71 : decode cX11_init 71 = .ok (.new 43, 3) := by decide +kernel
theorem dX11_init_74 : decode cX11_init 74 = .ok (.dup, 1) := by decide +kernel
theorem dX11_init_75 : decode cX11_init 75 = .ok (.invokespecial 45, 3) := by decide +kernel
theorem dX11_init_78 : decode cX11_init 78 = .ok (.putfield 46, 3) := by decide +kernel
theorem dX11_init_81 : decode cX11_init 81 = .ok (.aload_n 0, 1) := by decide +kernel
theorem dX11_init_82 : decode cX11_init 82 = .ok (.new 43, 3) := by decide +kernel
theorem dX11_init_85 : decode cX11_init 85 = .ok (.dup, 1) := by decide +kernel
theorem dX11_init_86 : decode cX11_init 86 = .ok (.invokespecial 45, 3) := by decide +kernel
theorem dX11_init_89 : decode cX11_init 89 = .ok (.putfield 50, 3) := by decide +kernel
theorem dX11_init_92 : decode cX11_init 92 = .ok (.aload_n 0, 1) := by decide +kernel
theorem dX11_init_93 : decode cX11_init 93 = .ok (.new 53, 3) := by decide +kernel
theorem dX11_init_96 : decode cX11_init 96 = .ok (.dup, 1) := by decide +kernel
theorem dX11_init_97 : decode cX11_init 97 = .ok (.invokespecial 55, 3) := by decide +kernel
theorem dX11_init_100 : decode cX11_init 100 = .ok (.putfield 56, 3) := by decide +kernel
theorem dX11_init_103 : decode cX11_init 103 = .ok (.aload_n 0, 1) := by decide +kernel
theorem dX11_init_104 : decode cX11_init 104 = .ok (.new 60, 3) := by decide +kernel
theorem dX11_init_107 : decode cX11_init 107 = .ok (.dup, 1) := by decide +kernel
theorem dX11_init_108 : decode cX11_init 108 = .ok (.invokespecial 62, 3) := by decide +kernel
theorem dX11_init_111 : decode cX11_init 111 = .ok (.putfield 63, 3) := by decide +kernel
theorem dX11_init_114 : decode cX11_init 114 = .ok (.return_, 1) := by decide +kernel
theorem dX11_feed_0 : decode cX11_feed 0 = .ok (.aload_n 0, 1) := by decide +kernel
theorem dX11_feed_1 : decode cX11_feed 1 = .ok (.getfield 10, 3) := by decide +kernel
theorem dX11_feed_4 : decode cX11_feed 4 = .ok (.getfield 67, 3) := by decide +kernel
theorem dX11_feed_7 : decode cX11_feed 7 = .ok (.astore 6, 2) := by decide +kernel
theorem dX11_feed_9 : decode cX11_feed 9 = .ok (.aload 6, 2) := by decide +kernel
theorem dX11_feed_11 : decode cX11_feed 11 = .ok (.getfield 71, 3) := by decide +kernel
theorem dX11_feed_14 : decode cX11_feed 14 = .ok (.bipush 20, 2) := by decide +kernel
theorem dX11_feed_16 : decode cX11_feed 16 = .ok (.iadd, 1) := by decide +kernel
theorem dX11_feed_17 : decode cX11_feed 17 = .ok (.sipush 540, 3) := by decide +kernel
theorem dX11_feed_20 : decode cX11_feed 20 = .ok (.if_icmp .le 5, 3) := by decide +kernel
theorem dX11_feed_23 : decode cX11_feed 23 = .ok (.iconst (-1), 1) := by decide +kernel
theorem dX11_feed_24 : decode cX11_feed 24 = .ok (.ireturn, 1) := by decide +kernel
theorem dX11_feed_25 : decode cX11_feed 25 = .ok (.aload 6, 2) := by decide +kernel
theorem dX11_feed_27 : decode cX11_feed 27 = .ok (.iload_n 1, 1) := by decide +kernel
theorem dX11_feed_28 : decode cX11_feed 28 = .ok (.invokevirtual 77, 3) := by decide +kernel
theorem dX11_feed_31 : decode cX11_feed 31 = .ok (.aload 6, 2) := by decide +kernel
theorem dX11_feed_33 : decode cX11_feed 33 = .ok (.iload_n 2, 1) := by decide +kernel
theorem dX11_feed_34 : decode cX11_feed 34 = .ok (.invokevirtual 77, 3) := by decide +kernel
theorem dX11_feed_37 : decode cX11_feed 37 = .ok (.aload 6, 2) := by decide +kernel
theorem dX11_feed_39 : decode cX11_feed 39 = .ok (.iload_n 3, 1) := by decide +kernel
theorem dX11_feed_40 : decode cX11_feed 40 = .ok (.invokevirtual 77, 3) := by decide +kernel
theorem dX11_feed_43 : decode cX11_feed 43 = .ok (.aload 6, 2) := by decide +kernel
theorem dX11_feed_45 : decode cX11_feed 45 = .ok (.iload 4, 2) := by decide +kernel
theorem dX11_feed_47 : decode cX11_feed 47 = .ok (.invokevirtual 77, 3) := by decide +kernel
theorem dX11_feed_50 : decode cX11_feed 50 = .ok (.aload 6, 2) := by decide +kernel
theorem dX11_feed_52 : decode cX11_feed 52 = .ok (.iload 5, 2) := by decide +kernel
theorem dX11_feed_54 : decode cX11_feed 54 = .ok (.invokevirtual 77, 3) := by decide +kernel
theorem dX11_feed_57 : decode cX11_feed 57 = .ok (.aload 6, 2) := by decide +kernel
theorem dX11_feed_59 : decode cX11_feed 59 = .ok (.getfield 71, 3) := by decide +kernel
theorem dX11_feed_62 : decode cX11_feed 62 = .ok (.ireturn, 1) := by decide +kernel
theorem dX11_end_0 : decode cX11_end 0 = .ok (.iload_n 1, 1) := by decide +kernel
theorem dX11_end_1 : decode cX11_end 1 = .ok (.ifCond .lt 17, 3) := by decide +kernel
theorem dX11_end_4 : decode cX11_end 4 = .ok (.iload_n 1, 1) := by decide +kernel
theorem dX11_end_5 : decode cX11_end 5 = .ok (.aload_n 0, 1) := by decide +kernel
theorem dX11_end_6 : decode cX11_end 6 = .ok (.getfield 10, 3) := by decide +kernel
theorem dX11_end_9 : decode cX11_end 9 = .ok (.getfield 67, 3) := by decide +kernel
theorem dX11_end_12 : decode cX11_end 12 = .ok (.getfield 71, 3) := by decide +kernel
theorem dX11_end_15 : decode cX11_end 15 = .ok (.if_icmp .le 5, 3) := by decide +kernel
theorem dX11_end_18 : decode cX11_end 18 = .ok (.iconst 0, 1) := by decide +kernel
theorem dX11_end_19 : decode cX11_end 19 = .ok (.ireturn, 1) := by decide +kernel
theorem dX11_end_20 : decode cX11_end 20 = .ok (.aload_n 0, 1) := by decide +kernel
theorem dX11_end_21 : decode cX11_end 21 = .ok (.getfield 10, 3) := by decide +kernel
theorem dX11_end_24 : decode cX11_end 24 = .ok (.getfield 67, 3) := by decide +kernel
theorem dX11_end_27 : decode cX11_end 27 = .ok (.iload_n 1, 1) := by decide +kernel
theorem dX11_end_28 : decode cX11_end 28 = .ok (.putfield 71, 3) := by decide +kernel
theorem dX11_end_31 : decode cX11_end 31 = .ok (.iconst 1, 1) := by decide +kernel
theorem dX11_end_32 : decode cX11_end 32 = .ok (.ireturn, 1) := by decide +kernel
theorem dX11_plane_0 : decode cX11_plane 0 = .ok (.aload_n 0, 1) := by decide +kernel
theorem dX11_plane_1 : decode cX11_plane 1 = .ok (.getfield 10, 3) := by decide +kernel
theorem dX11_plane_4 : decode cX11_plane 4 = .ok (.aload_n 0, 1) := by decide +kernel
theorem dX11_plane_5 : decode cX11_plane 5 = .ok (.getfield 23, 3) := by decide +kernel
theorem dX11_plane_8 : decode cX11_plane 8 = .ok (.invokevirtual 81, 3) := by decide +kernel
theorem dX11_plane_11 : decode cX11_plane 11 = .ok (.aload_n 0, 1) := by decide +kernel
theorem dX11_plane_12 : decode cX11_plane 12 = .ok (.aload_n 0, 1) := by decide +kernel
theorem dX11_plane_13 : decode cX11_plane 13 = .ok (.getfield 10, 3) := by decide +kernel
theorem dX11_plane_16 : decode cX11_plane 16 = .ok (.getfield 67, 3) := by decide +kernel
theorem dX11_plane_19 : decode cX11_plane 19 = .ok (.getfield 85, 3) := by decide +kernel
theorem dX11_plane_22 : decode cX11_plane 22 = .ok (.putfield 88, 3) := by decide +kernel
theorem dX11_plane_25 : decode cX11_plane 25 = .ok (.aload_n 0, 1) := by decide +kernel
theorem dX11_plane_26 : decode cX11_plane 26 = .ok (.getfield 88, 3) := by decide +kernel
theorem dX11_plane_29 : decode cX11_plane 29 = .ok (.ifCond .eq 18, 3) := by decide +kernel
theorem dX11_plane_32 : decode cX11_plane 32 = .ok (.sipush (-1000), 3) := by decide +kernel
theorem dX11_plane_35 : decode cX11_plane 35 = .ok (.aload_n 0, 1) := by decide +kernel
theorem dX11_plane_36 : decode cX11_plane 36 = .ok (.getfield 10, 3) := by decide +kernel
theorem dX11_plane_39 : decode cX11_plane 39 = .ok (.getfield 67, 3) := by decide +kernel
theorem dX11_plane_42 : decode cX11_plane 42 = .ok (.getfield 91, 3) := by decide +kernel
theorem dX11_plane_45 : decode cX11_plane 45 = .ok (.isub, 1) := by decide +kernel
theorem dX11_plane_46 : decode cX11_plane 46 = .ok (.ireturn, 1) := by decide +kernel
theorem dX11_plane_47 : decode cX11_plane 47 = .ok (.aload_n 0, 1) := by decide +kernel
theorem dX11_plane_48 : decode cX11_plane 48 = .ok (.getfield 19, 3) := by decide +kernel
theorem dX11_plane_51 : decode cX11_plane 51 = .ok (.astore_n 1, 1) := by decide +kernel
theorem dX11_plane_52 : decode cX11_plane 52 = .ok (.aload_n 0, 1) := by decide +kernel
theorem dX11_plane_53 : decode cX11_plane 53 = .ok (.aload_n 0, 1) := by decide +kernel
theorem dX11_plane_54 : decode cX11_plane 54 = .ok (.getfield 23, 3) := by decide +kernel
theorem dX11_plane_57 : decode cX11_plane 57 = .ok (.putfield 19, 3) := by decide +kernel
theorem dX11_plane_60 : decode cX11_plane 60 = .ok (.aload_n 0, 1) := by decide +kernel
theorem dX11_plane_61 : decode cX11_plane 61 = .ok (.aload_n 1, 1) := by decide +kernel
theorem dX11_plane_62 : decode cX11_plane 62 = .ok (.putfield 23, 3) := by decide +kernel
theorem dX11_plane_65 : decode cX11_plane 65 = .ok (.aload_n 0, 1) := by decide +kernel
theorem dX11_plane_66 : decode cX11_plane 66 = .ok (.invokevirtual 94, 3) := by decide +kernel
theorem dX11_plane_69 : decode cX11_plane 69 = .ok (.aload_n 0, 1) := by decide +kernel
theorem dX11_plane_70 : decode cX11_plane 70 = .ok (.getfield 19, 3) := by decide +kernel
theorem dX11_plane_73 : decode cX11_plane 73 = .ok (.getfield 97, 3) := by decide +kernel
theorem dX11_plane_76 : decode cX11_plane 76 = .ok (.getfield 101, 3) := by decide +kernel
theorem dX11_plane_79 : decode cX11_plane 79 = .ok (.ireturn, 1) := by decide +kernel
theorem dX11_cargo_0 : decode cX11_cargo 0 = .ok (.aload_n 0, 1) := by decide +kernel
theorem dX11_cargo_1 : decode cX11_cargo 1 = .ok (.getfield 10, 3) := by decide +kernel
theorem dX11_cargo_4 : decode cX11_cargo 4 = .ok (.aload_n 0, 1) := by decide +kernel
theorem dX11_cargo_5 : decode cX11_cargo 5 = .ok (.getfield 33, 3) := by decide +kernel
theorem dX11_cargo_8 : decode cX11_cargo 8 = .ok (.invokevirtual 106, 3) := by decide +kernel
theorem dX11_cargo_11 : decode cX11_cargo 11 = .ok (.aload_n 0, 1) := by decide +kernel
theorem dX11_cargo_12 : decode cX11_cargo 12 = .ok (.aload_n 0, 1) := by decide +kernel
theorem dX11_cargo_13 : decode cX11_cargo 13 = .ok (.getfield 10, 3) := by decide +kernel
theorem dX11_cargo_16 : decode cX11_cargo 16 = .ok (.getfield 67, 3) := by decide +kernel
theorem dX11_cargo_19 : decode cX11_cargo 19 = .ok (.getfield 85, 3) := by decide +kernel
theorem dX11_cargo_22 : decode cX11_cargo 22 = .ok (.putfield 88, 3) := by decide +kernel
theorem dX11_cargo_25 : decode cX11_cargo 25 = .ok (.aload_n 0, 1) := by decide +kernel
theorem dX11_cargo_26 : decode cX11_cargo 26 = .ok (.getfield 88, 3) := by decide +kernel
theorem dX11_cargo_29 : decode cX11_cargo 29 = .ok (.ifCond .eq 18, 3) := by decide +kernel
theorem dX11_cargo_32 : decode cX11_cargo 32 = .ok (.sipush (-1000), 3) := by decide +kernel
theorem dX11_cargo_35 : decode cX11_cargo 35 = .ok (.aload_n 0, 1) := by decide +kernel
theorem dX11_cargo_36 : decode cX11_cargo 36 = .ok (.getfield 10, 3) := by decide +kernel
theorem dX11_cargo_39 : decode cX11_cargo 39 = .ok (.getfield 67, 3) := by decide +kernel
theorem dX11_cargo_42 : decode cX11_cargo 42 = .ok (.getfield 91, 3) := by decide +kernel
theorem dX11_cargo_45 : decode cX11_cargo 45 = .ok (.isub, 1) := by decide +kernel
theorem dX11_cargo_46 : decode cX11_cargo 46 = .ok (.ireturn, 1) := by decide +kernel
theorem dX11_cargo_47 : decode cX11_cargo 47 = .ok (.aload_n 0, 1) := by decide +kernel
theorem dX11_cargo_48 : decode cX11_cargo 48 = .ok (.getfield 29, 3) := by decide +kernel
theorem dX11_cargo_51 : decode cX11_cargo 51 = .ok (.astore_n 1, 1) := by decide +kernel
theorem dX11_cargo_52 : decode cX11_cargo 52 = .ok (.aload_n 0, 1) := by decide +kernel
theorem dX11_cargo_53 : decode cX11_cargo 53 = .ok (.aload_n 0, 1) := by decide +kernel
theorem dX11_cargo_54 : decode cX11_cargo 54 = .ok (.getfield 33, 3) := by decide +kernel
theorem dX11_cargo_57 : decode cX11_cargo 57 = .ok (.putfield 29, 3) := by decide +kernel
theorem dX11_cargo_60 : decode cX11_cargo 60 = .ok (.aload_n 0, 1) := by decide +kernel
theorem dX11_cargo_61 : decode cX11_cargo 61 = .ok (.aload_n 1, 1) := by decide +kernel
theorem dX11_cargo_62 : decode cX11_cargo 62 = .ok (.putfield 33, 3) := by decide +kernel
theorem dX11_cargo_65 : decode cX11_cargo 65 = .ok (.aload_n 0, 1) := by decide +kernel
theorem dX11_cargo_66 : decode cX11_cargo 66 = .ok (.invokevirtual 94, 3) := by decide +kernel
theorem dX11_cargo_69 : decode cX11_cargo 69 = .ok (.aload_n 0, 1) := by decide +kernel
theorem dX11_cargo_70 : decode cX11_cargo 70 = .ok (.getfield 29, 3) := by decide +kernel
theorem dX11_cargo_73 : decode cX11_cargo 73 = .ok (.getfield 110, 3) := by decide +kernel
theorem dX11_cargo_76 : decode cX11_cargo 76 = .ok (.ireturn, 1) := by decide +kernel
theorem dX11_fault_0 : decode cX11_fault 0 = .ok (.aload_n 0, 1) := by decide +kernel
theorem dX11_fault_1 : decode cX11_fault 1 = .ok (.getfield 88, 3) := by decide +kernel
theorem dX11_fault_4 : decode cX11_fault 4 = .ok (.ireturn, 1) := by decide +kernel
theorem dX11_count_0 : decode cX11_count 0 = .ok (.iload_n 1, 1) := by decide +kernel
theorem dX11_count_1 : decode cX11_count 1 = .ok (.tableswitch 168 0 10 #[59, 70, 81, 92, 100, 111, 122, 133, 141, 149, 157], 59) := by decide +kernel
theorem dX11_count_60 : decode cX11_count 60 = .ok (.aload_n 0, 1) := by decide +kernel
theorem dX11_count_61 : decode cX11_count 61 = .ok (.getfield 19, 3) := by decide +kernel
theorem dX11_count_64 : decode cX11_count 64 = .ok (.getfield 97, 3) := by decide +kernel
theorem dX11_count_67 : decode cX11_count 67 = .ok (.getfield 113, 3) := by decide +kernel
theorem dX11_count_70 : decode cX11_count 70 = .ok (.ireturn, 1) := by decide +kernel
theorem dX11_count_71 : decode cX11_count 71 = .ok (.aload_n 0, 1) := by decide +kernel
theorem dX11_count_72 : decode cX11_count 72 = .ok (.getfield 19, 3) := by decide +kernel
theorem dX11_count_75 : decode cX11_count 75 = .ok (.getfield 97, 3) := by decide +kernel
theorem dX11_count_78 : decode cX11_count 78 = .ok (.getfield 101, 3) := by decide +kernel
theorem dX11_count_81 : decode cX11_count 81 = .ok (.ireturn, 1) := by decide +kernel
theorem dX11_count_82 : decode cX11_count 82 = .ok (.aload_n 0, 1) := by decide +kernel
theorem dX11_count_83 : decode cX11_count 83 = .ok (.getfield 19, 3) := by decide +kernel
theorem dX11_count_86 : decode cX11_count 86 = .ok (.getfield 97, 3) := by decide +kernel
theorem dX11_count_89 : decode cX11_count 89 = .ok (.getfield 116, 3) := by decide +kernel
theorem dX11_count_92 : decode cX11_count 92 = .ok (.ireturn, 1) := by decide +kernel
theorem dX11_count_93 : decode cX11_count 93 = .ok (.aload_n 0, 1) := by decide +kernel
theorem dX11_count_94 : decode cX11_count 94 = .ok (.getfield 19, 3) := by decide +kernel
theorem dX11_count_97 : decode cX11_count 97 = .ok (.getfield 119, 3) := by decide +kernel
theorem dX11_count_100 : decode cX11_count 100 = .ok (.ireturn, 1) := by decide +kernel
theorem dX11_count_101 : decode cX11_count 101 = .ok (.aload_n 0, 1) := by decide +kernel
theorem dX11_count_102 : decode cX11_count 102 = .ok (.getfield 19, 3) := by decide +kernel
theorem dX11_count_105 : decode cX11_count 105 = .ok (.getfield 122, 3) := by decide +kernel
theorem dX11_count_108 : decode cX11_count 108 = .ok (.getfield 126, 3) := by decide +kernel
theorem dX11_count_111 : decode cX11_count 111 = .ok (.ireturn, 1) := by decide +kernel
theorem dX11_count_112 : decode cX11_count 112 = .ok (.aload_n 0, 1) := by decide +kernel
theorem dX11_count_113 : decode cX11_count 113 = .ok (.getfield 19, 3) := by decide +kernel
theorem dX11_count_116 : decode cX11_count 116 = .ok (.getfield 122, 3) := by decide +kernel
theorem dX11_count_119 : decode cX11_count 119 = .ok (.getfield 131, 3) := by decide +kernel
theorem dX11_count_122 : decode cX11_count 122 = .ok (.ireturn, 1) := by decide +kernel
theorem dX11_count_123 : decode cX11_count 123 = .ok (.aload_n 0, 1) := by decide +kernel
theorem dX11_count_124 : decode cX11_count 124 = .ok (.getfield 19, 3) := by decide +kernel
theorem dX11_count_127 : decode cX11_count 127 = .ok (.getfield 122, 3) := by decide +kernel
theorem dX11_count_130 : decode cX11_count 130 = .ok (.getfield 134, 3) := by decide +kernel
theorem dX11_count_133 : decode cX11_count 133 = .ok (.ireturn, 1) := by decide +kernel
theorem dX11_count_134 : decode cX11_count 134 = .ok (.aload_n 0, 1) := by decide +kernel
theorem dX11_count_135 : decode cX11_count 135 = .ok (.getfield 29, 3) := by decide +kernel
theorem dX11_count_138 : decode cX11_count 138 = .ok (.getfield 110, 3) := by decide +kernel
theorem dX11_count_141 : decode cX11_count 141 = .ok (.ireturn, 1) := by decide +kernel
theorem dX11_count_142 : decode cX11_count 142 = .ok (.aload_n 0, 1) := by decide +kernel
theorem dX11_count_143 : decode cX11_count 143 = .ok (.getfield 29, 3) := by decide +kernel
theorem dX11_count_146 : decode cX11_count 146 = .ok (.getfield 137, 3) := by decide +kernel
theorem dX11_count_149 : decode cX11_count 149 = .ok (.ireturn, 1) := by decide +kernel
theorem dX11_count_150 : decode cX11_count 150 = .ok (.aload_n 0, 1) := by decide +kernel
theorem dX11_count_151 : decode cX11_count 151 = .ok (.getfield 29, 3) := by decide +kernel
theorem dX11_count_154 : decode cX11_count 154 = .ok (.invokevirtual 140, 3) := by decide +kernel
theorem dX11_count_157 : decode cX11_count 157 = .ok (.ireturn, 1) := by decide +kernel
theorem dX11_count_158 : decode cX11_count 158 = .ok (.aload_n 0, 1) := by decide +kernel
theorem dX11_count_159 : decode cX11_count 159 = .ok (.getfield 10, 3) := by decide +kernel
theorem dX11_count_162 : decode cX11_count 162 = .ok (.getfield 67, 3) := by decide +kernel
theorem dX11_count_165 : decode cX11_count 165 = .ok (.getfield 71, 3) := by decide +kernel
theorem dX11_count_168 : decode cX11_count 168 = .ok (.ireturn, 1) := by decide +kernel
theorem dX11_count_169 : decode cX11_count 169 = .ok (.iconst (-1), 1) := by decide +kernel
theorem dX11_count_170 : decode cX11_count 170 = .ok (.ireturn, 1) := by decide +kernel
theorem dX11_pallet_0 : decode cX11_pallet 0 = .ok (.aload_n 0, 1) := by decide +kernel
theorem dX11_pallet_1 : decode cX11_pallet 1 = .ok (.getfield 29, 3) := by decide +kernel
theorem dX11_pallet_4 : decode cX11_pallet 4 = .ok (.iload_n 1, 1) := by decide +kernel
theorem dX11_pallet_5 : decode cX11_pallet 5 = .ok (.invokevirtual 144, 3) := by decide +kernel
theorem dX11_pallet_8 : decode cX11_pallet 8 = .ok (.ifCond .ne 5, 3) := by decide +kernel
theorem dX11_pallet_11 : decode cX11_pallet 11 = .ok (.iconst (-1), 1) := by decide +kernel
theorem dX11_pallet_12 : decode cX11_pallet 12 = .ok (.ireturn, 1) := by decide +kernel
theorem dX11_pallet_13 : decode cX11_pallet 13 = .ok (.iload_n 2, 1) := by decide +kernel
theorem dX11_pallet_14 : decode cX11_pallet 14 = .ok (.tableswitch 73 0 3 #[30, 40, 50, 60], 30) := by decide +kernel
theorem dX11_pallet_44 : decode cX11_pallet 44 = .ok (.aload_n 0, 1) := by decide +kernel
theorem dX11_pallet_45 : decode cX11_pallet 45 = .ok (.getfield 29, 3) := by decide +kernel
theorem dX11_pallet_48 : decode cX11_pallet 48 = .ok (.getfield 148, 3) := by decide +kernel
theorem dX11_pallet_51 : decode cX11_pallet 51 = .ok (.iload_n 1, 1) := by decide +kernel
theorem dX11_pallet_52 : decode cX11_pallet 52 = .ok (.iaload, 1) := by decide +kernel
theorem dX11_pallet_53 : decode cX11_pallet 53 = .ok (.ireturn, 1) := by decide +kernel
theorem dX11_pallet_54 : decode cX11_pallet 54 = .ok (.aload_n 0, 1) := by decide +kernel
theorem dX11_pallet_55 : decode cX11_pallet 55 = .ok (.getfield 29, 3) := by decide +kernel
theorem dX11_pallet_58 : decode cX11_pallet 58 = .ok (.getfield 152, 3) := by decide +kernel
theorem dX11_pallet_61 : decode cX11_pallet 61 = .ok (.iload_n 1, 1) := by decide +kernel
theorem dX11_pallet_62 : decode cX11_pallet 62 = .ok (.iaload, 1) := by decide +kernel
theorem dX11_pallet_63 : decode cX11_pallet 63 = .ok (.ireturn, 1) := by decide +kernel
theorem dX11_pallet_64 : decode cX11_pallet 64 = .ok (.aload_n 0, 1) := by decide +kernel
theorem dX11_pallet_65 : decode cX11_pallet 65 = .ok (.getfield 29, 3) := by decide +kernel
theorem dX11_pallet_68 : decode cX11_pallet 68 = .ok (.getfield 155, 3) := by decide +kernel
theorem dX11_pallet_71 : decode cX11_pallet 71 = .ok (.iload_n 1, 1) := by decide +kernel
theorem dX11_pallet_72 : decode cX11_pallet 72 = .ok (.iaload, 1) := by decide +kernel
theorem dX11_pallet_73 : decode cX11_pallet 73 = .ok (.ireturn, 1) := by decide +kernel
theorem dX11_pallet_74 : decode cX11_pallet 74 = .ok (.aload_n 0, 1) := by decide +kernel
theorem dX11_pallet_75 : decode cX11_pallet 75 = .ok (.getfield 29, 3) := by decide +kernel
theorem dX11_pallet_78 : decode cX11_pallet 78 = .ok (.getfield 158, 3) := by decide +kernel
theorem dX11_pallet_81 : decode cX11_pallet 81 = .ok (.iload_n 1, 1) := by decide +kernel
theorem dX11_pallet_82 : decode cX11_pallet 82 = .ok (.laload, 1) := by decide +kernel
theorem dX11_pallet_83 : decode cX11_pallet 83 = .ok (.invokestatic 162, 3) := by decide +kernel
theorem dX11_pallet_86 : decode cX11_pallet 86 = .ok (.ireturn, 1) := by decide +kernel
theorem dX11_pallet_87 : decode cX11_pallet 87 = .ok (.iconst (-1), 1) := by decide +kernel
theorem dX11_pallet_88 : decode cX11_pallet 88 = .ok (.ireturn, 1) := by decide +kernel
theorem dX11_named_0 : decode cX11_named 0 = .ok (.aload_n 0, 1) := by decide +kernel
theorem dX11_named_1 : decode cX11_named 1 = .ok (.getfield 10, 3) := by decide +kernel
theorem dX11_named_4 : decode cX11_named 4 = .ok (.getfield 67, 3) := by decide +kernel
theorem dX11_named_7 : decode cX11_named 7 = .ok (.astore_n 1, 1) := by decide +kernel
theorem dX11_named_8 : decode cX11_named 8 = .ok (.aload_n 1, 1) := by decide +kernel
theorem dX11_named_9 : decode cX11_named 9 = .ok (.iconst 0, 1) := by decide +kernel
theorem dX11_named_10 : decode cX11_named 10 = .ok (.aload_n 1, 1) := by decide +kernel
theorem dX11_named_11 : decode cX11_named 11 = .ok (.getfield 71, 3) := by decide +kernel
theorem dX11_named_14 : decode cX11_named 14 = .ok (.invokevirtual 166, 3) := by decide +kernel
theorem dX11_named_17 : decode cX11_named 17 = .ok (.lstore_n 2, 1) := by decide +kernel
theorem dX11_named_18 : decode cX11_named 18 = .ok (.aload_n 1, 1) := by decide +kernel
theorem dX11_named_19 : decode cX11_named 19 = .ok (.iconst 0, 1) := by decide +kernel
theorem dX11_named_20 : decode cX11_named 20 = .ok (.putfield 71, 3) := by decide +kernel
theorem dX11_named_23 : decode cX11_named 23 = .ok (.aload_n 0, 1) := by decide +kernel
theorem dX11_named_24 : decode cX11_named 24 = .ok (.getfield 29, 3) := by decide +kernel
theorem dX11_named_27 : decode cX11_named 27 = .ok (.lload_n 2, 1) := by decide +kernel
theorem dX11_named_28 : decode cX11_named 28 = .ok (.invokevirtual 170, 3) := by decide +kernel
theorem dX11_named_31 : decode cX11_named 31 = .ok (.ireturn, 1) := by decide +kernel
theorem dX11_spot_0 : decode cX11_spot 0 = .ok (.aload_n 0, 1) := by decide +kernel
theorem dX11_spot_1 : decode cX11_spot 1 = .ok (.getfield 19, 3) := by decide +kernel
theorem dX11_spot_4 : decode cX11_spot 4 = .ok (.getfield 97, 3) := by decide +kernel
theorem dX11_spot_7 : decode cX11_spot 7 = .ok (.astore_n 3, 1) := by decide +kernel
theorem dX11_spot_8 : decode cX11_spot 8 = .ok (.aload_n 3, 1) := by decide +kernel
theorem dX11_spot_9 : decode cX11_spot 9 = .ok (.iload_n 1, 1) := by decide +kernel
theorem dX11_spot_10 : decode cX11_spot 10 = .ok (.invokevirtual 173, 3) := by decide +kernel
theorem dX11_spot_13 : decode cX11_spot 13 = .ok (.ifCond .ne 5, 3) := by decide +kernel
theorem dX11_spot_16 : decode cX11_spot 16 = .ok (.iconst (-1), 1) := by decide +kernel
theorem dX11_spot_17 : decode cX11_spot 17 = .ok (.ireturn, 1) := by decide +kernel
theorem dX11_spot_18 : decode cX11_spot 18 = .ok (.iload_n 2, 1) := by decide +kernel
theorem dX11_spot_19 : decode cX11_spot 19 = .ok (.tableswitch 70 0 4 #[33, 40, 47, 54, 63], 33) := by decide +kernel
theorem dX11_spot_52 : decode cX11_spot 52 = .ok (.aload_n 3, 1) := by decide +kernel
theorem dX11_spot_53 : decode cX11_spot 53 = .ok (.getfield 176, 3) := by decide +kernel
theorem dX11_spot_56 : decode cX11_spot 56 = .ok (.iload_n 1, 1) := by decide +kernel
theorem dX11_spot_57 : decode cX11_spot 57 = .ok (.iaload, 1) := by decide +kernel
theorem dX11_spot_58 : decode cX11_spot 58 = .ok (.ireturn, 1) := by decide +kernel
theorem dX11_spot_59 : decode cX11_spot 59 = .ok (.aload_n 3, 1) := by decide +kernel
theorem dX11_spot_60 : decode cX11_spot 60 = .ok (.getfield 179, 3) := by decide +kernel
theorem dX11_spot_63 : decode cX11_spot 63 = .ok (.iload_n 1, 1) := by decide +kernel
theorem dX11_spot_64 : decode cX11_spot 64 = .ok (.iaload, 1) := by decide +kernel
theorem dX11_spot_65 : decode cX11_spot 65 = .ok (.ireturn, 1) := by decide +kernel
theorem dX11_spot_66 : decode cX11_spot 66 = .ok (.aload_n 3, 1) := by decide +kernel
theorem dX11_spot_67 : decode cX11_spot 67 = .ok (.getfield 182, 3) := by decide +kernel
theorem dX11_spot_70 : decode cX11_spot 70 = .ok (.iload_n 1, 1) := by decide +kernel
theorem dX11_spot_71 : decode cX11_spot 71 = .ok (.iaload, 1) := by decide +kernel
theorem dX11_spot_72 : decode cX11_spot 72 = .ok (.ireturn, 1) := by decide +kernel
theorem dX11_spot_73 : decode cX11_spot 73 = .ok (.aload_n 0, 1) := by decide +kernel
theorem dX11_spot_74 : decode cX11_spot 74 = .ok (.getfield 29, 3) := by decide +kernel
theorem dX11_spot_77 : decode cX11_spot 77 = .ok (.iload_n 1, 1) := by decide +kernel
theorem dX11_spot_78 : decode cX11_spot 78 = .ok (.invokevirtual 185, 3) := by decide +kernel
theorem dX11_spot_81 : decode cX11_spot 81 = .ok (.ireturn, 1) := by decide +kernel
theorem dX11_spot_82 : decode cX11_spot 82 = .ok (.aload_n 3, 1) := by decide +kernel
theorem dX11_spot_83 : decode cX11_spot 83 = .ok (.getfield 189, 3) := by decide +kernel
theorem dX11_spot_86 : decode cX11_spot 86 = .ok (.iload_n 1, 1) := by decide +kernel
theorem dX11_spot_87 : decode cX11_spot 87 = .ok (.iaload, 1) := by decide +kernel
theorem dX11_spot_88 : decode cX11_spot 88 = .ok (.ireturn, 1) := by decide +kernel
theorem dX11_spot_89 : decode cX11_spot 89 = .ok (.iconst (-1), 1) := by decide +kernel
theorem dX11_spot_90 : decode cX11_spot 90 = .ok (.ireturn, 1) := by decide +kernel
theorem dX11_in_0 : decode cX11_in 0 = .ok (.iload_n 1, 1) := by decide +kernel
theorem dX11_in_1 : decode cX11_in 1 = .ok (.ifCond .ne 24, 3) := by decide +kernel
theorem dX11_in_4 : decode cX11_in 4 = .ok (.aload_n 0, 1) := by decide +kernel
theorem dX11_in_5 : decode cX11_in 5 = .ok (.getfield 19, 3) := by decide +kernel
theorem dX11_in_8 : decode cX11_in 8 = .ok (.iload_n 2, 1) := by decide +kernel
theorem dX11_in_9 : decode cX11_in 9 = .ok (.invokevirtual 192, 3) := by decide +kernel
theorem dX11_in_12 : decode cX11_in 12 = .ok (.ifCond .eq 13, 3) := by decide +kernel
theorem dX11_in_15 : decode cX11_in 15 = .ok (.aload_n 0, 1) := by decide +kernel
theorem dX11_in_16 : decode cX11_in 16 = .ok (.getfield 29, 3) := by decide +kernel
theorem dX11_in_19 : decode cX11_in 19 = .ok (.getfield 195, 3) := by decide +kernel
theorem dX11_in_22 : decode cX11_in 22 = .ok (.iload_n 2, 1) := by decide +kernel
theorem dX11_in_23 : decode cX11_in 23 = .ok (.iaload, 1) := by decide +kernel
theorem dX11_in_24 : decode cX11_in 24 = .ok (.ireturn, 1) := by decide +kernel
theorem dX11_in_25 : decode cX11_in 25 = .ok (.iload_n 1, 1) := by decide +kernel
theorem dX11_in_26 : decode cX11_in 26 = .ok (.iconst 1, 1) := by decide +kernel
theorem dX11_in_27 : decode cX11_in 27 = .ok (.if_icmp .ne 30, 3) := by decide +kernel
theorem dX11_in_30 : decode cX11_in 30 = .ok (.aload_n 0, 1) := by decide +kernel
theorem dX11_in_31 : decode cX11_in 31 = .ok (.getfield 19, 3) := by decide +kernel
theorem dX11_in_34 : decode cX11_in 34 = .ok (.getfield 122, 3) := by decide +kernel
theorem dX11_in_37 : decode cX11_in 37 = .ok (.iload_n 2, 1) := by decide +kernel
theorem dX11_in_38 : decode cX11_in 38 = .ok (.invokevirtual 198, 3) := by decide +kernel
theorem dX11_in_41 : decode cX11_in 41 = .ok (.ifCond .eq 16, 3) := by decide +kernel
theorem dX11_in_44 : decode cX11_in 44 = .ok (.aload_n 0, 1) := by decide +kernel
theorem dX11_in_45 : decode cX11_in 45 = .ok (.getfield 19, 3) := by decide +kernel
theorem dX11_in_48 : decode cX11_in 48 = .ok (.getfield 122, 3) := by decide +kernel
theorem dX11_in_51 : decode cX11_in 51 = .ok (.getfield 201, 3) := by decide +kernel
theorem dX11_in_54 : decode cX11_in 54 = .ok (.iload_n 2, 1) := by decide +kernel
theorem dX11_in_55 : decode cX11_in 55 = .ok (.iaload, 1) := by decide +kernel
theorem dX11_in_56 : decode cX11_in 56 = .ok (.ireturn, 1) := by decide +kernel
theorem dX11_in_57 : decode cX11_in 57 = .ok (.iload_n 1, 1) := by decide +kernel
theorem dX11_in_58 : decode cX11_in 58 = .ok (.iconst 2, 1) := by decide +kernel
theorem dX11_in_59 : decode cX11_in 59 = .ok (.if_icmp .ne 33, 3) := by decide +kernel
theorem dX11_in_62 : decode cX11_in 62 = .ok (.aload_n 0, 1) := by decide +kernel
theorem dX11_in_63 : decode cX11_in 63 = .ok (.getfield 19, 3) := by decide +kernel
theorem dX11_in_66 : decode cX11_in 66 = .ok (.getfield 97, 3) := by decide +kernel
theorem dX11_in_69 : decode cX11_in 69 = .ok (.iload_n 2, 1) := by decide +kernel
theorem dX11_in_70 : decode cX11_in 70 = .ok (.invokevirtual 204, 3) := by decide +kernel
theorem dX11_in_73 : decode cX11_in 73 = .ok (.ifCond .eq 19, 3) := by decide +kernel
theorem dX11_in_76 : decode cX11_in 76 = .ok (.aload_n 0, 1) := by decide +kernel
theorem dX11_in_77 : decode cX11_in 77 = .ok (.getfield 19, 3) := by decide +kernel
theorem dX11_in_80 : decode cX11_in 80 = .ok (.getfield 97, 3) := by decide +kernel
theorem dX11_in_83 : decode cX11_in 83 = .ok (.aload_n 0, 1) := by decide +kernel
theorem dX11_in_84 : decode cX11_in 84 = .ok (.getfield 29, 3) := by decide +kernel
theorem dX11_in_87 : decode cX11_in 87 = .ok (.iload_n 2, 1) := by decide +kernel
theorem dX11_in_88 : decode cX11_in 88 = .ok (.invokestatic 207, 3) := by decide +kernel
theorem dX11_in_91 : decode cX11_in 91 = .ok (.ireturn, 1) := by decide +kernel
theorem dX11_in_92 : decode cX11_in 92 = .ok (.iconst (-1), 1) := by decide +kernel
theorem dX11_in_93 : decode cX11_in 93 = .ok (.ireturn, 1) := by decide +kernel
theorem dX11_put_0 : decode cX11_put 0 = .ok (.aload_n 0, 1) := by decide +kernel
theorem dX11_put_1 : decode cX11_put 1 = .ok (.getfield 29, 3) := by decide +kernel
theorem dX11_put_4 : decode cX11_put 4 = .ok (.iload_n 1, 1) := by decide +kernel
theorem dX11_put_5 : decode cX11_put 5 = .ok (.invokevirtual 144, 3) := by decide +kernel
theorem dX11_put_8 : decode cX11_put 8 = .ok (.ifCond .eq 17, 3) := by decide +kernel
theorem dX11_put_11 : decode cX11_put 11 = .ok (.aload_n 0, 1) := by decide +kernel
theorem dX11_put_12 : decode cX11_put 12 = .ok (.getfield 19, 3) := by decide +kernel
theorem dX11_put_15 : decode cX11_put 15 = .ok (.getfield 97, 3) := by decide +kernel
theorem dX11_put_18 : decode cX11_put 18 = .ok (.iload_n 2, 1) := by decide +kernel
theorem dX11_put_19 : decode cX11_put 19 = .ok (.invokevirtual 173, 3) := by decide +kernel
theorem dX11_put_22 : decode cX11_put 22 = .ok (.ifCond .ne 5, 3) := by decide +kernel
theorem dX11_put_25 : decode cX11_put 25 = .ok (.iconst (-1), 1) := by decide +kernel
theorem dX11_put_26 : decode cX11_put 26 = .ok (.ireturn, 1) := by decide +kernel
theorem dX11_put_27 : decode cX11_put 27 = .ok (.aload_n 0, 1) := by decide +kernel
theorem dX11_put_28 : decode cX11_put 28 = .ok (.getfield 29, 3) := by decide +kernel
theorem dX11_put_31 : decode cX11_put 31 = .ok (.iload_n 2, 1) := by decide +kernel
theorem dX11_put_32 : decode cX11_put 32 = .ok (.invokevirtual 185, 3) := by decide +kernel
theorem dX11_put_35 : decode cX11_put 35 = .ok (.istore_n 3, 1) := by decide +kernel
theorem dX11_put_36 : decode cX11_put 36 = .ok (.iload_n 3, 1) := by decide +kernel
theorem dX11_put_37 : decode cX11_put 37 = .ok (.iload_n 1, 1) := by decide +kernel
theorem dX11_put_38 : decode cX11_put 38 = .ok (.if_icmp .ne 5, 3) := by decide +kernel
theorem dX11_put_41 : decode cX11_put 41 = .ok (.iconst 2, 1) := by decide +kernel
theorem dX11_put_42 : decode cX11_put 42 = .ok (.ireturn, 1) := by decide +kernel
theorem dX11_put_43 : decode cX11_put 43 = .ok (.iload_n 3, 1) := by decide +kernel
theorem dX11_put_44 : decode cX11_put 44 = .ok (.iconst (-1), 1) := by decide +kernel
theorem dX11_put_45 : decode cX11_put 45 = .ok (.if_icmp .eq 5, 3) := by decide +kernel
theorem dX11_put_48 : decode cX11_put 48 = .ok (.iconst 1, 1) := by decide +kernel
theorem dX11_put_49 : decode cX11_put 49 = .ok (.ireturn, 1) := by decide +kernel
theorem dX11_put_50 : decode cX11_put 50 = .ok (.aload_n 0, 1) := by decide +kernel
theorem dX11_put_51 : decode cX11_put 51 = .ok (.getfield 39, 3) := by decide +kernel
theorem dX11_put_54 : decode cX11_put 54 = .ok (.aload_n 0, 1) := by decide +kernel
theorem dX11_put_55 : decode cX11_put 55 = .ok (.getfield 29, 3) := by decide +kernel
theorem dX11_put_58 : decode cX11_put 58 = .ok (.invokevirtual 213, 3) := by decide +kernel
theorem dX11_put_61 : decode cX11_put 61 = .ok (.aload_n 0, 1) := by decide +kernel
theorem dX11_put_62 : decode cX11_put 62 = .ok (.getfield 29, 3) := by decide +kernel
theorem dX11_put_65 : decode cX11_put 65 = .ok (.getfield 155, 3) := by decide +kernel
theorem dX11_put_68 : decode cX11_put 68 = .ok (.iload_n 1, 1) := by decide +kernel
theorem dX11_put_69 : decode cX11_put 69 = .ok (.iload_n 2, 1) := by decide +kernel
theorem dX11_put_70 : decode cX11_put 70 = .ok (.iastore, 1) := by decide +kernel
theorem dX11_put_71 : decode cX11_put 71 = .ok (.iconst 0, 1) := by decide +kernel
theorem dX11_put_72 : decode cX11_put 72 = .ok (.ireturn, 1) := by decide +kernel
theorem dX11_off_0 : decode cX11_off 0 = .ok (.aload_n 0, 1) := by decide +kernel
theorem dX11_off_1 : decode cX11_off 1 = .ok (.getfield 29, 3) := by decide +kernel
theorem dX11_off_4 : decode cX11_off 4 = .ok (.iload_n 1, 1) := by decide +kernel
theorem dX11_off_5 : decode cX11_off 5 = .ok (.invokevirtual 144, 3) := by decide +kernel
theorem dX11_off_8 : decode cX11_off 8 = .ok (.ifCond .eq 16, 3) := by decide +kernel
theorem dX11_off_11 : decode cX11_off 11 = .ok (.aload_n 0, 1) := by decide +kernel
theorem dX11_off_12 : decode cX11_off 12 = .ok (.getfield 29, 3) := by decide +kernel
theorem dX11_off_15 : decode cX11_off 15 = .ok (.getfield 155, 3) := by decide +kernel
theorem dX11_off_18 : decode cX11_off 18 = .ok (.iload_n 1, 1) := by decide +kernel
theorem dX11_off_19 : decode cX11_off 19 = .ok (.iaload, 1) := by decide +kernel
theorem dX11_off_20 : decode cX11_off 20 = .ok (.iconst (-1), 1) := by decide +kernel
theorem dX11_off_21 : decode cX11_off 21 = .ok (.if_icmp .ne 5, 3) := by decide +kernel
theorem dX11_off_24 : decode cX11_off 24 = .ok (.iconst (-1), 1) := by decide +kernel
theorem dX11_off_25 : decode cX11_off 25 = .ok (.ireturn, 1) := by decide +kernel
theorem dX11_off_26 : decode cX11_off 26 = .ok (.aload_n 0, 1) := by decide +kernel
theorem dX11_off_27 : decode cX11_off 27 = .ok (.getfield 39, 3) := by decide +kernel
theorem dX11_off_30 : decode cX11_off 30 = .ok (.aload_n 0, 1) := by decide +kernel
theorem dX11_off_31 : decode cX11_off 31 = .ok (.getfield 29, 3) := by decide +kernel
theorem dX11_off_34 : decode cX11_off 34 = .ok (.invokevirtual 213, 3) := by decide +kernel
theorem dX11_off_37 : decode cX11_off 37 = .ok (.aload_n 0, 1) := by decide +kernel
theorem dX11_off_38 : decode cX11_off 38 = .ok (.getfield 29, 3) := by decide +kernel
theorem dX11_off_41 : decode cX11_off 41 = .ok (.getfield 155, 3) := by decide +kernel
theorem dX11_off_44 : decode cX11_off 44 = .ok (.iload_n 1, 1) := by decide +kernel
theorem dX11_off_45 : decode cX11_off 45 = .ok (.iaload, 1) := by decide +kernel
theorem dX11_off_46 : decode cX11_off 46 = .ok (.istore_n 2, 1) := by decide +kernel
theorem dX11_off_47 : decode cX11_off 47 = .ok (.aload_n 0, 1) := by decide +kernel
theorem dX11_off_48 : decode cX11_off 48 = .ok (.getfield 29, 3) := by decide +kernel
theorem dX11_off_51 : decode cX11_off 51 = .ok (.getfield 155, 3) := by decide +kernel
theorem dX11_off_54 : decode cX11_off 54 = .ok (.iload_n 1, 1) := by decide +kernel
theorem dX11_off_55 : decode cX11_off 55 = .ok (.iconst (-1), 1) := by decide +kernel
theorem dX11_off_56 : decode cX11_off 56 = .ok (.iastore, 1) := by decide +kernel
theorem dX11_off_57 : decode cX11_off 57 = .ok (.iload_n 2, 1) := by decide +kernel
theorem dX11_off_58 : decode cX11_off 58 = .ok (.ireturn, 1) := by decide +kernel
theorem dX11_pour_0 : decode cX11_pour 0 = .ok (.aload_n 0, 1) := by decide +kernel
theorem dX11_pour_1 : decode cX11_pour 1 = .ok (.getfield 19, 3) := by decide +kernel
theorem dX11_pour_4 : decode cX11_pour 4 = .ok (.iload_n 1, 1) := by decide +kernel
theorem dX11_pour_5 : decode cX11_pour 5 = .ok (.invokevirtual 192, 3) := by decide +kernel
theorem dX11_pour_8 : decode cX11_pour 8 = .ok (.ifCond .eq 20, 3) := by decide +kernel
theorem dX11_pour_11 : decode cX11_pour 11 = .ok (.iload_n 2, 1) := by decide +kernel
theorem dX11_pour_12 : decode cX11_pour 12 = .ok (.ifCond .lt 16, 3) := by decide +kernel
theorem dX11_pour_15 : decode cX11_pour 15 = .ok (.iload_n 2, 1) := by decide +kernel
theorem dX11_pour_16 : decode cX11_pour 16 = .ok (.aload_n 0, 1) := by decide +kernel
theorem dX11_pour_17 : decode cX11_pour 17 = .ok (.getfield 19, 3) := by decide +kernel
theorem dX11_pour_20 : decode cX11_pour 20 = .ok (.getfield 216, 3) := by decide +kernel
theorem dX11_pour_23 : decode cX11_pour 23 = .ok (.iload_n 1, 1) := by decide +kernel
theorem dX11_pour_24 : decode cX11_pour 24 = .ok (.iaload, 1) := by decide +kernel
theorem dX11_pour_25 : decode cX11_pour 25 = .ok (.if_icmp .le 5, 3) := by decide +kernel
theorem dX11_pour_28 : decode cX11_pour 28 = .ok (.iconst (-1), 1) := by decide +kernel
theorem dX11_pour_29 : decode cX11_pour 29 = .ok (.ireturn, 1) := by decide +kernel
theorem dX11_pour_30 : decode cX11_pour 30 = .ok (.aload_n 0, 1) := by decide +kernel
theorem dX11_pour_31 : decode cX11_pour 31 = .ok (.getfield 29, 3) := by decide +kernel
theorem dX11_pour_34 : decode cX11_pour 34 = .ok (.getfield 195, 3) := by decide +kernel
theorem dX11_pour_37 : decode cX11_pour 37 = .ok (.iload_n 1, 1) := by decide +kernel
theorem dX11_pour_38 : decode cX11_pour 38 = .ok (.iaload, 1) := by decide +kernel
theorem dX11_pour_39 : decode cX11_pour 39 = .ok (.iload_n 2, 1) := by decide +kernel
theorem dX11_pour_40 : decode cX11_pour 40 = .ok (.if_icmp .ne 5, 3) := by decide +kernel
theorem dX11_pour_43 : decode cX11_pour 43 = .ok (.iconst 1, 1) := by decide +kernel
theorem dX11_pour_44 : decode cX11_pour 44 = .ok (.ireturn, 1) := by decide +kernel
theorem dX11_pour_45 : decode cX11_pour 45 = .ok (.aload_n 0, 1) := by decide +kernel
theorem dX11_pour_46 : decode cX11_pour 46 = .ok (.getfield 39, 3) := by decide +kernel
theorem dX11_pour_49 : decode cX11_pour 49 = .ok (.aload_n 0, 1) := by decide +kernel
theorem dX11_pour_50 : decode cX11_pour 50 = .ok (.getfield 29, 3) := by decide +kernel
theorem dX11_pour_53 : decode cX11_pour 53 = .ok (.invokevirtual 213, 3) := by decide +kernel
theorem dX11_pour_56 : decode cX11_pour 56 = .ok (.aload_n 0, 1) := by decide +kernel
theorem dX11_pour_57 : decode cX11_pour 57 = .ok (.getfield 29, 3) := by decide +kernel
theorem dX11_pour_60 : decode cX11_pour 60 = .ok (.getfield 195, 3) := by decide +kernel
theorem dX11_pour_63 : decode cX11_pour 63 = .ok (.iload_n 1, 1) := by decide +kernel
theorem dX11_pour_64 : decode cX11_pour 64 = .ok (.iload_n 2, 1) := by decide +kernel
theorem dX11_pour_65 : decode cX11_pour 65 = .ok (.iastore, 1) := by decide +kernel
theorem dX11_pour_66 : decode cX11_pour 66 = .ok (.iconst 0, 1) := by decide +kernel
theorem dX11_pour_67 : decode cX11_pour 67 = .ok (.ireturn, 1) := by decide +kernel
theorem dX11_why_0 : decode cX11_why 0 = .ok (.aload_n 0, 1) := by decide +kernel
theorem dX11_why_1 : decode cX11_why 1 = .ok (.getfield 19, 3) := by decide +kernel
theorem dX11_why_4 : decode cX11_why 4 = .ok (.aload_n 0, 1) := by decide +kernel
theorem dX11_why_5 : decode cX11_why 5 = .ok (.getfield 29, 3) := by decide +kernel
theorem dX11_why_8 : decode cX11_why 8 = .ok (.invokestatic 219, 3) := by decide +kernel
theorem dX11_why_11 : decode cX11_why 11 = .ok (.ireturn, 1) := by decide +kernel
theorem dX11_where_0 : decode cX11_where 0 = .ok (.aload_n 0, 1) := by decide +kernel
theorem dX11_where_1 : decode cX11_where 1 = .ok (.getfield 19, 3) := by decide +kernel
theorem dX11_where_4 : decode cX11_where 4 = .ok (.aload_n 0, 1) := by decide +kernel
theorem dX11_where_5 : decode cX11_where 5 = .ok (.getfield 29, 3) := by decide +kernel
theorem dX11_where_8 : decode cX11_where 8 = .ok (.invokestatic 219, 3) := by decide +kernel
theorem dX11_where_11 : decode cX11_where 11 = .ok (.aload_n 0, 1) := by decide +kernel
theorem dX11_where_12 : decode cX11_where 12 = .ok (.getfield 19, 3) := by decide +kernel
theorem dX11_where_15 : decode cX11_where 15 = .ok (.aload_n 0, 1) := by decide +kernel
theorem dX11_where_16 : decode cX11_where 16 = .ok (.getfield 29, 3) := by decide +kernel
theorem dX11_where_19 : decode cX11_where 19 = .ok (.invokestatic 223, 3) := by decide +kernel
theorem dX11_where_22 : decode cX11_where 22 = .ok (.ireturn, 1) := by decide +kernel
theorem dX11_stage_0 : decode cX11_stage 0 = .ok (.iload_n 1, 1) := by decide +kernel
theorem dX11_stage_1 : decode cX11_stage 1 = .ok (.ifCond .lt 17, 3) := by decide +kernel
theorem dX11_stage_4 : decode cX11_stage 4 = .ok (.iload_n 1, 1) := by decide +kernel
theorem dX11_stage_5 : decode cX11_stage 5 = .ok (.aload_n 0, 1) := by decide +kernel
theorem dX11_stage_6 : decode cX11_stage 6 = .ok (.getfield 19, 3) := by decide +kernel
theorem dX11_stage_9 : decode cX11_stage 9 = .ok (.getfield 122, 3) := by decide +kernel
theorem dX11_stage_12 : decode cX11_stage 12 = .ok (.getfield 131, 3) := by decide +kernel
theorem dX11_stage_15 : decode cX11_stage 15 = .ok (.if_icmp .le 6, 3) := by decide +kernel
theorem dX11_stage_18 : decode cX11_stage 18 = .ok (.ldc 227, 2) := by decide +kernel
theorem dX11_stage_20 : decode cX11_stage 20 = .ok (.ireturn, 1) := by decide +kernel
theorem dX11_stage_21 : decode cX11_stage 21 = .ok (.aload_n 0, 1) := by decide +kernel
theorem dX11_stage_22 : decode cX11_stage 22 = .ok (.getfield 19, 3) := by decide +kernel
theorem dX11_stage_25 : decode cX11_stage 25 = .ok (.aload_n 0, 1) := by decide +kernel
theorem dX11_stage_26 : decode cX11_stage 26 = .ok (.getfield 29, 3) := by decide +kernel
theorem dX11_stage_29 : decode cX11_stage 29 = .ok (.iload_n 1, 1) := by decide +kernel
theorem dX11_stage_30 : decode cX11_stage 30 = .ok (.invokestatic 228, 3) := by decide +kernel
theorem dX11_stage_33 : decode cX11_stage 33 = .ok (.istore_n 3, 1) := by decide +kernel
theorem dX11_stage_34 : decode cX11_stage 34 = .ok (.aload_n 0, 1) := by decide +kernel
theorem dX11_stage_35 : decode cX11_stage 35 = .ok (.getfield 19, 3) := by decide +kernel
theorem dX11_stage_38 : decode cX11_stage 38 = .ok (.aload_n 0, 1) := by decide +kernel
theorem dX11_stage_39 : decode cX11_stage 39 = .ok (.getfield 29, 3) := by decide +kernel
theorem dX11_stage_42 : decode cX11_stage 42 = .ok (.iload_n 1, 1) := by decide +kernel
theorem dX11_stage_43 : decode cX11_stage 43 = .ok (.invokestatic 232, 3) := by decide +kernel
theorem dX11_stage_46 : decode cX11_stage 46 = .ok (.istore 4, 2) := by decide +kernel
theorem dX11_stage_48 : decode cX11_stage 48 = .ok (.iload_n 2, 1) := by decide +kernel
theorem dX11_stage_49 : decode cX11_stage 49 = .ok (.tableswitch 62 0 3 #[31, 33, 36, 49], 31) := by decide +kernel
theorem dX11_stage_80 : decode cX11_stage 80 = .ok (.iload_n 3, 1) := by decide +kernel
theorem dX11_stage_81 : decode cX11_stage 81 = .ok (.ireturn, 1) := by decide +kernel
theorem dX11_stage_82 : decode cX11_stage 82 = .ok (.iload 4, 2) := by decide +kernel
theorem dX11_stage_84 : decode cX11_stage 84 = .ok (.ireturn, 1) := by decide +kernel
theorem dX11_stage_85 : decode cX11_stage 85 = .ok (.iload 4, 2) := by decide +kernel
theorem dX11_stage_87 : decode cX11_stage 87 = .ok (.iload_n 3, 1) := by decide +kernel
theorem dX11_stage_88 : decode cX11_stage 88 = .ok (.aload_n 0, 1) := by decide +kernel
theorem dX11_stage_89 : decode cX11_stage 89 = .ok (.getfield 19, 3) := by decide +kernel
theorem dX11_stage_92 : decode cX11_stage 92 = .ok (.getfield 235, 3) := by decide +kernel
theorem dX11_stage_95 : decode cX11_stage 95 = .ok (.imul, 1) := by decide +kernel
theorem dX11_stage_96 : decode cX11_stage 96 = .ok (.isub, 1) := by decide +kernel
theorem dX11_stage_97 : decode cX11_stage 97 = .ok (.ireturn, 1) := by decide +kernel
theorem dX11_stage_98 : decode cX11_stage 98 = .ok (.iload_n 3, 1) := by decide +kernel
theorem dX11_stage_99 : decode cX11_stage 99 = .ok (.aload_n 0, 1) := by decide +kernel
theorem dX11_stage_100 : decode cX11_stage 100 = .ok (.getfield 19, 3) := by decide +kernel
theorem dX11_stage_103 : decode cX11_stage 103 = .ok (.getfield 238, 3) := by decide +kernel
theorem dX11_stage_106 : decode cX11_stage 106 = .ok (.imul, 1) := by decide +kernel
theorem dX11_stage_107 : decode cX11_stage 107 = .ok (.iload 4, 2) := by decide +kernel
theorem dX11_stage_109 : decode cX11_stage 109 = .ok (.isub, 1) := by decide +kernel
theorem dX11_stage_110 : decode cX11_stage 110 = .ok (.ireturn, 1) := by decide +kernel
theorem dX11_stage_111 : decode cX11_stage 111 = .ok (.ldc 227, 2) := by decide +kernel
theorem dX11_stage_113 : decode cX11_stage 113 = .ok (.ireturn, 1) := by decide +kernel
theorem dX11_blocks_0 : decode cX11_blocks 0 = .ok (.aload_n 0, 1) := by decide +kernel
theorem dX11_blocks_1 : decode cX11_blocks 1 = .ok (.getfield 29, 3) := by decide +kernel
theorem dX11_blocks_4 : decode cX11_blocks 4 = .ok (.iload_n 1, 1) := by decide +kernel
theorem dX11_blocks_5 : decode cX11_blocks 5 = .ok (.invokevirtual 144, 3) := by decide +kernel
theorem dX11_blocks_8 : decode cX11_blocks 8 = .ok (.ifCond .eq 21, 3) := by decide +kernel
theorem dX11_blocks_11 : decode cX11_blocks 11 = .ok (.aload_n 0, 1) := by decide +kernel
theorem dX11_blocks_12 : decode cX11_blocks 12 = .ok (.getfield 19, 3) := by decide +kernel
theorem dX11_blocks_15 : decode cX11_blocks 15 = .ok (.getfield 97, 3) := by decide +kernel
theorem dX11_blocks_18 : decode cX11_blocks 18 = .ok (.aload_n 0, 1) := by decide +kernel
theorem dX11_blocks_19 : decode cX11_blocks 19 = .ok (.getfield 29, 3) := by decide +kernel
theorem dX11_blocks_22 : decode cX11_blocks 22 = .ok (.iload_n 1, 1) := by decide +kernel
theorem dX11_blocks_23 : decode cX11_blocks 23 = .ok (.invokestatic 241, 3) := by decide +kernel
theorem dX11_blocks_26 : decode cX11_blocks 26 = .ok (.goto 4, 3) := by decide +kernel
theorem dX11_blocks_29 : decode cX11_blocks 29 = .ok (.iconst (-1), 1) := by decide +kernel
theorem dX11_blocks_30 : decode cX11_blocks 30 = .ok (.ireturn, 1) := by decide +kernel
theorem dX11_loadings_0 : decode cX11_loadings 0 = .ok (.aload_n 0, 1) := by decide +kernel
theorem dX11_loadings_1 : decode cX11_loadings 1 = .ok (.invokevirtual 244, 3) := by decide +kernel
theorem dX11_loadings_4 : decode cX11_loadings 4 = .ok (.invokevirtual 248, 3) := by decide +kernel
theorem dX11_loadings_7 : decode cX11_loadings 7 = .ok (.ireturn, 1) := by decide +kernel
theorem dX11_loading_0 : decode cX11_loading 0 = .ok (.aload_n 0, 1) := by decide +kernel
theorem dX11_loading_1 : decode cX11_loading 1 = .ok (.invokevirtual 244, 3) := by decide +kernel
theorem dX11_loading_4 : decode cX11_loading 4 = .ok (.iload_n 1, 1) := by decide +kernel
theorem dX11_loading_5 : decode cX11_loading 5 = .ok (.invokevirtual 251, 3) := by decide +kernel
theorem dX11_loading_8 : decode cX11_loading 8 = .ok (.istore_n 3, 1) := by decide +kernel
theorem dX11_loading_9 : decode cX11_loading 9 = .ok (.iload_n 3, 1) := by decide +kernel
theorem dX11_loading_10 : decode cX11_loading 10 = .ok (.iconst (-1), 1) := by decide +kernel
theorem dX11_loading_11 : decode cX11_loading 11 = .ok (.if_icmp .eq 14, 3) := by decide +kernel
theorem dX11_loading_14 : decode cX11_loading 14 = .ok (.aload_n 0, 1) := by decide +kernel
theorem dX11_loading_15 : decode cX11_loading 15 = .ok (.getfield 29, 3) := by decide +kernel
theorem dX11_loading_18 : decode cX11_loading 18 = .ok (.iload_n 2, 1) := by decide +kernel
theorem dX11_loading_19 : decode cX11_loading 19 = .ok (.invokevirtual 144, 3) := by decide +kernel
theorem dX11_loading_22 : decode cX11_loading 22 = .ok (.ifCond .ne 7, 3) := by decide +kernel
theorem dX11_loading_25 : decode cX11_loading 25 = .ok (.iconst (-1), 1) := by decide +kernel
theorem dX11_loading_26 : decode cX11_loading 26 = .ok (.goto 12, 3) := by decide +kernel
theorem dX11_loading_29 : decode cX11_loading 29 = .ok (.aload_n 0, 1) := by decide +kernel
theorem dX11_loading_30 : decode cX11_loading 30 = .ok (.getfield 56, 3) := by decide +kernel
theorem dX11_loading_33 : decode cX11_loading 33 = .ok (.iload_n 3, 1) := by decide +kernel
theorem dX11_loading_34 : decode cX11_loading 34 = .ok (.iload_n 2, 1) := by decide +kernel
theorem dX11_loading_35 : decode cX11_loading 35 = .ok (.invokevirtual 254, 3) := by decide +kernel
theorem dX11_loading_38 : decode cX11_loading 38 = .ok (.ireturn, 1) := by decide +kernel
theorem dX11_poured_0 : decode cX11_poured 0 = .ok (.aload_n 0, 1) := by decide +kernel
theorem dX11_poured_1 : decode cX11_poured 1 = .ok (.invokevirtual 244, 3) := by decide +kernel
theorem dX11_poured_4 : decode cX11_poured 4 = .ok (.iload_n 1, 1) := by decide +kernel
theorem dX11_poured_5 : decode cX11_poured 5 = .ok (.invokevirtual 251, 3) := by decide +kernel
theorem dX11_poured_8 : decode cX11_poured 8 = .ok (.istore_n 3, 1) := by decide +kernel
theorem dX11_poured_9 : decode cX11_poured 9 = .ok (.iload_n 3, 1) := by decide +kernel
theorem dX11_poured_10 : decode cX11_poured 10 = .ok (.iconst (-1), 1) := by decide +kernel
theorem dX11_poured_11 : decode cX11_poured 11 = .ok (.if_icmp .eq 14, 3) := by decide +kernel
theorem dX11_poured_14 : decode cX11_poured 14 = .ok (.aload_n 0, 1) := by decide +kernel
theorem dX11_poured_15 : decode cX11_poured 15 = .ok (.getfield 19, 3) := by decide +kernel
theorem dX11_poured_18 : decode cX11_poured 18 = .ok (.iload_n 2, 1) := by decide +kernel
theorem dX11_poured_19 : decode cX11_poured 19 = .ok (.invokevirtual 192, 3) := by decide +kernel
theorem dX11_poured_22 : decode cX11_poured 22 = .ok (.ifCond .ne 7, 3) := by decide +kernel
theorem dX11_poured_25 : decode cX11_poured 25 = .ok (.iconst (-1), 1) := by decide +kernel
theorem dX11_poured_26 : decode cX11_poured 26 = .ok (.goto 13, 3) := by decide +kernel
theorem dX11_poured_29 : decode cX11_poured 29 = .ok (.aload_n 0, 1) := by decide +kernel
theorem dX11_poured_30 : decode cX11_poured 30 = .ok (.getfield 56, 3) := by decide +kernel
theorem dX11_poured_33 : decode cX11_poured 33 = .ok (.iload_n 1, 1) := by decide +kernel
theorem dX11_poured_34 : decode cX11_poured 34 = .ok (.iload_n 3, 1) := by decide +kernel
theorem dX11_poured_35 : decode cX11_poured 35 = .ok (.iload_n 2, 1) := by decide +kernel
theorem dX11_poured_36 : decode cX11_poured 36 = .ok (.invokevirtual 258, 3) := by decide +kernel
theorem dX11_poured_39 : decode cX11_poured 39 = .ok (.ireturn, 1) := by decide +kernel
theorem dX11_take_0 : decode cX11_take 0 = .ok (.aload_n 0, 1) := by decide +kernel
theorem dX11_take_1 : decode cX11_take 1 = .ok (.invokevirtual 244, 3) := by decide +kernel
theorem dX11_take_4 : decode cX11_take 4 = .ok (.iload_n 1, 1) := by decide +kernel
theorem dX11_take_5 : decode cX11_take 5 = .ok (.invokevirtual 251, 3) := by decide +kernel
theorem dX11_take_8 : decode cX11_take 8 = .ok (.istore_n 2, 1) := by decide +kernel
theorem dX11_take_9 : decode cX11_take 9 = .ok (.iload_n 2, 1) := by decide +kernel
theorem dX11_take_10 : decode cX11_take 10 = .ok (.iconst (-1), 1) := by decide +kernel
theorem dX11_take_11 : decode cX11_take 11 = .ok (.if_icmp .ne 5, 3) := by decide +kernel
theorem dX11_take_14 : decode cX11_take 14 = .ok (.iconst (-1), 1) := by decide +kernel
theorem dX11_take_15 : decode cX11_take 15 = .ok (.ireturn, 1) := by decide +kernel
theorem dX11_take_16 : decode cX11_take 16 = .ok (.aload_n 0, 1) := by decide +kernel
theorem dX11_take_17 : decode cX11_take 17 = .ok (.getfield 39, 3) := by decide +kernel
theorem dX11_take_20 : decode cX11_take 20 = .ok (.aload_n 0, 1) := by decide +kernel
theorem dX11_take_21 : decode cX11_take 21 = .ok (.getfield 29, 3) := by decide +kernel
theorem dX11_take_24 : decode cX11_take 24 = .ok (.invokevirtual 213, 3) := by decide +kernel
theorem dX11_take_27 : decode cX11_take 27 = .ok (.iconst 0, 1) := by decide +kernel
theorem dX11_take_28 : decode cX11_take 28 = .ok (.istore_n 3, 1) := by decide +kernel
theorem dX11_take_29 : decode cX11_take 29 = .ok (.iconst 0, 1) := by decide +kernel
theorem dX11_take_30 : decode cX11_take 30 = .ok (.istore 4, 2) := by decide +kernel
theorem dX11_take_32 : decode cX11_take 32 = .ok (.iload 4, 2) := by decide +kernel
theorem dX11_take_34 : decode cX11_take 34 = .ok (.aload_n 0, 1) := by decide +kernel
theorem dX11_take_35 : decode cX11_take 35 = .ok (.getfield 29, 3) := by decide +kernel
theorem dX11_take_38 : decode cX11_take 38 = .ok (.getfield 110, 3) := by decide +kernel
theorem dX11_take_41 : decode cX11_take 41 = .ok (.if_icmp .ge 51, 3) := by decide +kernel
theorem dX11_take_44 : decode cX11_take 44 = .ok (.aload_n 0, 1) := by decide +kernel
theorem dX11_take_45 : decode cX11_take 45 = .ok (.getfield 56, 3) := by decide +kernel
theorem dX11_take_48 : decode cX11_take 48 = .ok (.iload_n 2, 1) := by decide +kernel
theorem dX11_take_49 : decode cX11_take 49 = .ok (.iload 4, 2) := by decide +kernel
theorem dX11_take_51 : decode cX11_take 51 = .ok (.invokevirtual 254, 3) := by decide +kernel
theorem dX11_take_54 : decode cX11_take 54 = .ok (.istore 5, 2) := by decide +kernel
theorem dX11_take_56 : decode cX11_take 56 = .ok (.aload_n 0, 1) := by decide +kernel
theorem dX11_take_57 : decode cX11_take 57 = .ok (.getfield 29, 3) := by decide +kernel
theorem dX11_take_60 : decode cX11_take 60 = .ok (.getfield 155, 3) := by decide +kernel
theorem dX11_take_63 : decode cX11_take 63 = .ok (.iload 4, 2) := by decide +kernel
theorem dX11_take_65 : decode cX11_take 65 = .ok (.iaload, 1) := by decide +kernel
theorem dX11_take_66 : decode cX11_take 66 = .ok (.iload 5, 2) := by decide +kernel
theorem dX11_take_68 : decode cX11_take 68 = .ok (.if_icmp .eq 6, 3) := by decide +kernel
theorem dX11_take_71 : decode cX11_take 71 = .ok (.iinc 3 1, 3) := by decide +kernel
theorem dX11_take_74 : decode cX11_take 74 = .ok (.aload_n 0, 1) := by decide +kernel
theorem dX11_take_75 : decode cX11_take 75 = .ok (.getfield 29, 3) := by decide +kernel
theorem dX11_take_78 : decode cX11_take 78 = .ok (.getfield 155, 3) := by decide +kernel
theorem dX11_take_81 : decode cX11_take 81 = .ok (.iload 4, 2) := by decide +kernel
theorem dX11_take_83 : decode cX11_take 83 = .ok (.iload 5, 2) := by decide +kernel
theorem dX11_take_85 : decode cX11_take 85 = .ok (.iastore, 1) := by decide +kernel
theorem dX11_take_86 : decode cX11_take 86 = .ok (.iinc 4 1, 3) := by decide +kernel
theorem dX11_take_89 : decode cX11_take 89 = .ok (.goto (-57), 3) := by decide +kernel
theorem dX11_take_92 : decode cX11_take 92 = .ok (.iconst 0, 1) := by decide +kernel
theorem dX11_take_93 : decode cX11_take 93 = .ok (.istore 4, 2) := by decide +kernel
theorem dX11_take_95 : decode cX11_take 95 = .ok (.iload 4, 2) := by decide +kernel
theorem dX11_take_97 : decode cX11_take 97 = .ok (.aload_n 0, 1) := by decide +kernel
theorem dX11_take_98 : decode cX11_take 98 = .ok (.getfield 19, 3) := by decide +kernel
theorem dX11_take_101 : decode cX11_take 101 = .ok (.getfield 119, 3) := by decide +kernel
theorem dX11_take_104 : decode cX11_take 104 = .ok (.if_icmp .ge 30, 3) := by decide +kernel
theorem dX11_take_107 : decode cX11_take 107 = .ok (.aload_n 0, 1) := by decide +kernel
theorem dX11_take_108 : decode cX11_take 108 = .ok (.getfield 29, 3) := by decide +kernel
theorem dX11_take_111 : decode cX11_take 111 = .ok (.getfield 195, 3) := by decide +kernel
theorem dX11_take_114 : decode cX11_take 114 = .ok (.iload 4, 2) := by decide +kernel
theorem dX11_take_116 : decode cX11_take 116 = .ok (.aload_n 0, 1) := by decide +kernel
theorem dX11_take_117 : decode cX11_take 117 = .ok (.getfield 56, 3) := by decide +kernel
theorem dX11_take_120 : decode cX11_take 120 = .ok (.iload_n 1, 1) := by decide +kernel
theorem dX11_take_121 : decode cX11_take 121 = .ok (.iload_n 2, 1) := by decide +kernel
theorem dX11_take_122 : decode cX11_take 122 = .ok (.iload 4, 2) := by decide +kernel
theorem dX11_take_124 : decode cX11_take 124 = .ok (.invokevirtual 258, 3) := by decide +kernel
theorem dX11_take_127 : decode cX11_take 127 = .ok (.iastore, 1) := by decide +kernel
theorem dX11_take_128 : decode cX11_take 128 = .ok (.iinc 4 1, 3) := by decide +kernel
theorem dX11_take_131 : decode cX11_take 131 = .ok (.goto (-36), 3) := by decide +kernel
theorem dX11_take_134 : decode cX11_take 134 = .ok (.iload_n 3, 1) := by decide +kernel
theorem dX11_take_135 : decode cX11_take 135 = .ok (.ireturn, 1) := by decide +kernel
theorem dX11_handlings_0 : decode cX11_handlings 0 = .ok (.aload_n 0, 1) := by decide +kernel
theorem dX11_handlings_1 : decode cX11_handlings 1 = .ok (.invokevirtual 244, 3) := by decide +kernel
theorem dX11_handlings_4 : decode cX11_handlings 4 = .ok (.iload_n 1, 1) := by decide +kernel
theorem dX11_handlings_5 : decode cX11_handlings 5 = .ok (.invokevirtual 251, 3) := by decide +kernel
theorem dX11_handlings_8 : decode cX11_handlings 8 = .ok (.istore_n 2, 1) := by decide +kernel
theorem dX11_handlings_9 : decode cX11_handlings 9 = .ok (.iload_n 2, 1) := by decide +kernel
theorem dX11_handlings_10 : decode cX11_handlings 10 = .ok (.iconst (-1), 1) := by decide +kernel
theorem dX11_handlings_11 : decode cX11_handlings 11 = .ok (.if_icmp .ne 7, 3) := by decide +kernel
theorem dX11_handlings_14 : decode cX11_handlings 14 = .ok (.iconst (-1), 1) := by decide +kernel
theorem dX11_handlings_15 : decode cX11_handlings 15 = .ok (.goto 22, 3) := by decide +kernel
theorem dX11_handlings_18 : decode cX11_handlings 18 = .ok (.aload_n 0, 1) := by decide +kernel
theorem dX11_handlings_19 : decode cX11_handlings 19 = .ok (.getfield 19, 3) := by decide +kernel
theorem dX11_handlings_22 : decode cX11_handlings 22 = .ok (.getfield 97, 3) := by decide +kernel
theorem dX11_handlings_25 : decode cX11_handlings 25 = .ok (.aload_n 0, 1) := by decide +kernel
theorem dX11_handlings_26 : decode cX11_handlings 26 = .ok (.getfield 29, 3) := by decide +kernel
theorem dX11_handlings_29 : decode cX11_handlings 29 = .ok (.aload_n 0, 1) := by decide +kernel
theorem dX11_handlings_30 : decode cX11_handlings 30 = .ok (.getfield 56, 3) := by decide +kernel
theorem dX11_handlings_33 : decode cX11_handlings 33 = .ok (.iload_n 2, 1) := by decide +kernel
theorem dX11_handlings_34 : decode cX11_handlings 34 = .ok (.invokestatic 262, 3) := by decide +kernel
theorem dX11_handlings_37 : decode cX11_handlings 37 = .ok (.ireturn, 1) := by decide +kernel
theorem dX11_mend_0 : decode cX11_mend 0 = .ok (.aload_n 0, 1) := by decide +kernel
theorem dX11_mend_1 : decode cX11_mend 1 = .ok (.getfield 63, 3) := by decide +kernel
theorem dX11_mend_4 : decode cX11_mend 4 = .ok (.aload_n 0, 1) := by decide +kernel
theorem dX11_mend_5 : decode cX11_mend 5 = .ok (.getfield 19, 3) := by decide +kernel
theorem dX11_mend_8 : decode cX11_mend 8 = .ok (.aload_n 0, 1) := by decide +kernel
theorem dX11_mend_9 : decode cX11_mend 9 = .ok (.getfield 29, 3) := by decide +kernel
theorem dX11_mend_12 : decode cX11_mend 12 = .ok (.aload_n 0, 1) := by decide +kernel
theorem dX11_mend_13 : decode cX11_mend 13 = .ok (.invokevirtual 244, 3) := by decide +kernel
theorem dX11_mend_16 : decode cX11_mend 16 = .ok (.invokevirtual 266, 3) := by decide +kernel
theorem dX11_mend_19 : decode cX11_mend 19 = .ok (.istore_n 1, 1) := by decide +kernel
theorem dX11_mend_20 : decode cX11_mend 20 = .ok (.iload_n 1, 1) := by decide +kernel
theorem dX11_mend_21 : decode cX11_mend 21 = .ok (.iconst (-1), 1) := by decide +kernel
theorem dX11_mend_22 : decode cX11_mend 22 = .ok (.if_icmp .eq 11, 3) := by decide +kernel
theorem dX11_mend_25 : decode cX11_mend 25 = .ok (.aload_n 0, 1) := by decide +kernel
theorem dX11_mend_26 : decode cX11_mend 26 = .ok (.getfield 63, 3) := by decide +kernel
theorem dX11_mend_29 : decode cX11_mend 29 = .ok (.iload_n 1, 1) := by decide +kernel
theorem dX11_mend_30 : decode cX11_mend 30 = .ok (.invokevirtual 270, 3) := by decide +kernel
theorem dX11_mend_33 : decode cX11_mend 33 = .ok (.iload_n 1, 1) := by decide +kernel
theorem dX11_mend_34 : decode cX11_mend 34 = .ok (.ireturn, 1) := by decide +kernel
theorem dX11_move_0 : decode cX11_move 0 = .ok (.aload_n 0, 1) := by decide +kernel
theorem dX11_move_1 : decode cX11_move 1 = .ok (.getfield 63, 3) := by decide +kernel
theorem dX11_move_4 : decode cX11_move 4 = .ok (.iload_n 1, 1) := by decide +kernel
theorem dX11_move_5 : decode cX11_move 5 = .ok (.invokevirtual 273, 3) := by decide +kernel
theorem dX11_move_8 : decode cX11_move 8 = .ok (.ireturn, 1) := by decide +kernel
theorem dX11_mended_0 : decode cX11_mended 0 = .ok (.aload_n 0, 1) := by decide +kernel
theorem dX11_mended_1 : decode cX11_mended 1 = .ok (.getfield 63, 3) := by decide +kernel
theorem dX11_mended_4 : decode cX11_mended 4 = .ok (.aload_n 0, 1) := by decide +kernel
theorem dX11_mended_5 : decode cX11_mended 5 = .ok (.getfield 19, 3) := by decide +kernel
theorem dX11_mended_8 : decode cX11_mended 8 = .ok (.aload_n 0, 1) := by decide +kernel
theorem dX11_mended_9 : decode cX11_mended 9 = .ok (.getfield 29, 3) := by decide +kernel
theorem dX11_mended_12 : decode cX11_mended 12 = .ok (.aload_n 0, 1) := by decide +kernel
theorem dX11_mended_13 : decode cX11_mended 13 = .ok (.invokevirtual 244, 3) := by decide +kernel
theorem dX11_mended_16 : decode cX11_mended 16 = .ok (.invokevirtual 266, 3) := by decide +kernel
theorem dX11_mended_19 : decode cX11_mended 19 = .ok (.istore_n 1, 1) := by decide +kernel
theorem dX11_mended_20 : decode cX11_mended 20 = .ok (.iload_n 1, 1) := by decide +kernel
theorem dX11_mended_21 : decode cX11_mended 21 = .ok (.ifCond .le 25, 3) := by decide +kernel
theorem dX11_mended_24 : decode cX11_mended 24 = .ok (.aload_n 0, 1) := by decide +kernel
theorem dX11_mended_25 : decode cX11_mended 25 = .ok (.getfield 39, 3) := by decide +kernel
theorem dX11_mended_28 : decode cX11_mended 28 = .ok (.aload_n 0, 1) := by decide +kernel
theorem dX11_mended_29 : decode cX11_mended 29 = .ok (.getfield 29, 3) := by decide +kernel
theorem dX11_mended_32 : decode cX11_mended 32 = .ok (.invokevirtual 213, 3) := by decide +kernel
theorem dX11_mended_35 : decode cX11_mended 35 = .ok (.aload_n 0, 1) := by decide +kernel
theorem dX11_mended_36 : decode cX11_mended 36 = .ok (.getfield 63, 3) := by decide +kernel
theorem dX11_mended_39 : decode cX11_mended 39 = .ok (.aload_n 0, 1) := by decide +kernel
theorem dX11_mended_40 : decode cX11_mended 40 = .ok (.getfield 29, 3) := by decide +kernel
theorem dX11_mended_43 : decode cX11_mended 43 = .ok (.invokevirtual 276, 3) := by decide +kernel
theorem dX11_mended_46 : decode cX11_mended 46 = .ok (.iload_n 1, 1) := by decide +kernel
theorem dX11_mended_47 : decode cX11_mended 47 = .ok (.ireturn, 1) := by decide +kernel
theorem dX11_spare_0 : decode cX11_spare 0 = .ok (.aload_n 0, 1) := by decide +kernel
theorem dX11_spare_1 : decode cX11_spare 1 = .ok (.getfield 29, 3) := by decide +kernel
theorem dX11_spare_4 : decode cX11_spare 4 = .ok (.iload_n 1, 1) := by decide +kernel
theorem dX11_spare_5 : decode cX11_spare 5 = .ok (.invokevirtual 144, 3) := by decide +kernel
theorem dX11_spare_8 : decode cX11_spare 8 = .ok (.ifCond .eq 17, 3) := by decide +kernel
