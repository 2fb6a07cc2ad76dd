theorem dX11_spare_11 : decode cX11_spare 11 = .ok (.aload_n 0, 1) := by decide +kernel
theorem dX11_spare_12 : decode cX11_spare 12 = .ok (.getfield 19, 3) := by decide +kernel
theorem dX11_spare_15 : decode cX11_spare 15 = .ok (.aload_n 0, 1) := by decide +kernel
theorem dX11_spare_16 : decode cX11_spare 16 = .ok (.getfield 29, 3) := by decide +kernel
theorem dX11_spare_19 : decode cX11_spare 19 = .ok (.invokestatic 219, 3) := by decide +kernel
theorem dX11_spare_22 : decode cX11_spare 22 = .ok (.ifCond .eq 5, 3) := by decide +kernel
theorem dX11_spare_25 : decode cX11_spare 25 = .ok (.iconst (-1), 1) := by decide +kernel
theorem dX11_spare_26 : decode cX11_spare 26 = .ok (.ireturn, 1) := by decide +kernel
theorem dX11_spare_27 : decode cX11_spare 27 = .ok (.aload_n 0, 1) := by decide +kernel
theorem dX11_spare_28 : decode cX11_spare 28 = .ok (.getfield 29, 3) := by decide +kernel
theorem dX11_spare_31 : decode cX11_spare 31 = .ok (.getfield 148, 3) := by decide +kernel
theorem dX11_spare_34 : decode cX11_spare 34 = .ok (.iload_n 1, 1) := by decide +kernel
theorem dX11_spare_35 : decode cX11_spare 35 = .ok (.iaload, 1) := by decide +kernel
theorem dX11_spare_36 : decode cX11_spare 36 = .ok (.istore_n 2, 1) := by decide +kernel
theorem dX11_spare_37 : decode cX11_spare 37 = .ok (.iconst 0, 1) := by decide +kernel
theorem dX11_spare_38 : decode cX11_spare 38 = .ok (.istore_n 3, 1) := by decide +kernel
theorem dX11_spare_39 : decode cX11_spare 39 = .ok (.iconst 1, 1) := by decide +kernel
theorem dX11_spare_40 : decode cX11_spare 40 = .ok (.istore 4, 2) := by decide +kernel
theorem dX11_spare_42 : decode cX11_spare 42 = .ok (.iload 4, 2) := by decide +kernel
theorem dX11_spare_44 : decode cX11_spare 44 = .ok (.bipush 99, 2) := by decide +kernel
theorem dX11_spare_46 : decode cX11_spare 46 = .ok (.if_icmp .gt 42, 3) := by decide +kernel
theorem dX11_spare_49 : decode cX11_spare 49 = .ok (.aload_n 0, 1) := by decide +kernel
theorem dX11_spare_50 : decode cX11_spare 50 = .ok (.getfield 29, 3) := by decide +kernel
theorem dX11_spare_53 : decode cX11_spare 53 = .ok (.getfield 148, 3) := by decide +kernel
theorem dX11_spare_56 : decode cX11_spare 56 = .ok (.iload_n 1, 1) := by decide +kernel
theorem dX11_spare_57 : decode cX11_spare 57 = .ok (.iload_n 2, 1) := by decide +kernel
theorem dX11_spare_58 : decode cX11_spare 58 = .ok (.iload 4, 2) := by decide +kernel
theorem dX11_spare_60 : decode cX11_spare 60 = .ok (.iadd, 1) := by decide +kernel
theorem dX11_spare_61 : decode cX11_spare 61 = .ok (.iastore, 1) := by decide +kernel
theorem dX11_spare_62 : decode cX11_spare 62 = .ok (.aload_n 0, 1) := by decide +kernel
theorem dX11_spare_63 : decode cX11_spare 63 = .ok (.getfield 19, 3) := by decide +kernel
theorem dX11_spare_66 : decode cX11_spare 66 = .ok (.aload_n 0, 1) := by decide +kernel
theorem dX11_spare_67 : decode cX11_spare 67 = .ok (.getfield 29, 3) := by decide +kernel
theorem dX11_spare_70 : decode cX11_spare 70 = .ok (.invokestatic 219, 3) := by decide +kernel
theorem dX11_spare_73 : decode cX11_spare 73 = .ok (.ifCond .eq 6, 3) := by decide +kernel
theorem dX11_spare_76 : decode cX11_spare 76 = .ok (.goto 12, 3) := by decide +kernel
theorem dX11_spare_79 : decode cX11_spare 79 = .ok (.iload 4, 2) := by decide +kernel
theorem dX11_spare_81 : decode cX11_spare 81 = .ok (.istore_n 3, 1) := by decide +kernel
theorem dX11_spare_82 : decode cX11_spare 82 = .ok (.iinc 4 1, 3) := by decide +kernel
theorem dX11_spare_85 : decode cX11_spare 85 = .ok (.goto (-43), 3) := by decide +kernel
theorem dX11_spare_88 : decode cX11_spare 88 = .ok (.aload_n 0, 1) := by decide +kernel
theorem dX11_spare_89 : decode cX11_spare 89 = .ok (.getfield 29, 3) := by decide +kernel
theorem dX11_spare_92 : decode cX11_spare 92 = .ok (.getfield 148, 3) := by decide +kernel
theorem dX11_spare_95 : decode cX11_spare 95 = .ok (.iload_n 1, 1) := by decide +kernel
theorem dX11_spare_96 : decode cX11_spare 96 = .ok (.iload_n 2, 1) := by decide +kernel
theorem dX11_spare_97 : decode cX11_spare 97 = .ok (.iastore, 1) := by decide +kernel
theorem dX11_spare_98 : decode cX11_spare 98 = .ok (.iload_n 3, 1) := by decide +kernel
theorem dX11_spare_99 : decode cX11_spare 99 = .ok (.ireturn, 1) := by decide +kernel
theorem dX11_swaps_0 : decode cX11_swaps 0 = .ok (.iconst 0, 1) := by decide +kernel
theorem dX11_swaps_1 : decode cX11_swaps 1 = .ok (.istore_n 1, 1) := by decide +kernel
theorem dX11_swaps_2 : decode cX11_swaps 2 = .ok (.iconst 0, 1) := by decide +kernel
theorem dX11_swaps_3 : decode cX11_swaps 3 = .ok (.istore_n 2, 1) := by decide +kernel
theorem dX11_swaps_4 : decode cX11_swaps 4 = .ok (.iload_n 2, 1) := by decide +kernel
theorem dX11_swaps_5 : decode cX11_swaps 5 = .ok (.aload_n 0, 1) := by decide +kernel
theorem dX11_swaps_6 : decode cX11_swaps 6 = .ok (.getfield 29, 3) := by decide +kernel
theorem dX11_swaps_9 : decode cX11_swaps 9 = .ok (.getfield 110, 3) := by decide +kernel
theorem dX11_swaps_12 : decode cX11_swaps 12 = .ok (.if_icmp .ge 88, 3) := by decide +kernel
theorem dX11_swaps_15 : decode cX11_swaps 15 = .ok (.iload_n 2, 1) := by decide +kernel
theorem dX11_swaps_16 : decode cX11_swaps 16 = .ok (.iconst 1, 1) := by decide +kernel
theorem dX11_swaps_17 : decode cX11_swaps 17 = .ok (.iadd, 1) := by decide +kernel
theorem dX11_swaps_18 : decode cX11_swaps 18 = .ok (.istore_n 3, 1) := by decide +kernel
theorem dX11_swaps_19 : decode cX11_swaps 19 = .ok (.iload_n 3, 1) := by decide +kernel
theorem dX11_swaps_20 : decode cX11_swaps 20 = .ok (.aload_n 0, 1) := by decide +kernel
theorem dX11_swaps_21 : decode cX11_swaps 21 = .ok (.getfield 29, 3) := by decide +kernel
theorem dX11_swaps_24 : decode cX11_swaps 24 = .ok (.getfield 110, 3) := by decide +kernel
theorem dX11_swaps_27 : decode cX11_swaps 27 = .ok (.if_icmp .ge 67, 3) := by decide +kernel
theorem dX11_swaps_30 : decode cX11_swaps 30 = .ok (.aload_n 0, 1) := by decide +kernel
theorem dX11_swaps_31 : decode cX11_swaps 31 = .ok (.getfield 29, 3) := by decide +kernel
theorem dX11_swaps_34 : decode cX11_swaps 34 = .ok (.getfield 155, 3) := by decide +kernel
theorem dX11_swaps_37 : decode cX11_swaps 37 = .ok (.iload_n 2, 1) := by decide +kernel
theorem dX11_swaps_38 : decode cX11_swaps 38 = .ok (.iaload, 1) := by decide +kernel
theorem dX11_swaps_39 : decode cX11_swaps 39 = .ok (.iconst (-1), 1) := by decide +kernel
theorem dX11_swaps_40 : decode cX11_swaps 40 = .ok (.if_icmp .eq 48, 3) := by decide +kernel
theorem dX11_swaps_43 : decode cX11_swaps 43 = .ok (.aload_n 0, 1) := by decide +kernel
theorem dX11_swaps_44 : decode cX11_swaps 44 = .ok (.getfield 29, 3) := by decide +kernel
theorem dX11_swaps_47 : decode cX11_swaps 47 = .ok (.getfield 155, 3) := by decide +kernel
theorem dX11_swaps_50 : decode cX11_swaps 50 = .ok (.iload_n 3, 1) := by decide +kernel
theorem dX11_swaps_51 : decode cX11_swaps 51 = .ok (.iaload, 1) := by decide +kernel
theorem dX11_swaps_52 : decode cX11_swaps 52 = .ok (.iconst (-1), 1) := by decide +kernel
theorem dX11_swaps_53 : decode cX11_swaps 53 = .ok (.if_icmp .ne 6, 3) := by decide +kernel
theorem dX11_swaps_56 : decode cX11_swaps 56 = .ok (.goto 32, 3) := by decide +kernel
theorem dX11_swaps_59 : decode cX11_swaps 59 = .ok (.aload_n 0, 1) := by decide +kernel
theorem dX11_swaps_60 : decode cX11_swaps 60 = .ok (.iload_n 2, 1) := by decide +kernel
theorem dX11_swaps_61 : decode cX11_swaps 61 = .ok (.iload_n 3, 1) := by decide +kernel
theorem dX11_swaps_62 : decode cX11_swaps 62 = .ok (.invokevirtual 279, 3) := by decide +kernel
theorem dX11_swaps_65 : decode cX11_swaps 65 = .ok (.aload_n 0, 1) := by decide +kernel
theorem dX11_swaps_66 : decode cX11_swaps 66 = .ok (.getfield 19, 3) := by decide +kernel
theorem dX11_swaps_69 : decode cX11_swaps 69 = .ok (.aload_n 0, 1) := by decide +kernel
theorem dX11_swaps_70 : decode cX11_swaps 70 = .ok (.getfield 29, 3) := by decide +kernel
theorem dX11_swaps_73 : decode cX11_swaps 73 = .ok (.invokestatic 219, 3) := by decide +kernel
theorem dX11_swaps_76 : decode cX11_swaps 76 = .ok (.ifCond .ne 6, 3) := by decide +kernel
theorem dX11_swaps_79 : decode cX11_swaps 79 = .ok (.iinc 1 1, 3) := by decide +kernel
theorem dX11_swaps_82 : decode cX11_swaps 82 = .ok (.aload_n 0, 1) := by decide +kernel
theorem dX11_swaps_83 : decode cX11_swaps 83 = .ok (.iload_n 2, 1) := by decide +kernel
theorem dX11_swaps_84 : decode cX11_swaps 84 = .ok (.iload_n 3, 1) := by decide +kernel
theorem dX11_swaps_85 : decode cX11_swaps 85 = .ok (.invokevirtual 279, 3) := by decide +kernel
theorem dX11_swaps_88 : decode cX11_swaps 88 = .ok (.iinc 3 1, 3) := by decide +kernel
theorem dX11_swaps_91 : decode cX11_swaps 91 = .ok (.goto (-72), 3) := by decide +kernel
theorem dX11_swaps_94 : decode cX11_swaps 94 = .ok (.iinc 2 1, 3) := by decide +kernel
theorem dX11_swaps_97 : decode cX11_swaps 97 = .ok (.goto (-93), 3) := by decide +kernel
theorem dX11_swaps_100 : decode cX11_swaps 100 = .ok (.iload_n 1, 1) := by decide +kernel
theorem dX11_swaps_101 : decode cX11_swaps 101 = .ok (.ireturn, 1) := by decide +kernel
theorem dX11_come_0 : decode cX11_come 0 = .ok (.iload_n 1, 1) := by decide +kernel
theorem dX11_come_1 : decode cX11_come 1 = .ok (.iconst 1, 1) := by decide +kernel
theorem dX11_come_2 : decode cX11_come 2 = .ok (.if_icmp .lt 24, 3) := by decide +kernel
theorem dX11_come_5 : decode cX11_come 5 = .ok (.iload_n 1, 1) := by decide +kernel
theorem dX11_come_6 : decode cX11_come 6 = .ok (.bipush 99, 2) := by decide +kernel
theorem dX11_come_8 : decode cX11_come 8 = .ok (.if_icmp .gt 18, 3) := by decide +kernel
theorem dX11_come_11 : decode cX11_come 11 = .ok (.iload_n 2, 1) := by decide +kernel
theorem dX11_come_12 : decode cX11_come 12 = .ok (.iconst 1, 1) := by decide +kernel
theorem dX11_come_13 : decode cX11_come 13 = .ok (.if_icmp .lt 13, 3) := by decide +kernel
theorem dX11_come_16 : decode cX11_come 16 = .ok (.iload_n 2, 1) := by decide +kernel
theorem dX11_come_17 : decode cX11_come 17 = .ok (.bipush 9, 2) := by decide +kernel
theorem dX11_come_19 : decode cX11_come 19 = .ok (.if_icmp .gt 7, 3) := by decide +kernel
theorem dX11_come_22 : decode cX11_come 22 = .ok (.iconst 1, 1) := by decide +kernel
theorem dX11_come_23 : decode cX11_come 23 = .ok (.goto 4, 3) := by decide +kernel
theorem dX11_come_26 : decode cX11_come 26 = .ok (.iconst 0, 1) := by decide +kernel
theorem dX11_come_27 : decode cX11_come 27 = .ok (.istore_n 3, 1) := by decide +kernel
theorem dX11_come_28 : decode cX11_come 28 = .ok (.iload_n 3, 1) := by decide +kernel
theorem dX11_come_29 : decode cX11_come 29 = .ok (.ifCond .eq 14, 3) := by decide +kernel
theorem dX11_come_32 : decode cX11_come 32 = .ok (.aload_n 0, 1) := by decide +kernel
theorem dX11_come_33 : decode cX11_come 33 = .ok (.getfield 29, 3) := by decide +kernel
theorem dX11_come_36 : decode cX11_come 36 = .ok (.getfield 110, 3) := by decide +kernel
theorem dX11_come_39 : decode cX11_come 39 = .ok (.iconst 5, 1) := by decide +kernel
theorem dX11_come_40 : decode cX11_come 40 = .ok (.if_icmp .lt 5, 3) := by decide +kernel
theorem dX11_come_43 : decode cX11_come 43 = .ok (.iconst (-1), 1) := by decide +kernel
theorem dX11_come_44 : decode cX11_come 44 = .ok (.ireturn, 1) := by decide +kernel
theorem dX11_come_45 : decode cX11_come 45 = .ok (.aload_n 0, 1) := by decide +kernel
theorem dX11_come_46 : decode cX11_come 46 = .ok (.getfield 39, 3) := by decide +kernel
theorem dX11_come_49 : decode cX11_come 49 = .ok (.aload_n 0, 1) := by decide +kernel
theorem dX11_come_50 : decode cX11_come 50 = .ok (.getfield 29, 3) := by decide +kernel
theorem dX11_come_53 : decode cX11_come 53 = .ok (.invokevirtual 213, 3) := by decide +kernel
theorem dX11_come_56 : decode cX11_come 56 = .ok (.aload_n 0, 1) := by decide +kernel
theorem dX11_come_57 : decode cX11_come 57 = .ok (.getfield 56, 3) := by decide +kernel
theorem dX11_come_60 : decode cX11_come 60 = .ok (.invokevirtual 283, 3) := by decide +kernel
theorem dX11_come_63 : decode cX11_come 63 = .ok (.aload_n 0, 1) := by decide +kernel
theorem dX11_come_64 : decode cX11_come 64 = .ok (.getfield 29, 3) := by decide +kernel
theorem dX11_come_67 : decode cX11_come 67 = .ok (.lconst 0, 1) := by decide +kernel
theorem dX11_come_68 : decode cX11_come 68 = .ok (.iload_n 1, 1) := by decide +kernel
theorem dX11_come_69 : decode cX11_come 69 = .ok (.iload_n 2, 1) := by decide +kernel
theorem dX11_come_70 : decode cX11_come 70 = .ok (.invokevirtual 286, 3) := by decide +kernel
theorem dX11_come_73 : decode cX11_come 73 = .ok (.aload_n 0, 1) := by decide +kernel
theorem dX11_come_74 : decode cX11_come 74 = .ok (.getfield 29, 3) := by decide +kernel
theorem dX11_come_77 : decode cX11_come 77 = .ok (.getfield 110, 3) := by decide +kernel
theorem dX11_come_80 : decode cX11_come 80 = .ok (.iconst 1, 1) := by decide +kernel
theorem dX11_come_81 : decode cX11_come 81 = .ok (.isub, 1) := by decide +kernel
theorem dX11_come_82 : decode cX11_come 82 = .ok (.ireturn, 1) := by decide +kernel
theorem dX11_drop_0 : decode cX11_drop 0 = .ok (.aload_n 0, 1) := by decide +kernel
theorem dX11_drop_1 : decode cX11_drop 1 = .ok (.getfield 29, 3) := by decide +kernel
theorem dX11_drop_4 : decode cX11_drop 4 = .ok (.iload_n 1, 1) := by decide +kernel
theorem dX11_drop_5 : decode cX11_drop 5 = .ok (.invokevirtual 144, 3) := by decide +kernel
theorem dX11_drop_8 : decode cX11_drop 8 = .ok (.ifCond .ne 5, 3) := by decide +kernel
theorem dX11_drop_11 : decode cX11_drop 11 = .ok (.iconst (-1), 1) := by decide +kernel
theorem dX11_drop_12 : decode cX11_drop 12 = .ok (.ireturn, 1) := by decide +kernel
theorem dX11_drop_13 : decode cX11_drop 13 = .ok (.aload_n 0, 1) := by decide +kernel
theorem dX11_drop_14 : decode cX11_drop 14 = .ok (.getfield 39, 3) := by decide +kernel
theorem dX11_drop_17 : decode cX11_drop 17 = .ok (.aload_n 0, 1) := by decide +kernel
theorem dX11_drop_18 : decode cX11_drop 18 = .ok (.getfield 29, 3) := by decide +kernel
theorem dX11_drop_21 : decode cX11_drop 21 = .ok (.invokevirtual 213, 3) := by decide +kernel
theorem dX11_drop_24 : decode cX11_drop 24 = .ok (.aload_n 0, 1) := by decide +kernel
theorem dX11_drop_25 : decode cX11_drop 25 = .ok (.getfield 56, 3) := by decide +kernel
theorem dX11_drop_28 : decode cX11_drop 28 = .ok (.invokevirtual 283, 3) := by decide +kernel
theorem dX11_drop_31 : decode cX11_drop 31 = .ok (.aload_n 0, 1) := by decide +kernel
theorem dX11_drop_32 : decode cX11_drop 32 = .ok (.getfield 29, 3) := by decide +kernel
theorem dX11_drop_35 : decode cX11_drop 35 = .ok (.iload_n 1, 1) := by decide +kernel
theorem dX11_drop_36 : decode cX11_drop 36 = .ok (.invokevirtual 290, 3) := by decide +kernel
theorem dX11_drop_39 : decode cX11_drop 39 = .ok (.aload_n 0, 1) := by decide +kernel
theorem dX11_drop_40 : decode cX11_drop 40 = .ok (.getfield 29, 3) := by decide +kernel
theorem dX11_drop_43 : decode cX11_drop 43 = .ok (.dup, 1) := by decide +kernel
theorem dX11_drop_44 : decode cX11_drop 44 = .ok (.getfield 110, 3) := by decide +kernel
theorem dX11_drop_47 : decode cX11_drop 47 = .ok (.iconst 1, 1) := by decide +kernel
theorem dX11_drop_48 : decode cX11_drop 48 = .ok (.isub, 1) := by decide +kernel
theorem dX11_drop_49 : decode cX11_drop 49 = .ok (.putfield 110, 3) := by decide +kernel
theorem dX11_drop_52 : decode cX11_drop 52 = .ok (.aload_n 0, 1) := by decide +kernel
theorem dX11_drop_53 : decode cX11_drop 53 = .ok (.getfield 29, 3) := by decide +kernel
theorem dX11_drop_56 : decode cX11_drop 56 = .ok (.getfield 110, 3) := by decide +kernel
theorem dX11_drop_59 : decode cX11_drop 59 = .ok (.ireturn, 1) := by decide +kernel
theorem dX11_again_0 : decode cX11_again 0 = .ok (.aload_n 0, 1) := by decide +kernel
theorem dX11_again_1 : decode cX11_again 1 = .ok (.getfield 29, 3) := by decide +kernel
theorem dX11_again_4 : decode cX11_again 4 = .ok (.iload_n 1, 1) := by decide +kernel
theorem dX11_again_5 : decode cX11_again 5 = .ok (.invokevirtual 144, 3) := by decide +kernel
theorem dX11_again_8 : decode cX11_again 8 = .ok (.ifCond .ne 5, 3) := by decide +kernel
theorem dX11_again_11 : decode cX11_again 11 = .ok (.iconst (-1), 1) := by decide +kernel
theorem dX11_again_12 : decode cX11_again 12 = .ok (.ireturn, 1) := by decide +kernel
theorem dX11_again_13 : decode cX11_again 13 = .ok (.aload_n 0, 1) := by decide +kernel
theorem dX11_again_14 : decode cX11_again 14 = .ok (.getfield 39, 3) := by decide +kernel
theorem dX11_again_17 : decode cX11_again 17 = .ok (.aload_n 0, 1) := by decide +kernel
theorem dX11_again_18 : decode cX11_again 18 = .ok (.getfield 29, 3) := by decide +kernel
theorem dX11_again_21 : decode cX11_again 21 = .ok (.invokevirtual 213, 3) := by decide +kernel
theorem dX11_again_24 : decode cX11_again 24 = .ok (.aload_n 0, 1) := by decide +kernel
theorem dX11_again_25 : decode cX11_again 25 = .ok (.getfield 56, 3) := by decide +kernel
theorem dX11_again_28 : decode cX11_again 28 = .ok (.invokevirtual 283, 3) := by decide +kernel
theorem dX11_again_31 : decode cX11_again 31 = .ok (.aload_n 0, 1) := by decide +kernel
theorem dX11_again_32 : decode cX11_again 32 = .ok (.getfield 29, 3) := by decide +kernel
theorem dX11_again_35 : decode cX11_again 35 = .ok (.iload_n 1, 1) := by decide +kernel
theorem dX11_again_36 : decode cX11_again 36 = .ok (.invokevirtual 290, 3) := by decide +kernel
theorem dX11_again_39 : decode cX11_again 39 = .ok (.aload_n 0, 1) := by decide +kernel
theorem dX11_again_40 : decode cX11_again 40 = .ok (.getfield 29, 3) := by decide +kernel
theorem dX11_again_43 : decode cX11_again 43 = .ok (.getfield 110, 3) := by decide +kernel
theorem dX11_again_46 : decode cX11_again 46 = .ok (.iconst 1, 1) := by decide +kernel
theorem dX11_again_47 : decode cX11_again 47 = .ok (.isub, 1) := by decide +kernel
theorem dX11_again_48 : decode cX11_again 48 = .ok (.ireturn, 1) := by decide +kernel
theorem dX11_weigh_0 : decode cX11_weigh 0 = .ok (.aload_n 0, 1) := by decide +kernel
theorem dX11_weigh_1 : decode cX11_weigh 1 = .ok (.getfield 29, 3) := by decide +kernel
theorem dX11_weigh_4 : decode cX11_weigh 4 = .ok (.iload_n 1, 1) := by decide +kernel
theorem dX11_weigh_5 : decode cX11_weigh 5 = .ok (.invokevirtual 144, 3) := by decide +kernel
theorem dX11_weigh_8 : decode cX11_weigh 8 = .ok (.ifCond .eq 14, 3) := by decide +kernel
theorem dX11_weigh_11 : decode cX11_weigh 11 = .ok (.iload_n 2, 1) := by decide +kernel
theorem dX11_weigh_12 : decode cX11_weigh 12 = .ok (.iconst 1, 1) := by decide +kernel
theorem dX11_weigh_13 : decode cX11_weigh 13 = .ok (.if_icmp .lt 9, 3) := by decide +kernel
theorem dX11_weigh_16 : decode cX11_weigh 16 = .ok (.iload_n 2, 1) := by decide +kernel
theorem dX11_weigh_17 : decode cX11_weigh 17 = .ok (.bipush 99, 2) := by decide +kernel
theorem dX11_weigh_19 : decode cX11_weigh 19 = .ok (.if_icmp .le 5, 3) := by decide +kernel
theorem dX11_weigh_22 : decode cX11_weigh 22 = .ok (.iconst (-1), 1) := by decide +kernel
theorem dX11_weigh_23 : decode cX11_weigh 23 = .ok (.ireturn, 1) := by decide +kernel
theorem dX11_weigh_24 : decode cX11_weigh 24 = .ok (.aload_n 0, 1) := by decide +kernel
theorem dX11_weigh_25 : decode cX11_weigh 25 = .ok (.getfield 29, 3) := by decide +kernel
theorem dX11_weigh_28 : decode cX11_weigh 28 = .ok (.getfield 148, 3) := by decide +kernel
theorem dX11_weigh_31 : decode cX11_weigh 31 = .ok (.iload_n 1, 1) := by decide +kernel
theorem dX11_weigh_32 : decode cX11_weigh 32 = .ok (.iaload, 1) := by decide +kernel
theorem dX11_weigh_33 : decode cX11_weigh 33 = .ok (.iload_n 2, 1) := by decide +kernel
theorem dX11_weigh_34 : decode cX11_weigh 34 = .ok (.if_icmp .ne 5, 3) := by decide +kernel
theorem dX11_weigh_37 : decode cX11_weigh 37 = .ok (.iconst 1, 1) := by decide +kernel
theorem dX11_weigh_38 : decode cX11_weigh 38 = .ok (.ireturn, 1) := by decide +kernel
theorem dX11_weigh_39 : decode cX11_weigh 39 = .ok (.aload_n 0, 1) := by decide +kernel
theorem dX11_weigh_40 : decode cX11_weigh 40 = .ok (.getfield 39, 3) := by decide +kernel
theorem dX11_weigh_43 : decode cX11_weigh 43 = .ok (.aload_n 0, 1) := by decide +kernel
theorem dX11_weigh_44 : decode cX11_weigh 44 = .ok (.getfield 29, 3) := by decide +kernel
theorem dX11_weigh_47 : decode cX11_weigh 47 = .ok (.invokevirtual 213, 3) := by decide +kernel
theorem dX11_weigh_50 : decode cX11_weigh 50 = .ok (.aload_n 0, 1) := by decide +kernel
theorem dX11_weigh_51 : decode cX11_weigh 51 = .ok (.getfield 56, 3) := by decide +kernel
theorem dX11_weigh_54 : decode cX11_weigh 54 = .ok (.invokevirtual 283, 3) := by decide +kernel
theorem dX11_weigh_57 : decode cX11_weigh 57 = .ok (.aload_n 0, 1) := by decide +kernel
theorem dX11_weigh_58 : decode cX11_weigh 58 = .ok (.getfield 29, 3) := by decide +kernel
theorem dX11_weigh_61 : decode cX11_weigh 61 = .ok (.getfield 148, 3) := by decide +kernel
theorem dX11_weigh_64 : decode cX11_weigh 64 = .ok (.iload_n 1, 1) := by decide +kernel
theorem dX11_weigh_65 : decode cX11_weigh 65 = .ok (.iload_n 2, 1) := by decide +kernel
theorem dX11_weigh_66 : decode cX11_weigh 66 = .ok (.iastore, 1) := by decide +kernel
theorem dX11_weigh_67 : decode cX11_weigh 67 = .ok (.iconst 0, 1) := by decide +kernel
theorem dX11_weigh_68 : decode cX11_weigh 68 = .ok (.ireturn, 1) := by decide +kernel
theorem dX11_undo_0 : decode cX11_undo 0 = .ok (.aload_n 0, 1) := by decide +kernel
theorem dX11_undo_1 : decode cX11_undo 1 = .ok (.getfield 39, 3) := by decide +kernel
theorem dX11_undo_4 : decode cX11_undo 4 = .ok (.getfield 293, 3) := by decide +kernel
theorem dX11_undo_7 : decode cX11_undo 7 = .ok (.ifCond .ne 5, 3) := by decide +kernel
theorem dX11_undo_10 : decode cX11_undo 10 = .ok (.iconst (-1), 1) := by decide +kernel
theorem dX11_undo_11 : decode cX11_undo 11 = .ok (.ireturn, 1) := by decide +kernel
theorem dX11_undo_12 : decode cX11_undo 12 = .ok (.aload_n 0, 1) := by decide +kernel
theorem dX11_undo_13 : decode cX11_undo 13 = .ok (.getfield 56, 3) := by decide +kernel
theorem dX11_undo_16 : decode cX11_undo 16 = .ok (.invokevirtual 283, 3) := by decide +kernel
theorem dX11_undo_19 : decode cX11_undo 19 = .ok (.aload_n 0, 1) := by decide +kernel
theorem dX11_undo_20 : decode cX11_undo 20 = .ok (.getfield 39, 3) := by decide +kernel
theorem dX11_undo_23 : decode cX11_undo 23 = .ok (.aload_n 0, 1) := by decide +kernel
theorem dX11_undo_24 : decode cX11_undo 24 = .ok (.getfield 29, 3) := by decide +kernel
theorem dX11_undo_27 : decode cX11_undo 27 = .ok (.invokevirtual 294, 3) := by decide +kernel
theorem dX11_undo_30 : decode cX11_undo 30 = .ok (.aload_n 0, 1) := by decide +kernel
theorem dX11_undo_31 : decode cX11_undo 31 = .ok (.getfield 39, 3) := by decide +kernel
theorem dX11_undo_34 : decode cX11_undo 34 = .ok (.getfield 293, 3) := by decide +kernel
theorem dX11_undo_37 : decode cX11_undo 37 = .ok (.ireturn, 1) := by decide +kernel
theorem dX11_image_0 : decode cX11_image 0 = .ok (.aload_n 0, 1) := by decide +kernel
theorem dX11_image_1 : decode cX11_image 1 = .ok (.iload_n 1, 1) := by decide +kernel
theorem dX11_image_2 : decode cX11_image 2 = .ok (.invokevirtual 297, 3) := by decide +kernel
theorem dX11_image_5 : decode cX11_image 5 = .ok (.astore_n 2, 1) := by decide +kernel
theorem dX11_image_6 : decode cX11_image 6 = .ok (.aload_n 2, 1) := by decide +kernel
theorem dX11_image_7 : decode cX11_image 7 = .ok (.ifnonnull 5, 3) := by decide +kernel
theorem dX11_image_10 : decode cX11_image 10 = .ok (.iconst 0, 1) := by decide +kernel
theorem dX11_image_11 : decode cX11_image 11 = .ok (.ireturn, 1) := by decide +kernel
theorem dX11_image_12 : decode cX11_image 12 = .ok (.aload_n 2, 1) := by decide +kernel
theorem dX11_image_13 : decode cX11_image 13 = .ok (.iconst 1, 1) := by decide +kernel
theorem dX11_image_14 : decode cX11_image 14 = .ok (.putfield 301, 3) := by decide +kernel
theorem dX11_image_17 : decode cX11_image 17 = .ok (.aload_n 2, 1) := by decide +kernel
theorem dX11_image_18 : decode cX11_image 18 = .ok (.getfield 305, 3) := by decide +kernel
theorem dX11_image_21 : decode cX11_image 21 = .ok (.aload_n 0, 1) := by decide +kernel
theorem dX11_image_22 : decode cX11_image 22 = .ok (.getfield 19, 3) := by decide +kernel
theorem dX11_image_25 : decode cX11_image 25 = .ok (.invokevirtual 308, 3) := by decide +kernel
theorem dX11_image_28 : decode cX11_image 28 = .ok (.aload_n 2, 1) := by decide +kernel
theorem dX11_image_29 : decode cX11_image 29 = .ok (.getfield 311, 3) := by decide +kernel
theorem dX11_image_32 : decode cX11_image 32 = .ok (.aload_n 0, 1) := by decide +kernel
theorem dX11_image_33 : decode cX11_image 33 = .ok (.getfield 29, 3) := by decide +kernel
theorem dX11_image_36 : decode cX11_image 36 = .ok (.invokevirtual 314, 3) := by decide +kernel
theorem dX11_image_39 : decode cX11_image 39 = .ok (.iconst 1, 1) := by decide +kernel
theorem dX11_image_40 : decode cX11_image 40 = .ok (.ireturn, 1) := by decide +kernel
theorem dX11_restore_0 : decode cX11_restore 0 = .ok (.aload_n 0, 1) := by decide +kernel
theorem dX11_restore_1 : decode cX11_restore 1 = .ok (.iload_n 1, 1) := by decide +kernel
theorem dX11_restore_2 : decode cX11_restore 2 = .ok (.invokevirtual 297, 3) := by decide +kernel
theorem dX11_restore_5 : decode cX11_restore 5 = .ok (.astore_n 2, 1) := by decide +kernel
theorem dX11_restore_6 : decode cX11_restore 6 = .ok (.aload_n 2, 1) := by decide +kernel
theorem dX11_restore_7 : decode cX11_restore 7 = .ok (.ifnull 10, 3) := by decide +kernel
theorem dX11_restore_10 : decode cX11_restore 10 = .ok (.aload_n 2, 1) := by decide +kernel
theorem dX11_restore_11 : decode cX11_restore 11 = .ok (.getfield 301, 3) := by decide +kernel
theorem dX11_restore_14 : decode cX11_restore 14 = .ok (.ifCond .ne 5, 3) := by decide +kernel
theorem dX11_restore_17 : decode cX11_restore 17 = .ok (.iconst 0, 1) := by decide +kernel
theorem dX11_restore_18 : decode cX11_restore 18 = .ok (.ireturn, 1) := by decide +kernel
theorem dX11_restore_19 : decode cX11_restore 19 = .ok (.aload_n 0, 1) := by decide +kernel
theorem dX11_restore_20 : decode cX11_restore 20 = .ok (.getfield 19, 3) := by decide +kernel
theorem dX11_restore_23 : decode cX11_restore 23 = .ok (.aload_n 2, 1) := by decide +kernel
theorem dX11_restore_24 : decode cX11_restore 24 = .ok (.getfield 305, 3) := by decide +kernel
theorem dX11_restore_27 : decode cX11_restore 27 = .ok (.invokevirtual 308, 3) := by decide +kernel
theorem dX11_restore_30 : decode cX11_restore 30 = .ok (.aload_n 0, 1) := by decide +kernel
theorem dX11_restore_31 : decode cX11_restore 31 = .ok (.getfield 29, 3) := by decide +kernel
theorem dX11_restore_34 : decode cX11_restore 34 = .ok (.aload_n 2, 1) := by decide +kernel
theorem dX11_restore_35 : decode cX11_restore 35 = .ok (.getfield 311, 3) := by decide +kernel
theorem dX11_restore_38 : decode cX11_restore 38 = .ok (.invokevirtual 314, 3) := by decide +kernel
theorem dX11_restore_41 : decode cX11_restore 41 = .ok (.aload_n 0, 1) := by decide +kernel
theorem dX11_restore_42 : decode cX11_restore 42 = .ok (.getfield 39, 3) := by decide +kernel
theorem dX11_restore_45 : decode cX11_restore 45 = .ok (.iconst 0, 1) := by decide +kernel
theorem dX11_restore_46 : decode cX11_restore 46 = .ok (.putfield 293, 3) := by decide +kernel
theorem dX11_restore_49 : decode cX11_restore 49 = .ok (.aload_n 0, 1) := by decide +kernel
theorem dX11_restore_50 : decode cX11_restore 50 = .ok (.getfield 56, 3) := by decide +kernel
theorem dX11_restore_53 : decode cX11_restore 53 = .ok (.invokevirtual 283, 3) := by decide +kernel
theorem dX11_restore_56 : decode cX11_restore 56 = .ok (.iconst 1, 1) := by decide +kernel
theorem dX11_restore_57 : decode cX11_restore 57 = .ok (.ireturn, 1) := by decide +kernel
theorem dX11_startAnew_0 : decode cX11_startAnew 0 = .ok (.aload_n 0, 1) := by decide +kernel
theorem dX11_startAnew_1 : decode cX11_startAnew 1 = .ok (.getfield 29, 3) := by decide +kernel
theorem dX11_startAnew_4 : decode cX11_startAnew 4 = .ok (.invokevirtual 316, 3) := by decide +kernel
theorem dX11_startAnew_7 : decode cX11_startAnew 7 = .ok (.aload_n 0, 1) := by decide +kernel
theorem dX11_startAnew_8 : decode cX11_startAnew 8 = .ok (.getfield 39, 3) := by decide +kernel
theorem dX11_startAnew_11 : decode cX11_startAnew 11 = .ok (.iconst 0, 1) := by decide +kernel
theorem dX11_startAnew_12 : decode cX11_startAnew 12 = .ok (.putfield 293, 3) := by decide +kernel
theorem dX11_startAnew_15 : decode cX11_startAnew 15 = .ok (.aload_n 0, 1) := by decide +kernel
theorem dX11_startAnew_16 : decode cX11_startAnew 16 = .ok (.getfield 56, 3) := by decide +kernel
theorem dX11_startAnew_19 : decode cX11_startAnew 19 = .ok (.invokevirtual 283, 3) := by decide +kernel
theorem dX11_startAnew_22 : decode cX11_startAnew 22 = .ok (.return_, 1) := by decide +kernel
theorem dX11_freshTable_0 : decode cX11_freshTable 0 = .ok (.aload_n 0, 1) := by decide +kernel
theorem dX11_freshTable_1 : decode cX11_freshTable 1 = .ok (.getfield 56, 3) := by decide +kernel
theorem dX11_freshTable_4 : decode cX11_freshTable 4 = .ok (.aload_n 0, 1) := by decide +kernel
theorem dX11_freshTable_5 : decode cX11_freshTable 5 = .ok (.getfield 19, 3) := by decide +kernel
theorem dX11_freshTable_8 : decode cX11_freshTable 8 = .ok (.aload_n 0, 1) := by decide +kernel
theorem dX11_freshTable_9 : decode cX11_freshTable 9 = .ok (.getfield 29, 3) := by decide +kernel
theorem dX11_freshTable_12 : decode cX11_freshTable 12 = .ok (.invokevirtual 319, 3) := by decide +kernel
theorem dX11_freshTable_15 : decode cX11_freshTable 15 = .ok (.aload_n 0, 1) := by decide +kernel
theorem dX11_freshTable_16 : decode cX11_freshTable 16 = .ok (.getfield 56, 3) := by decide +kernel
theorem dX11_freshTable_19 : decode cX11_freshTable 19 = .ok (.areturn, 1) := by decide +kernel
theorem dX11_changePlaces_0 : decode cX11_changePlaces 0 = .ok (.aload_n 0, 1) := by decide +kernel
theorem dX11_changePlaces_1 : decode cX11_changePlaces 1 = .ok (.getfield 29, 3) := by decide +kernel
theorem dX11_changePlaces_4 : decode cX11_changePlaces 4 = .ok (.getfield 155, 3) := by decide +kernel
theorem dX11_changePlaces_7 : decode cX11_changePlaces 7 = .ok (.iload_n 1, 1) := by decide +kernel
theorem dX11_changePlaces_8 : decode cX11_changePlaces 8 = .ok (.iaload, 1) := by decide +kernel
theorem dX11_changePlaces_9 : decode cX11_changePlaces 9 = .ok (.istore_n 3, 1) := by decide +kernel
theorem dX11_changePlaces_10 : decode cX11_changePlaces 10 = .ok (.aload_n 0, 1) := by decide +kernel
theorem dX11_changePlaces_11 : decode cX11_changePlaces 11 = .ok (.getfield 29, 3) := by decide +kernel
theorem dX11_changePlaces_14 : decode cX11_changePlaces 14 = .ok (.getfield 155, 3) := by decide +kernel
theorem dX11_changePlaces_17 : decode cX11_changePlaces 17 = .ok (.iload_n 1, 1) := by decide +kernel
theorem dX11_changePlaces_18 : decode cX11_changePlaces 18 = .ok (.aload_n 0, 1) := by decide +kernel
theorem dX11_changePlaces_19 : decode cX11_changePlaces 19 = .ok (.getfield 29, 3) := by decide +kernel
theorem dX11_changePlaces_22 : decode cX11_changePlaces 22 = .ok (.getfield 155, 3) := by decide +kernel
theorem dX11_changePlaces_25 : decode cX11_changePlaces 25 = .ok (.iload_n 2, 1) := by decide +kernel
theorem dX11_changePlaces_26 : decode cX11_changePlaces 26 = .ok (.iaload, 1) := by decide +kernel
theorem dX11_changePlaces_27 : decode cX11_changePlaces 27 = .ok (.iastore, 1) := by decide +kernel
theorem dX11_changePlaces_28 : decode cX11_changePlaces 28 = .ok (.aload_n 0, 1) := by decide +kernel
theorem dX11_changePlaces_29 : decode cX11_changePlaces 29 = .ok (.getfield 29, 3) := by decide +kernel
theorem dX11_changePlaces_32 : decode cX11_changePlaces 32 = .ok (.getfield 155, 3) := by decide +kernel
theorem dX11_changePlaces_35 : decode cX11_changePlaces 35 = .ok (.iload_n 2, 1) := by decide +kernel
theorem dX11_changePlaces_36 : decode cX11_changePlaces 36 = .ok (.iload_n 3, 1) := by decide +kernel
theorem dX11_changePlaces_37 : decode cX11_changePlaces 37 = .ok (.iastore, 1) := by decide +kernel
theorem dX11_changePlaces_38 : decode cX11_changePlaces 38 = .ok (.return_, 1) := by decide +kernel
theorem dX11_imageAt_0 : decode cX11_imageAt 0 = .ok (.iload_n 1, 1) := by decide +kernel
theorem dX11_imageAt_1 : decode cX11_imageAt 1 = .ok (.ifCond .ne 8, 3) := by decide +kernel
theorem dX11_imageAt_4 : decode cX11_imageAt 4 = .ok (.aload_n 0, 1) := by decide +kernel
theorem dX11_imageAt_5 : decode cX11_imageAt 5 = .ok (.getfield 46, 3) := by decide +kernel
theorem dX11_imageAt_8 : decode cX11_imageAt 8 = .ok (.areturn, 1) := by decide +kernel
theorem dX11_imageAt_9 : decode cX11_imageAt 9 = .ok (.iload_n 1, 1) := by decide +kernel
theorem dX11_imageAt_10 : decode cX11_imageAt 10 = .ok (.iconst 1, 1) := by decide +kernel
theorem dX11_imageAt_11 : decode cX11_imageAt 11 = .ok (.if_icmp .ne 10, 3) := by decide +kernel
theorem dX11_imageAt_14 : decode cX11_imageAt 14 = .ok (.aload_n 0, 1) := by decide +kernel
theorem dX11_imageAt_15 : decode cX11_imageAt 15 = .ok (.getfield 50, 3) := by decide +kernel
theorem dX11_imageAt_18 : decode cX11_imageAt 18 = .ok (.goto 4, 3) := by decide +kernel
theorem dX11_imageAt_21 : decode cX11_imageAt 21 = .ok (.aconst_null, 1) := by decide +kernel
theorem dX11_imageAt_22 : decode cX11_imageAt 22 = .ok (.areturn, 1) := by decide +kernel
theorem dX12_init_0 : decode cX12_init 0 = .ok (.aload_n 0, 1) := by decide +kernel
theorem dX12_init_1 : decode cX12_init 1 = .ok (.invokespecial 1, 3) := by decide +kernel
theorem dX12_init_4 : decode cX12_init 4 = .ok (.aload_n 0, 1) := by decide +kernel
theorem dX12_init_5 : decode cX12_init 5 = .ok (.sipush 143, 3) := by decide +kernel
theorem dX12_init_8 : decode cX12_init 8 = .ok (.newarray .int, 2) := by decide +kernel
theorem dX12_init_10 : decode cX12_init 10 = .ok (.putfield 7, 3) := by decide +kernel
theorem dX12_init_13 : decode cX12_init 13 = .ok (.aload_n 0, 1) := by decide +kernel
theorem dX12_init_14 : decode cX12_init 14 = .ok (.sipush 143, 3) := by decide +kernel
theorem dX12_init_17 : decode cX12_init 17 = .ok (.newarray .int, 2) := by decide +kernel
theorem dX12_init_19 : decode cX12_init 19 = .ok (.putfield 13, 3) := by decide +kernel
theorem dX12_init_22 : decode cX12_init 22 = .ok (.aload_n 0, 1) := by decide +kernel
theorem dX12_init_23 : decode cX12_init 23 = .ok (.sipush 286, 3) := by decide +kernel
theorem dX12_init_26 : decode cX12_init 26 = .ok (.newarray .int, 2) := by decide +kernel
theorem dX12_init_28 : decode cX12_init 28 = .ok (.putfield 16, 3) := by decide +kernel
theorem dX12_init_31 : decode cX12_init 31 = .ok (.aload_n 0, 1) := by decide +kernel
theorem dX12_init_32 : decode cX12_init 32 = .ok (.sipush 1144, 3) := by decide +kernel
theorem dX12_init_35 : decode cX12_init 35 = .ok (.newarray .int, 2) := by decide +kernel
theorem dX12_init_37 : decode cX12_init 37 = .ok (.putfield 19, 3) := by decide +kernel
theorem dX12_init_40 : decode cX12_init 40 = .ok (.aload_n 0, 1) := by decide +kernel
theorem dX12_init_41 : decode cX12_init 41 = .ok (.iconst 2, 1) := by decide +kernel
theorem dX12_init_42 : decode cX12_init 42 = .ok (.newarray .boolean, 2) := by decide +kernel
theorem dX12_init_44 : decode cX12_init 44 = .ok (.putfield 22, 3) := by decide +kernel
theorem dX12_init_47 : decode cX12_init 47 = .ok (.aload_n 0, 1) := by decide +kernel
theorem dX12_init_48 : decode cX12_init 48 = .ok (.sipush 540, 3) := by decide +kernel
theorem dX12_init_51 : decode cX12_init 51 = .ok (.newarray .byte, 2) := by decide +kernel
theorem dX12_init_53 : decode cX12_init 53 = .ok (.putfield 26, 3) := by decide +kernel
theorem dX12_init_56 : decode cX12_init 56 = .ok (.aload_n 0, 1) := by decide +kernel
theorem dX12_init_57 : decode cX12_init 57 = .ok (.bipush 8, 2) := by decide +kernel
theorem dX12_init_59 : decode cX12_init 59 = .ok (.newarray .byte, 2) := by decide +kernel
theorem dX12_init_61 : decode cX12_init 61 = .ok (.putfield 30, 3) := by decide +kernel
theorem dX12_init_64 : decode cX12_init 64 = .ok (.aload_n 0, 1) := by decide +kernel
theorem dX12_init_65 : decode cX12_init 65 = .ok (.bipush 48, 2) := by decide +kernel
theorem dX12_init_67 : decode cX12_init 67 = .ok (.newarray .byte, 2) := by decide +kernel
theorem dX12_init_69 : decode cX12_init 69 = .ok (.putfield 33, 3) := by decide +kernel
theorem dX12_init_72 : decode cX12_init 72 = .ok (.aload_n 0, 1) := by decide +kernel
theorem dX12_init_73 : decode cX12_init 73 = .ok (.bipush 7, 2) := by decide +kernel
theorem dX12_init_75 : decode cX12_init 75 = .ok (.newarray .int, 2) := by decide +kernel
theorem dX12_init_77 : decode cX12_init 77 = .ok (.putfield 36, 3) := by decide +kernel
theorem dX12_init_80 : decode cX12_init 80 = .ok (.aload_n 0, 1) := by decide +kernel
theorem dX12_init_81 : decode cX12_init 81 = .ok (.ldc 39, 2) := by decide +kernel
theorem dX12_init_83 : decode cX12_init 83 = .ok (.newarray .int, 2) := by decide +kernel
theorem dX12_init_85 : decode cX12_init 85 = .ok (.putfield 40, 3) := by decide +kernel
theorem dX12_init_88 : decode cX12_init 88 = .ok (.aload_n 0, 1) := by decide +kernel
theorem dX12_init_89 : decode cX12_init 89 = .ok (.sipush 16807, 3) := by decide +kernel
theorem dX12_init_92 : decode cX12_init 92 = .ok (.newarray .int, 2) := by decide +kernel
theorem dX12_init_94 : decode cX12_init 94 = .ok (.putfield 43, 3) := by decide +kernel
theorem dX12_init_97 : decode cX12_init 97 = .ok (.aload_n 0, 1) := by decide +kernel
theorem dX12_init_98 : decode cX12_init 98 = .ok (.sipush 4200, 3) := by decide +kernel
theorem dX12_init_101 : decode cX12_init 101 = .ok (.newarray .int, 2) := by decide +kernel
theorem dX12_init_103 : decode cX12_init 103 = .ok (.putfield 46, 3) := by decide +kernel
theorem dX12_init_106 : decode cX12_init 106 = .ok (.aload_n 0, 1) := by decide +kernel
theorem dX12_init_107 : decode cX12_init 107 = .ok (.bipush 20, 2) := by decide +kernel
theorem dX12_init_109 : decode cX12_init 109 = .ok (.newarray .int, 2) := by decide +kernel
theorem dX12_init_111 : decode cX12_init 111 = .ok (.putfield 49, 3) := by decide +kernel
theorem dX12_init_114 : decode cX12_init 114 = .ok (.aload_n 0, 1) := by decide +kernel
theorem dX12_init_115 : decode cX12_init 115 = .ok (.bipush 20, 2) := by decide +kernel
theorem dX12_init_117 : decode cX12_init 117 = .ok (.newarray .int, 2) := by decide +kernel
theorem dX12_init_119 : decode cX12_init 119 = .ok (.putfield 52, 3) := by decide +kernel
theorem dX12_init_122 : decode cX12_init 122 = .ok (.aload_n 0, 1) := by decide +kernel
theorem dX12_init_123 : decode cX12_init 123 = .ok (.getfield 7, 3) := by decide +kernel
theorem dX12_init_126 : decode cX12_init 126 = .ok (.invokestatic 55, 3) := by decide +kernel
theorem dX12_init_129 : decode cX12_init 129 = .ok (.return_, 1) := by decide +kernel
theorem dX12_bare_0 : decode cX12_bare 0 = .ok (.iconst 0, 1) := by decide +kernel
theorem dX12_bare_1 : decode cX12_bare 1 = .ok (.istore_n 1, 1) := by decide +kernel
theorem dX12_bare_2 : decode cX12_bare 2 = .ok (.iload_n 1, 1) := by decide +kernel
theorem dX12_bare_3 : decode cX12_bare 3 = .ok (.sipush 143, 3) := by decide +kernel
theorem dX12_bare_6 : decode cX12_bare 6 = .ok (.if_icmp .ge 13, 3) := by decide +kernel
theorem dX12_bare_9 : decode cX12_bare 9 = .ok (.aload_n 0, 1) := by decide +kernel
theorem dX12_bare_10 : decode cX12_bare 10 = .ok (.iload_n 1, 1) := by decide +kernel
theorem dX12_bare_11 : decode cX12_bare 11 = .ok (.iconst 0, 1) := by decide +kernel
theorem dX12_bare_12 : decode cX12_bare 12 = .ok (.iastore, 1) := by decide +kernel
theorem dX12_bare_13 : decode cX12_bare 13 = .ok (.iinc 1 1, 3) := by decide +kernel
theorem dX12_bare_16 : decode cX12_bare 16 = .ok (.goto (-14), 3) := by decide +kernel
theorem dX12_bare_19 : decode cX12_bare 19 = .ok (.aload_n 0, 1) := by decide +kernel
theorem dX12_bare_20 : decode cX12_bare 20 = .ok (.iconst 0, 1) := by decide +kernel
theorem dX12_bare_21 : decode cX12_bare 21 = .ok (.bipush 100, 2) := by decide +kernel
theorem dX12_bare_23 : decode cX12_bare 23 = .ok (.iastore, 1) := by decide +kernel
theorem dX12_bare_24 : decode cX12_bare 24 = .ok (.aload_n 0, 1) := by decide +kernel
theorem dX12_bare_25 : decode cX12_bare 25 = .ok (.iconst 1, 1) := by decide +kernel
theorem dX12_bare_26 : decode cX12_bare 26 = .ok (.bipush 50, 2) := by decide +kernel
theorem dX12_bare_28 : decode cX12_bare 28 = .ok (.iastore, 1) := by decide +kernel
theorem dX12_bare_29 : decode cX12_bare 29 = .ok (.aload_n 0, 1) := by decide +kernel
theorem dX12_bare_30 : decode cX12_bare 30 = .ok (.iconst 2, 1) := by decide +kernel
theorem dX12_bare_31 : decode cX12_bare 31 = .ok (.bipush 40, 2) := by decide +kernel
theorem dX12_bare_33 : decode cX12_bare 33 = .ok (.iastore, 1) := by decide +kernel
theorem dX12_bare_34 : decode cX12_bare 34 = .ok (.aload_n 0, 1) := by decide +kernel
theorem dX12_bare_35 : decode cX12_bare 35 = .ok (.iconst 3, 1) := by decide +kernel
theorem dX12_bare_36 : decode cX12_bare 36 = .ok (.bipush 60, 2) := by decide +kernel
theorem dX12_bare_38 : decode cX12_bare 38 = .ok (.iastore, 1) := by decide +kernel
theorem dX12_bare_39 : decode cX12_bare 39 = .ok (.return_, 1) := by decide +kernel
theorem dX12_copies_0 : decode cX12_copies 0 = .ok (.iconst 0, 1) := by decide +kernel
theorem dX12_copies_1 : decode cX12_copies 1 = .ok (.istore 4, 2) := by decide +kernel
theorem dX12_copies_3 : decode cX12_copies 3 = .ok (.iload 4, 2) := by decide +kernel
theorem dX12_copies_5 : decode cX12_copies 5 = .ok (.sipush 143, 3) := by decide +kernel
theorem dX12_copies_8 : decode cX12_copies 8 = .ok (.if_icmp .ge 21, 3) := by decide +kernel
theorem dX12_copies_11 : decode cX12_copies 11 = .ok (.aload_n 2, 1) := by decide +kernel
theorem dX12_copies_12 : decode cX12_copies 12 = .ok (.iload_n 3, 1) := by decide +kernel
theorem dX12_copies_13 : decode cX12_copies 13 = .ok (.iload 4, 2) := by decide +kernel
theorem dX12_copies_15 : decode cX12_copies 15 = .ok (.iadd, 1) := by decide +kernel
theorem dX12_copies_16 : decode cX12_copies 16 = .ok (.aload_n 0, 1) := by decide +kernel
theorem dX12_copies_17 : decode cX12_copies 17 = .ok (.iload_n 1, 1) := by decide +kernel
theorem dX12_copies_18 : decode cX12_copies 18 = .ok (.iload 4, 2) := by decide +kernel
theorem dX12_copies_20 : decode cX12_copies 20 = .ok (.iadd, 1) := by decide +kernel
theorem dX12_copies_21 : decode cX12_copies 21 = .ok (.iaload, 1) := by decide +kernel
theorem dX12_copies_22 : decode cX12_copies 22 = .ok (.iastore, 1) := by decide +kernel
theorem dX12_copies_23 : decode cX12_copies 23 = .ok (.iinc 4 1, 3) := by decide +kernel
theorem dX12_copies_26 : decode cX12_copies 26 = .ok (.goto (-23), 3) := by decide +kernel
theorem dX12_copies_29 : decode cX12_copies 29 = .ok (.return_, 1) := by decide +kernel
theorem dX12_feed_0 : decode cX12_feed 0 = .ok (.aload_n 0, 1) := by decide +kernel
theorem dX12_feed_1 : decode cX12_feed 1 = .ok (.getfield 59, 3) := by decide +kernel
theorem dX12_feed_4 : decode cX12_feed 4 = .ok (.bipush 20, 2) := by decide +kernel
theorem dX12_feed_6 : decode cX12_feed 6 = .ok (.iadd, 1) := by decide +kernel
theorem dX12_feed_7 : decode cX12_feed 7 = .ok (.sipush 540, 3) := by decide +kernel
theorem dX12_feed_10 : decode cX12_feed 10 = .ok (.if_icmp .le 5, 3) := by decide +kernel
theorem dX12_feed_13 : decode cX12_feed 13 = .ok (.iconst (-1), 1) := by decide +kernel
theorem dX12_feed_14 : decode cX12_feed 14 = .ok (.ireturn, 1) := by decide +kernel
theorem dX12_feed_15 : decode cX12_feed 15 = .ok (.aload_n 0, 1) := by decide +kernel
theorem dX12_feed_16 : decode cX12_feed 16 = .ok (.iload_n 1, 1) := by decide +kernel
theorem dX12_feed_17 : decode cX12_feed 17 = .ok (.invokevirtual 63, 3) := by decide +kernel
theorem dX12_feed_20 : decode cX12_feed 20 = .ok (.aload_n 0, 1) := by decide +kernel
theorem dX12_feed_21 : decode cX12_feed 21 = .ok (.iload_n 2, 1) := by decide +kernel
theorem dX12_feed_22 : decode cX12_feed 22 = .ok (.invokevirtual 63, 3) := by decide +kernel
theorem dX12_feed_25 : decode cX12_feed 25 = .ok (.aload_n 0, 1) := by decide +kernel
theorem dX12_feed_26 : decode cX12_feed 26 = .ok (.iload_n 3, 1) := by decide +kernel
theorem dX12_feed_27 : decode cX12_feed 27 = .ok (.invokevirtual 63, 3) := by decide +kernel
theorem dX12_feed_30 : decode cX12_feed 30 = .ok (.aload_n 0, 1) := by decide +kernel
theorem dX12_feed_31 : decode cX12_feed 31 = .ok (.iload 4, 2) := by decide +kernel
theorem dX12_feed_33 : decode cX12_feed 33 = .ok (.invokevirtual 63, 3) := by decide +kernel
theorem dX12_feed_36 : decode cX12_feed 36 = .ok (.aload_n 0, 1) := by decide +kernel
theorem dX12_feed_37 : decode cX12_feed 37 = .ok (.iload 5, 2) := by decide +kernel
theorem dX12_feed_39 : decode cX12_feed 39 = .ok (.invokevirtual 63, 3) := by decide +kernel
theorem dX12_feed_42 : decode cX12_feed 42 = .ok (.aload_n 0, 1) := by decide +kernel
theorem dX12_feed_43 : decode cX12_feed 43 = .ok (.getfield 59, 3) := by decide +kernel
theorem dX12_feed_46 : decode cX12_feed 46 = .ok (.ireturn, 1) := by decide +kernel
theorem dX12_four_0 : decode cX12_four 0 = .ok (.bipush 24, 2) := by decide +kernel
theorem dX12_four_2 : decode cX12_four 2 = .ok (.istore_n 2, 1) := by decide +kernel
theorem dX12_four_3 : decode cX12_four 3 = .ok (.iload_n 2, 1) := by decide +kernel
theorem dX12_four_4 : decode cX12_four 4 = .ok (.ifCond .lt 32, 3) := by decide +kernel
theorem dX12_four_7 : decode cX12_four 7 = .ok (.aload_n 0, 1) := by decide +kernel
theorem dX12_four_8 : decode cX12_four 8 = .ok (.getfield 26, 3) := by decide +kernel
theorem dX12_four_11 : decode cX12_four 11 = .ok (.aload_n 0, 1) := by decide +kernel
theorem dX12_four_12 : decode cX12_four 12 = .ok (.getfield 59, 3) := by decide +kernel
theorem dX12_four_15 : decode cX12_four 15 = .ok (.iload_n 1, 1) := by decide +kernel
theorem dX12_four_16 : decode cX12_four 16 = .ok (.iload_n 2, 1) := by decide +kernel
theorem dX12_four_17 : decode cX12_four 17 = .ok (.ishr, 1) := by decide +kernel
theorem dX12_four_18 : decode cX12_four 18 = .ok (.i2b, 1) := by decide +kernel
theorem dX12_four_19 : decode cX12_four 19 = .ok (.bastore, 1) := by decide +kernel
theorem dX12_four_20 : decode cX12_four 20 = .ok (.aload_n 0, 1) := by decide +kernel
theorem dX12_four_21 : decode cX12_four 21 = .ok (.dup, 1) := by decide +kernel
theorem dX12_four_22 : decode cX12_four 22 = .ok (.getfield 59, 3) := by decide +kernel
theorem dX12_four_25 : decode cX12_four 25 = .ok (.iconst 1, 1) := by decide +kernel
theorem dX12_four_26 : decode cX12_four 26 = .ok (.iadd, 1) := by decide +kernel
theorem dX12_four_27 : decode cX12_four 27 = .ok (.putfield 59, 3) := by decide +kernel
theorem dX12_four_30 : decode cX12_four 30 = .ok (.iinc 2 (-8), 3) := by decide +kernel
theorem dX12_four_33 : decode cX12_four 33 = .ok (.goto (-30), 3) := by decide +kernel
theorem dX12_four_36 : decode cX12_four 36 = .ok (.return_, 1) := by decide +kernel
theorem dX12_end_0 : decode cX12_end 0 = .ok (.iload_n 1, 1) := by decide +kernel
theorem dX12_end_1 : decode cX12_end 1 = .ok (.ifCond .lt 11, 3) := by decide +kernel
theorem dX12_end_4 : decode cX12_end 4 = .ok (.iload_n 1, 1) := by decide +kernel
theorem dX12_end_5 : decode cX12_end 5 = .ok (.aload_n 0, 1) := by decide +kernel
theorem dX12_end_6 : decode cX12_end 6 = .ok (.getfield 59, 3) := by decide +kernel
theorem dX12_end_9 : decode cX12_end 9 = .ok (.if_icmp .le 5, 3) := by decide +kernel
theorem dX12_end_12 : decode cX12_end 12 = .ok (.iconst 0, 1) := by decide +kernel
theorem dX12_end_13 : decode cX12_end 13 = .ok (.ireturn, 1) := by decide +kernel
theorem dX12_end_14 : decode cX12_end 14 = .ok (.aload_n 0, 1) := by decide +kernel
theorem dX12_end_15 : decode cX12_end 15 = .ok (.iload_n 1, 1) := by decide +kernel
theorem dX12_end_16 : decode cX12_end 16 = .ok (.putfield 59, 3) := by decide +kernel
theorem dX12_end_19 : decode cX12_end 19 = .ok (.iconst 1, 1) := by decide +kernel
theorem dX12_end_20 : decode cX12_end 20 = .ok (.ireturn, 1) := by decide +kernel
theorem dX12_isIn_0 : decode cX12_isIn 0 = .ok (.iload_n 0, 1) := by decide +kernel
theorem dX12_isIn_1 : decode cX12_isIn 1 = .ok (.iload_n 1, 1) := by decide +kernel
theorem dX12_isIn_2 : decode cX12_isIn 2 = .ok (.if_icmp .lt 12, 3) := by decide +kernel
theorem dX12_isIn_5 : decode cX12_isIn 5 = .ok (.iload_n 0, 1) := by decide +kernel
theorem dX12_isIn_6 : decode cX12_isIn 6 = .ok (.iload_n 2, 1) := by decide +kernel
theorem dX12_isIn_7 : decode cX12_isIn 7 = .ok (.if_icmp .gt 7, 3) := by decide +kernel
theorem dX12_isIn_10 : decode cX12_isIn 10 = .ok (.iconst 1, 1) := by decide +kernel
theorem dX12_isIn_11 : decode cX12_isIn 11 = .ok (.goto 4, 3) := by decide +kernel
theorem dX12_isIn_14 : decode cX12_isIn 14 = .ok (.iconst 0, 1) := by decide +kernel
theorem dX12_isIn_15 : decode cX12_isIn 15 = .ok (.ireturn, 1) := by decide +kernel
theorem dX12_bitOf_0 : decode cX12_bitOf 0 = .ok (.iload_n 0, 1) := by decide +kernel
theorem dX12_bitOf_1 : decode cX12_bitOf 1 = .ok (.iload_n 1, 1) := by decide +kernel
theorem dX12_bitOf_2 : decode cX12_bitOf 2 = .ok (.ishr, 1) := by decide +kernel
theorem dX12_bitOf_3 : decode cX12_bitOf 3 = .ok (.iconst 1, 1) := by decide +kernel
theorem dX12_bitOf_4 : decode cX12_bitOf 4 = .ok (.iand, 1) := by decide +kernel
theorem dX12_bitOf_5 : decode cX12_bitOf 5 = .ok (.iconst 1, 1) := by decide +kernel
theorem dX12_bitOf_6 : decode cX12_bitOf 6 = .ok (.if_icmp .ne 7, 3) := by decide +kernel
theorem dX12_bitOf_9 : decode cX12_bitOf 9 = .ok (.iconst 1, 1) := by decide +kernel
theorem dX12_bitOf_10 : decode cX12_bitOf 10 = .ok (.goto 4, 3) := by decide +kernel
theorem dX12_bitOf_13 : decode cX12_bitOf 13 = .ok (.iconst 0, 1) := by decide +kernel
theorem dX12_bitOf_14 : decode cX12_bitOf 14 = .ok (.ireturn, 1) := by decide +kernel
theorem dX12_peek_0 : decode cX12_peek 0 = .ok (.aload_n 0, 1) := by decide +kernel
theorem dX12_peek_1 : decode cX12_peek 1 = .ok (.getfield 67, 3) := by decide +kernel
theorem dX12_peek_4 : decode cX12_peek 4 = .ok (.aload_n 0, 1) := by decide +kernel
theorem dX12_peek_5 : decode cX12_peek 5 = .ok (.getfield 70, 3) := by decide +kernel
theorem dX12_peek_8 : decode cX12_peek 8 = .ok (.if_icmp .ge 19, 3) := by decide +kernel
theorem dX12_peek_11 : decode cX12_peek 11 = .ok (.aload_n 0, 1) := by decide +kernel
theorem dX12_peek_12 : decode cX12_peek 12 = .ok (.getfield 26, 3) := by decide +kernel
theorem dX12_peek_15 : decode cX12_peek 15 = .ok (.aload_n 0, 1) := by decide +kernel
theorem dX12_peek_16 : decode cX12_peek 16 = .ok (.getfield 67, 3) := by decide +kernel
theorem dX12_peek_19 : decode cX12_peek 19 = .ok (.baload, 1) := by decide +kernel
theorem dX12_peek_20 : decode cX12_peek 20 = .ok (.sipush 255, 3) := by decide +kernel
theorem dX12_peek_23 : decode cX12_peek 23 = .ok (.iand, 1) := by decide +kernel
theorem dX12_peek_24 : decode cX12_peek 24 = .ok (.goto 4, 3) := by decide +kernel
theorem dX12_peek_27 : decode cX12_peek 27 = .ok (.iconst (-1), 1) := by decide +kernel
theorem dX12_peek_28 : decode cX12_peek 28 = .ok (.ireturn, 1) := by decide +kernel
theorem dX12_isSmall_0 : decode cX12_isSmall 0 = .ok (.iload_n 0, 1) := by decide +kernel
theorem dX12_isSmall_1 : decode cX12_isSmall 1 = .ok (.bipush 97, 2) := by decide +kernel
theorem dX12_isSmall_3 : decode cX12_isSmall 3 = .ok (.bipush 122, 2) := by decide +kernel
theorem dX12_isSmall_5 : decode cX12_isSmall 5 = .ok (.invokestatic 73, 3) := by decide +kernel
theorem dX12_isSmall_8 : decode cX12_isSmall 8 = .ok (.ireturn, 1) := by decide +kernel
theorem dX12_isDigit_0 : decode cX12_isDigit 0 = .ok (.iload_n 0, 1) := by decide +kernel
theorem dX12_isDigit_1 : decode cX12_isDigit 1 = .ok (.bipush 48, 2) := by decide +kernel
theorem dX12_isDigit_3 : decode cX12_isDigit 3 = .ok (.bipush 57, 2) := by decide +kernel
theorem dX12_isDigit_5 : decode cX12_isDigit 5 = .ok (.invokestatic 73, 3) := by decide +kernel
theorem dX12_isDigit_8 : decode cX12_isDigit 8 = .ok (.ireturn, 1) := by decide +kernel
theorem dX12_bad_0 : decode cX12_bad 0 = .ok (.aload_n 0, 1) := by decide +kernel
theorem dX12_bad_1 : decode cX12_bad 1 = .ok (.iload_n 1, 1) := by decide +kernel
theorem dX12_bad_2 : decode cX12_bad 2 = .ok (.putfield 77, 3) := by decide +kernel
theorem dX12_bad_5 : decode cX12_bad 5 = .ok (.aload_n 0, 1) := by decide +kernel
theorem dX12_bad_6 : decode cX12_bad 6 = .ok (.iload_n 2, 1) := by decide +kernel
theorem dX12_bad_7 : decode cX12_bad 7 = .ok (.putfield 80, 3) := by decide +kernel
theorem dX12_bad_10 : decode cX12_bad 10 = .ok (.iconst 0, 1) := by decide +kernel
theorem dX12_bad_11 : decode cX12_bad 11 = .ok (.ireturn, 1) := by decide +kernel
theorem dX12_badHere_0 : decode cX12_badHere 0 = .ok (.aload_n 0, 1) := by decide +kernel
theorem dX12_badHere_1 : decode cX12_badHere 1 = .ok (.iload_n 1, 1) := by decide +kernel
theorem dX12_badHere_2 : decode cX12_badHere 2 = .ok (.aload_n 0, 1) := by decide +kernel
theorem dX12_badHere_3 : decode cX12_badHere 3 = .ok (.getfield 83, 3) := by decide +kernel
theorem dX12_badHere_6 : decode cX12_badHere 6 = .ok (.invokevirtual 86, 3) := by decide +kernel
theorem dX12_badHere_9 : decode cX12_badHere 9 = .ok (.ireturn, 1) := by decide +kernel
theorem dX12_next_0 : decode cX12_next 0 = .ok (.aload_n 0, 1) := by decide +kernel
theorem dX12_next_1 : decode cX12_next 1 = .ok (.invokevirtual 90, 3) := by decide +kernel
theorem dX12_next_4 : decode cX12_next 4 = .ok (.bipush 32, 2) := by decide +kernel
theorem dX12_next_6 : decode cX12_next 6 = .ok (.if_icmp .ne 16, 3) := by decide +kernel
theorem dX12_next_9 : decode cX12_next 9 = .ok (.aload_n 0, 1) := by decide +kernel
theorem dX12_next_10 : decode cX12_next 10 = .ok (.dup, 1) := by decide +kernel
theorem dX12_next_11 : decode cX12_next 11 = .ok (.getfield 67, 3) := by decide +kernel
theorem dX12_next_14 : decode cX12_next 14 = .ok (.iconst 1, 1) := by decide +kernel
theorem dX12_next_15 : decode cX12_next 15 = .ok (.iadd, 1) := by decide +kernel
theorem dX12_next_16 : decode cX12_next 16 = .ok (.putfield 67, 3) := by decide +kernel
theorem dX12_next_19 : decode cX12_next 19 = .ok (.goto (-19), 3) := by decide +kernel
theorem dX12_next_22 : decode cX12_next 22 = .ok (.aload_n 0, 1) := by decide +kernel
theorem dX12_next_23 : decode cX12_next 23 = .ok (.aload_n 0, 1) := by decide +kernel
theorem dX12_next_24 : decode cX12_next 24 = .ok (.getfield 67, 3) := by decide +kernel
theorem dX12_next_27 : decode cX12_next 27 = .ok (.putfield 83, 3) := by decide +kernel
theorem dX12_next_30 : decode cX12_next 30 = .ok (.aload_n 0, 1) := by decide +kernel
theorem dX12_next_31 : decode cX12_next 31 = .ok (.invokevirtual 90, 3) := by decide +kernel
theorem dX12_next_34 : decode cX12_next 34 = .ok (.istore_n 1, 1) := by decide +kernel
theorem dX12_next_35 : decode cX12_next 35 = .ok (.iload_n 1, 1) := by decide +kernel
theorem dX12_next_36 : decode cX12_next 36 = .ok (.iconst (-1), 1) := by decide +kernel
theorem dX12_next_37 : decode cX12_next 37 = .ok (.if_icmp .ne 9, 3) := by decide +kernel
theorem dX12_next_40 : decode cX12_next 40 = .ok (.aload_n 0, 1) := by decide +kernel
theorem dX12_next_41 : decode cX12_next 41 = .ok (.iconst 0, 1) := by decide +kernel
theorem dX12_next_42 : decode cX12_next 42 = .ok (.putfield 94, 3) := by decide +kernel
theorem dX12_next_45 : decode cX12_next 45 = .ok (.return_, 1) := by decide +kernel
theorem dX12_next_46 : decode cX12_next 46 = .ok (.iload_n 1, 1) := by decide +kernel
theorem dX12_next_47 : decode cX12_next 47 = .ok (.invokestatic 97, 3) := by decide +kernel
theorem dX12_next_50 : decode cX12_next 50 = .ok (.ifCond .ne 36, 3) := by decide +kernel
theorem dX12_next_53 : decode cX12_next 53 = .ok (.iload_n 1, 1) := by decide +kernel
theorem dX12_next_54 : decode cX12_next 54 = .ok (.invokestatic 101, 3) := by decide +kernel
theorem dX12_next_57 : decode cX12_next 57 = .ok (.ifCond .ne 29, 3) := by decide +kernel
theorem dX12_next_60 : decode cX12_next 60 = .ok (.aload_n 0, 1) := by decide +kernel
theorem dX12_next_61 : decode cX12_next 61 = .ok (.dup, 1) := by decide +kernel
theorem dX12_next_62 : decode cX12_next 62 = .ok (.getfield 67, 3) := by decide +kernel
theorem dX12_next_65 : decode cX12_next 65 = .ok (.iconst 1, 1) := by decide +kernel
theorem dX12_next_66 : decode cX12_next 66 = .ok (.iadd, 1) := by decide +kernel
theorem dX12_next_67 : decode cX12_next 67 = .ok (.putfield 67, 3) := by decide +kernel
theorem dX12_next_70 : decode cX12_next 70 = .ok (.aload_n 0, 1) := by decide +kernel
theorem dX12_next_71 : decode cX12_next 71 = .ok (.iload_n 1, 1) := by decide +kernel
theorem dX12_next_72 : decode cX12_next 72 = .ok (.bipush 59, 2) := by decide +kernel
theorem dX12_next_74 : decode cX12_next 74 = .ok (.if_icmp .ne 7, 3) := by decide +kernel
theorem dX12_next_77 : decode cX12_next 77 = .ok (.iconst 3, 1) := by decide +kernel
theorem dX12_next_78 : decode cX12_next 78 = .ok (.goto 4, 3) := by decide +kernel
theorem dX12_next_81 : decode cX12_next 81 = .ok (.iconst 4, 1) := by decide +kernel
theorem dX12_next_82 : decode cX12_next 82 = .ok (.putfield 94, 3) := by decide +kernel
theorem dX12_next_85 : decode cX12_next 85 = .ok (.return_, 1) := by decide +kernel
theorem dX12_next_86 : decode cX12_next 86 = .ok (.iconst 0, 1) := by decide +kernel
theorem dX12_next_87 : decode cX12_next 87 = .ok (.istore_n 2, 1) := by decide +kernel
theorem dX12_next_88 : decode cX12_next 88 = .ok (.aload_n 0, 1) := by decide +kernel
theorem dX12_next_89 : decode cX12_next 89 = .ok (.iconst 0, 1) := by decide +kernel
theorem dX12_next_90 : decode cX12_next 90 = .ok (.putfield 104, 3) := by decide +kernel
theorem dX12_next_93 : decode cX12_next 93 = .ok (.aload_n 0, 1) := by decide +kernel
theorem dX12_next_94 : decode cX12_next 94 = .ok (.invokevirtual 90, 3) := by decide +kernel
theorem dX12_next_97 : decode cX12_next 97 = .ok (.invokestatic 97, 3) := by decide +kernel
theorem dX12_next_100 : decode cX12_next 100 = .ok (.ifCond .ne 13, 3) := by decide +kernel
theorem dX12_next_103 : decode cX12_next 103 = .ok (.aload_n 0, 1) := by decide +kernel
theorem dX12_next_104 : decode cX12_next 104 = .ok (.invokevirtual 90, 3) := by decide +kernel
theorem dX12_next_107 : decode cX12_next 107 = .ok (.invokestatic 101, 3) := by decide +kernel
theorem dX12_next_110 : decode cX12_next 110 = .ok (.ifCond .eq 92, 3) := by decide +kernel
theorem dX12_next_113 : decode cX12_next 113 = .ok (.aload_n 0, 1) := by decide +kernel
theorem dX12_next_114 : decode cX12_next 114 = .ok (.getfield 67, 3) := by decide +kernel
theorem dX12_next_117 : decode cX12_next 117 = .ok (.aload_n 0, 1) := by decide +kernel
theorem dX12_next_118 : decode cX12_next 118 = .ok (.getfield 83, 3) := by decide +kernel
theorem dX12_next_121 : decode cX12_next 121 = .ok (.isub, 1) := by decide +kernel
theorem dX12_next_122 : decode cX12_next 122 = .ok (.istore_n 3, 1) := by decide +kernel
theorem dX12_next_123 : decode cX12_next 123 = .ok (.iload_n 3, 1) := by decide +kernel
theorem dX12_next_124 : decode cX12_next 124 = .ok (.bipush 8, 2) := by decide +kernel
theorem dX12_next_126 : decode cX12_next 126 = .ok (.if_icmp .ge 14, 3) := by decide +kernel
theorem dX12_next_129 : decode cX12_next 129 = .ok (.aload_n 0, 1) := by decide +kernel
theorem dX12_next_130 : decode cX12_next 130 = .ok (.getfield 30, 3) := by decide +kernel
theorem dX12_next_133 : decode cX12_next 133 = .ok (.iload_n 3, 1) := by decide +kernel
theorem dX12_next_134 : decode cX12_next 134 = .ok (.aload_n 0, 1) := by decide +kernel
theorem dX12_next_135 : decode cX12_next 135 = .ok (.invokevirtual 90, 3) := by decide +kernel
theorem dX12_next_138 : decode cX12_next 138 = .ok (.i2b, 1) := by decide +kernel
theorem dX12_next_139 : decode cX12_next 139 = .ok (.bastore, 1) := by decide +kernel
theorem dX12_next_140 : decode cX12_next 140 = .ok (.iload_n 2, 1) := by decide +kernel
theorem dX12_next_141 : decode cX12_next 141 = .ok (.aload_n 0, 1) := by decide +kernel
theorem dX12_next_142 : decode cX12_next 142 = .ok (.invokevirtual 90, 3) := by decide +kernel
theorem dX12_next_145 : decode cX12_next 145 = .ok (.invokestatic 97, 3) := by decide +kernel
theorem dX12_next_148 : decode cX12_next 148 = .ok (.ifCond .eq 7, 3) := by decide +kernel
theorem dX12_next_151 : decode cX12_next 151 = .ok (.iconst 1, 1) := by decide +kernel
theorem dX12_next_152 : decode cX12_next 152 = .ok (.goto 4, 3) := by decide +kernel
theorem dX12_next_155 : decode cX12_next 155 = .ok (.iconst 0, 1) := by decide +kernel
theorem dX12_next_156 : decode cX12_next 156 = .ok (.iadd, 1) := by decide +kernel
theorem dX12_next_157 : decode cX12_next 157 = .ok (.istore_n 2, 1) := by decide +kernel
theorem dX12_next_158 : decode cX12_next 158 = .ok (.aload_n 0, 1) := by decide +kernel
theorem dX12_next_159 : decode cX12_next 159 = .ok (.iload_n 3, 1) := by decide +kernel
theorem dX12_next_160 : decode cX12_next 160 = .ok (.iconst 3, 1) := by decide +kernel
theorem dX12_next_161 : decode cX12_next 161 = .ok (.if_icmp .ge 21, 3) := by decide +kernel
theorem dX12_next_164 : decode cX12_next 164 = .ok (.bipush 10, 2) := by decide +kernel
theorem dX12_next_166 : decode cX12_next 166 = .ok (.aload_n 0, 1) := by decide +kernel
theorem dX12_next_167 : decode cX12_next 167 = .ok (.getfield 104, 3) := by decide +kernel
theorem dX12_next_170 : decode cX12_next 170 = .ok (.imul, 1) := by decide +kernel
theorem dX12_next_171 : decode cX12_next 171 = .ok (.aload_n 0, 1) := by decide +kernel
theorem dX12_next_172 : decode cX12_next 172 = .ok (.invokevirtual 90, 3) := by decide +kernel
theorem dX12_next_175 : decode cX12_next 175 = .ok (.iadd, 1) := by decide +kernel
theorem dX12_next_176 : decode cX12_next 176 = .ok (.bipush 48, 2) := by decide +kernel
theorem dX12_next_178 : decode cX12_next 178 = .ok (.isub, 1) := by decide +kernel
theorem dX12_next_179 : decode cX12_next 179 = .ok (.goto 7, 3) := by decide +kernel
theorem dX12_next_182 : decode cX12_next 182 = .ok (.aload_n 0, 1) := by decide +kernel
theorem dX12_next_183 : decode cX12_next 183 = .ok (.getfield 104, 3) := by decide +kernel
theorem dX12_next_186 : decode cX12_next 186 = .ok (.putfield 104, 3) := by decide +kernel
theorem dX12_next_189 : decode cX12_next 189 = .ok (.aload_n 0, 1) := by decide +kernel
theorem dX12_next_190 : decode cX12_next 190 = .ok (.dup, 1) := by decide +kernel
theorem dX12_next_191 : decode cX12_next 191 = .ok (.getfield 67, 3) := by decide +kernel
theorem dX12_next_194 : decode cX12_next 194 = .ok (.iconst 1, 1) := by decide +kernel
theorem dX12_next_195 : decode cX12_next 195 = .ok (.iadd, 1) := by decide +kernel
theorem dX12_next_196 : decode cX12_next 196 = .ok (.putfield 67, 3) := by decide +kernel
theorem dX12_next_199 : decode cX12_next 199 = .ok (.goto (-106), 3) := by decide +kernel
theorem dX12_next_202 : decode cX12_next 202 = .ok (.aload_n 0, 1) := by decide +kernel
theorem dX12_next_203 : decode cX12_next 203 = .ok (.aload_n 0, 1) := by decide +kernel
theorem dX12_next_204 : decode cX12_next 204 = .ok (.getfield 67, 3) := by decide +kernel
theorem dX12_next_207 : decode cX12_next 207 = .ok (.aload_n 0, 1) := by decide +kernel
theorem dX12_next_208 : decode cX12_next 208 = .ok (.getfield 83, 3) := by decide +kernel
theorem dX12_next_211 : decode cX12_next 211 = .ok (.isub, 1) := by decide +kernel
theorem dX12_next_212 : decode cX12_next 212 = .ok (.putfield 107, 3) := by decide +kernel
theorem dX12_next_215 : decode cX12_next 215 = .ok (.aload_n 0, 1) := by decide +kernel
theorem dX12_next_216 : decode cX12_next 216 = .ok (.iload_n 2, 1) := by decide +kernel
theorem dX12_next_217 : decode cX12_next 217 = .ok (.aload_n 0, 1) := by decide +kernel
theorem dX12_next_218 : decode cX12_next 218 = .ok (.getfield 107, 3) := by decide +kernel
theorem dX12_next_221 : decode cX12_next 221 = .ok (.if_icmp .ne 16, 3) := by decide +kernel
theorem dX12_next_224 : decode cX12_next 224 = .ok (.aload_n 0, 1) := by decide +kernel
theorem dX12_next_225 : decode cX12_next 225 = .ok (.getfield 107, 3) := by decide +kernel
theorem dX12_next_228 : decode cX12_next 228 = .ok (.bipush 9, 2) := by decide +kernel
theorem dX12_next_230 : decode cX12_next 230 = .ok (.if_icmp .ge 7, 3) := by decide +kernel
theorem dX12_next_233 : decode cX12_next 233 = .ok (.iconst 1, 1) := by decide +kernel
theorem dX12_next_234 : decode cX12_next 234 = .ok (.goto 20, 3) := by decide +kernel
theorem dX12_next_237 : decode cX12_next 237 = .ok (.iload_n 2, 1) := by decide +kernel
theorem dX12_next_238 : decode cX12_next 238 = .ok (.ifCond .ne 15, 3) := by decide +kernel
theorem dX12_next_241 : decode cX12_next 241 = .ok (.aload_n 0, 1) := by decide +kernel
theorem dX12_next_242 : decode cX12_next 242 = .ok (.getfield 107, 3) := by decide +kernel
theorem dX12_next_245 : decode cX12_next 245 = .ok (.iconst 4, 1) := by decide +kernel
theorem dX12_next_246 : decode cX12_next 246 = .ok (.if_icmp .ge 7, 3) := by decide +kernel
theorem dX12_next_249 : decode cX12_next 249 = .ok (.iconst 2, 1) := by decide +kernel
theorem dX12_next_250 : decode cX12_next 250 = .ok (.goto 4, 3) := by decide +kernel
theorem dX12_next_253 : decode cX12_next 253 = .ok (.iconst 4, 1) := by decide +kernel
theorem dX12_next_254 : decode cX12_next 254 = .ok (.putfield 94, 3) := by decide +kernel
theorem dX12_next_257 : decode cX12_next 257 = .ok (.return_, 1) := by decide +kernel
theorem dX12_known_0 : decode cX12_known 0 = .ok (.iconst 0, 1) := by decide +kernel
theorem dX12_known_1 : decode cX12_known 1 = .ok (.istore_n 1, 1) := by decide +kernel
theorem dX12_known_2 : decode cX12_known 2 = .ok (.iload_n 1, 1) := by decide +kernel
theorem dX12_known_3 : decode cX12_known 3 = .ok (.bipush 13, 2) := by decide +kernel
theorem dX12_known_5 : decode cX12_known 5 = .ok (.if_icmp .ge 93, 3) := by decide +kernel
theorem dX12_known_8 : decode cX12_known 8 = .ok (.aload_n 0, 1) := by decide +kernel
theorem dX12_known_9 : decode cX12_known 9 = .ok (.getfield 94, 3) := by decide +kernel
theorem dX12_known_12 : decode cX12_known 12 = .ok (.iconst 1, 1) := by decide +kernel
theorem dX12_known_13 : decode cX12_known 13 = .ok (.if_icmp .ne 16, 3) := by decide +kernel
theorem dX12_known_16 : decode cX12_known 16 = .ok (.aload_n 0, 1) := by decide +kernel
theorem dX12_known_17 : decode cX12_known 17 = .ok (.getfield 107, 3) := by decide +kernel
theorem dX12_known_20 : decode cX12_known 20 = .ok (.bipush 7, 2) := by decide +kernel
theorem dX12_known_22 : decode cX12_known 22 = .ok (.if_icmp .ge 7, 3) := by decide +kernel
theorem dX12_known_25 : decode cX12_known 25 = .ok (.iconst 1, 1) := by decide +kernel
theorem dX12_known_26 : decode cX12_known 26 = .ok (.goto 4, 3) := by decide +kernel
theorem dX12_known_29 : decode cX12_known 29 = .ok (.iconst 0, 1) := by decide +kernel
theorem dX12_known_30 : decode cX12_known 30 = .ok (.istore_n 2, 1) := by decide +kernel
theorem dX12_known_31 : decode cX12_known 31 = .ok (.iconst 0, 1) := by decide +kernel
theorem dX12_known_32 : decode cX12_known 32 = .ok (.istore_n 3, 1) := by decide +kernel
theorem dX12_known_33 : decode cX12_known 33 = .ok (.iload_n 3, 1) := by decide +kernel
theorem dX12_known_34 : decode cX12_known 34 = .ok (.bipush 6, 2) := by decide +kernel
theorem dX12_known_36 : decode cX12_known 36 = .ok (.if_icmp .ge 50, 3) := by decide +kernel
theorem dX12_known_39 : decode cX12_known 39 = .ok (.iload_n 2, 1) := by decide +kernel
theorem dX12_known_40 : decode cX12_known 40 = .ok (.ifCond .eq 46, 3) := by decide +kernel
theorem dX12_known_43 : decode cX12_known 43 = .ok (.getstatic 110, 3) := by decide +kernel
theorem dX12_known_46 : decode cX12_known 46 = .ok (.bipush 6, 2) := by decide +kernel
theorem dX12_known_48 : decode cX12_known 48 = .ok (.iload_n 1, 1) := by decide +kernel
theorem dX12_known_49 : decode cX12_known 49 = .ok (.imul, 1) := by decide +kernel
theorem dX12_known_50 : decode cX12_known 50 = .ok (.iload_n 3, 1) := by decide +kernel
theorem dX12_known_51 : decode cX12_known 51 = .ok (.iadd, 1) := by decide +kernel
theorem dX12_known_52 : decode cX12_known 52 = .ok (.baload, 1) := by decide +kernel
theorem dX12_known_53 : decode cX12_known 53 = .ok (.iload_n 3, 1) := by decide +kernel
theorem dX12_known_54 : decode cX12_known 54 = .ok (.aload_n 0, 1) := by decide +kernel
theorem dX12_known_55 : decode cX12_known 55 = .ok (.getfield 107, 3) := by decide +kernel
theorem dX12_known_58 : decode cX12_known 58 = .ok (.if_icmp .ge 12, 3) := by decide +kernel
theorem dX12_known_61 : decode cX12_known 61 = .ok (.aload_n 0, 1) := by decide +kernel
theorem dX12_known_62 : decode cX12_known 62 = .ok (.getfield 30, 3) := by decide +kernel
theorem dX12_known_65 : decode cX12_known 65 = .ok (.iload_n 3, 1) := by decide +kernel
theorem dX12_known_66 : decode cX12_known 66 = .ok (.baload, 1) := by decide +kernel
theorem dX12_known_67 : decode cX12_known 67 = .ok (.goto 4, 3) := by decide +kernel
theorem dX12_known_70 : decode cX12_known 70 = .ok (.iconst 0, 1) := by decide +kernel
theorem dX12_known_71 : decode cX12_known 71 = .ok (.if_icmp .ne 7, 3) := by decide +kernel
theorem dX12_known_74 : decode cX12_known 74 = .ok (.iconst 1, 1) := by decide +kernel
theorem dX12_known_75 : decode cX12_known 75 = .ok (.goto 4, 3) := by decide +kernel
theorem dX12_known_78 : decode cX12_known 78 = .ok (.iconst 0, 1) := by decide +kernel
theorem dX12_known_79 : decode cX12_known 79 = .ok (.istore_n 2, 1) := by decide +kernel
theorem dX12_known_80 : decode cX12_known 80 = .ok (.iinc 3 1, 3) := by decide +kernel
theorem dX12_known_83 : decode cX12_known 83 = .ok (.goto (-50), 3) := by decide +kernel
theorem dX12_known_86 : decode cX12_known 86 = .ok (.iload_n 2, 1) := by decide +kernel
theorem dX12_known_87 : decode cX12_known 87 = .ok (.ifCond .eq 5, 3) := by decide +kernel
theorem dX12_known_90 : decode cX12_known 90 = .ok (.iload_n 1, 1) := by decide +kernel
theorem dX12_known_91 : decode cX12_known 91 = .ok (.ireturn, 1) := by decide +kernel
theorem dX12_known_92 : decode cX12_known 92 = .ok (.iinc 1 1, 3) := by decide +kernel
theorem dX12_known_95 : decode cX12_known 95 = .ok (.goto (-93), 3) := by decide +kernel
theorem dX12_known_98 : decode cX12_known 98 = .ok (.iconst (-1), 1) := by decide +kernel
theorem dX12_known_99 : decode cX12_known 99 = .ok (.ireturn, 1) := by decide +kernel
theorem dX12_isName_0 : decode cX12_isName 0 = .ok (.aload_n 0, 1) := by decide +kernel
theorem dX12_isName_1 : decode cX12_isName 1 = .ok (.getfield 94, 3) := by decide +kernel
theorem dX12_isName_4 : decode cX12_isName 4 = .ok (.iconst 1, 1) := by decide +kernel
theorem dX12_isName_5 : decode cX12_isName 5 = .ok (.if_icmp .ne 14, 3) := by decide +kernel
theorem dX12_isName_8 : decode cX12_isName 8 = .ok (.aload_n 0, 1) := by decide +kernel
theorem dX12_isName_9 : decode cX12_isName 9 = .ok (.invokevirtual 113, 3) := by decide +kernel
theorem dX12_isName_12 : decode cX12_isName 12 = .ok (.ifCond .ge 7, 3) := by decide +kernel
theorem dX12_isName_15 : decode cX12_isName 15 = .ok (.iconst 1, 1) := by decide +kernel
theorem dX12_isName_16 : decode cX12_isName 16 = .ok (.goto 4, 3) := by decide +kernel
theorem dX12_isName_19 : decode cX12_isName 19 = .ok (.iconst 0, 1) := by decide +kernel
theorem dX12_isName_20 : decode cX12_isName 20 = .ok (.ireturn, 1) := by decide +kernel
theorem dX12_number_0 : decode cX12_number 0 = .ok (.aload_n 0, 1) := by decide +kernel
theorem dX12_number_1 : decode cX12_number 1 = .ok (.getfield 94, 3) := by decide +kernel
theorem dX12_number_4 : decode cX12_number 4 = .ok (.iconst 2, 1) := by decide +kernel
theorem dX12_number_5 : decode cX12_number 5 = .ok (.if_icmp .eq 9, 3) := by decide +kernel
theorem dX12_number_8 : decode cX12_number 8 = .ok (.aload_n 0, 1) := by decide +kernel
theorem dX12_number_9 : decode cX12_number 9 = .ok (.iconst 1, 1) := by decide +kernel
theorem dX12_number_10 : decode cX12_number 10 = .ok (.invokevirtual 116, 3) := by decide +kernel
theorem dX12_number_13 : decode cX12_number 13 = .ok (.ireturn, 1) := by decide +kernel
theorem dX12_number_14 : decode cX12_number 14 = .ok (.aload_n 0, 1) := by decide +kernel
theorem dX12_number_15 : decode cX12_number 15 = .ok (.getfield 104, 3) := by decide +kernel
theorem dX12_number_18 : decode cX12_number 18 = .ok (.iload_n 1, 1) := by decide +kernel
theorem dX12_number_19 : decode cX12_number 19 = .ok (.iload_n 2, 1) := by decide +kernel
theorem dX12_number_20 : decode cX12_number 20 = .ok (.invokestatic 73, 3) := by decide +kernel
theorem dX12_number_23 : decode cX12_number 23 = .ok (.ifCond .ne 11, 3) := by decide +kernel
theorem dX12_number_26 : decode cX12_number 26 = .ok (.aload_n 0, 1) := by decide +kernel
theorem dX12_number_27 : decode cX12_number 27 = .ok (.iconst 2, 1) := by decide +kernel
theorem dX12_number_28 : decode cX12_number 28 = .ok (.invokevirtual 116, 3) := by decide +kernel
theorem dX12_number_31 : decode cX12_number 31 = .ok (.ifCond .eq 7, 3) := by decide +kernel
theorem dX12_number_34 : decode cX12_number 34 = .ok (.iconst 1, 1) := by decide +kernel
theorem dX12_number_35 : decode cX12_number 35 = .ok (.goto 4, 3) := by decide +kernel
theorem dX12_number_38 : decode cX12_number 38 = .ok (.iconst 0, 1) := by decide +kernel
theorem dX12_number_39 : decode cX12_number 39 = .ok (.ireturn, 1) := by decide +kernel
theorem dX12_takes_0 : decode cX12_takes 0 = .ok (.aload_n 0, 1) := by decide +kernel
theorem dX12_takes_1 : decode cX12_takes 1 = .ok (.iload_n 2, 1) := by decide +kernel
theorem dX12_takes_2 : decode cX12_takes 2 = .ok (.iload_n 3, 1) := by decide +kernel
theorem dX12_takes_3 : decode cX12_takes 3 = .ok (.invokevirtual 119, 3) := by decide +kernel
theorem dX12_takes_6 : decode cX12_takes 6 = .ok (.ifCond .ne 5, 3) := by decide +kernel
theorem dX12_takes_9 : decode cX12_takes 9 = .ok (.iconst 0, 1) := by decide +kernel
theorem dX12_takes_10 : decode cX12_takes 10 = .ok (.ireturn, 1) := by decide +kernel
theorem dX12_takes_11 : decode cX12_takes 11 = .ok (.aload_n 0, 1) := by decide +kernel
theorem dX12_takes_12 : decode cX12_takes 12 = .ok (.getfield 13, 3) := by decide +kernel
theorem dX12_takes_15 : decode cX12_takes 15 = .ok (.iload_n 1, 1) := by decide +kernel
theorem dX12_takes_16 : decode cX12_takes 16 = .ok (.aload_n 0, 1) := by decide +kernel
theorem dX12_takes_17 : decode cX12_takes 17 = .ok (.getfield 104, 3) := by decide +kernel
theorem dX12_takes_20 : decode cX12_takes 20 = .ok (.iastore, 1) := by decide +kernel
theorem dX12_takes_21 : decode cX12_takes 21 = .ok (.aload_n 0, 1) := by decide +kernel
theorem dX12_takes_22 : decode cX12_takes 22 = .ok (.invokevirtual 121, 3) := by decide +kernel
theorem dX12_takes_25 : decode cX12_takes 25 = .ok (.iconst 1, 1) := by decide +kernel
theorem dX12_takes_26 : decode cX12_takes 26 = .ok (.ireturn, 1) := by decide +kernel
theorem dX12_isNamed_0 : decode cX12_isNamed 0 = .ok (.iload_n 1, 1) := by decide +kernel
theorem dX12_isNamed_1 : decode cX12_isNamed 1 = .ok (.iconst 3, 1) := by decide +kernel
theorem dX12_isNamed_2 : decode cX12_isNamed 2 = .ok (.if_icmp .ge 21, 3) := by decide +kernel
theorem dX12_isNamed_5 : decode cX12_isNamed 5 = .ok (.iload_n 1, 1) := by decide +kernel
theorem dX12_isNamed_6 : decode cX12_isNamed 6 = .ok (.aload_n 0, 1) := by decide +kernel
theorem dX12_isNamed_7 : decode cX12_isNamed 7 = .ok (.getfield 13, 3) := by decide +kernel
theorem dX12_isNamed_10 : decode cX12_isNamed 10 = .ok (.iconst 4, 1) := by decide +kernel
theorem dX12_isNamed_11 : decode cX12_isNamed 11 = .ok (.iaload, 1) := by decide +kernel
theorem dX12_isNamed_12 : decode cX12_isNamed 12 = .ok (.if_icmp .ge 7, 3) := by decide +kernel
theorem dX12_isNamed_15 : decode cX12_isNamed 15 = .ok (.iconst 1, 1) := by decide +kernel
theorem dX12_isNamed_16 : decode cX12_isNamed 16 = .ok (.goto 25, 3) := by decide +kernel
theorem dX12_isNamed_19 : decode cX12_isNamed 19 = .ok (.iconst 0, 1) := by decide +kernel
theorem dX12_isNamed_20 : decode cX12_isNamed 20 = .ok (.goto 21, 3) := by decide +kernel
theorem dX12_isNamed_23 : decode cX12_isNamed 23 = .ok (.iload_n 1, 1) := by decide +kernel
theorem dX12_isNamed_24 : decode cX12_isNamed 24 = .ok (.iconst 3, 1) := by decide +kernel
theorem dX12_isNamed_25 : decode cX12_isNamed 25 = .ok (.isub, 1) := by decide +kernel
theorem dX12_isNamed_26 : decode cX12_isNamed 26 = .ok (.aload_n 0, 1) := by decide +kernel
theorem dX12_isNamed_27 : decode cX12_isNamed 27 = .ok (.getfield 13, 3) := by decide +kernel
theorem dX12_isNamed_30 : decode cX12_isNamed 30 = .ok (.bipush 8, 2) := by decide +kernel
theorem dX12_isNamed_32 : decode cX12_isNamed 32 = .ok (.iaload, 1) := by decide +kernel
theorem dX12_isNamed_33 : decode cX12_isNamed 33 = .ok (.if_icmp .ge 7, 3) := by decide +kernel
theorem dX12_isNamed_36 : decode cX12_isNamed 36 = .ok (.iconst 1, 1) := by decide +kernel
theorem dX12_isNamed_37 : decode cX12_isNamed 37 = .ok (.goto 4, 3) := by decide +kernel
theorem dX12_isNamed_40 : decode cX12_isNamed 40 = .ok (.iconst 0, 1) := by decide +kernel
theorem dX12_isNamed_41 : decode cX12_isNamed 41 = .ok (.istore_n 2, 1) := by decide +kernel
theorem dX12_isNamed_42 : decode cX12_isNamed 42 = .ok (.iconst 0, 1) := by decide +kernel
theorem dX12_isNamed_43 : decode cX12_isNamed 43 = .ok (.istore_n 3, 1) := by decide +kernel
theorem dX12_isNamed_44 : decode cX12_isNamed 44 = .ok (.iload_n 3, 1) := by decide +kernel
theorem dX12_isNamed_45 : decode cX12_isNamed 45 = .ok (.bipush 8, 2) := by decide +kernel
theorem dX12_isNamed_47 : decode cX12_isNamed 47 = .ok (.if_icmp .ge 51, 3) := by decide +kernel
theorem dX12_isNamed_50 : decode cX12_isNamed 50 = .ok (.iload_n 2, 1) := by decide +kernel
theorem dX12_isNamed_51 : decode cX12_isNamed 51 = .ok (.ifCond .eq 47, 3) := by decide +kernel
theorem dX12_isNamed_54 : decode cX12_isNamed 54 = .ok (.aload_n 0, 1) := by decide +kernel
theorem dX12_isNamed_55 : decode cX12_isNamed 55 = .ok (.getfield 33, 3) := by decide +kernel
theorem dX12_isNamed_58 : decode cX12_isNamed 58 = .ok (.bipush 8, 2) := by decide +kernel
theorem dX12_isNamed_60 : decode cX12_isNamed 60 = .ok (.iload_n 1, 1) := by decide +kernel
theorem dX12_isNamed_61 : decode cX12_isNamed 61 = .ok (.imul, 1) := by decide +kernel
theorem dX12_isNamed_62 : decode cX12_isNamed 62 = .ok (.iload_n 3, 1) := by decide +kernel
theorem dX12_isNamed_63 : decode cX12_isNamed 63 = .ok (.iadd, 1) := by decide +kernel
theorem dX12_isNamed_64 : decode cX12_isNamed 64 = .ok (.baload, 1) := by decide +kernel
theorem dX12_isNamed_65 : decode cX12_isNamed 65 = .ok (.iload_n 3, 1) := by decide +kernel
theorem dX12_isNamed_66 : decode cX12_isNamed 66 = .ok (.aload_n 0, 1) := by decide +kernel
theorem dX12_isNamed_67 : decode cX12_isNamed 67 = .ok (.getfield 107, 3) := by decide +kernel
theorem dX12_isNamed_70 : decode cX12_isNamed 70 = .ok (.if_icmp .ge 12, 3) := by decide +kernel
theorem dX12_isNamed_73 : decode cX12_isNamed 73 = .ok (.aload_n 0, 1) := by decide +kernel
theorem dX12_isNamed_74 : decode cX12_isNamed 74 = .ok (.getfield 30, 3) := by decide +kernel
theorem dX12_isNamed_77 : decode cX12_isNamed 77 = .ok (.iload_n 3, 1) := by decide +kernel
theorem dX12_isNamed_78 : decode cX12_isNamed 78 = .ok (.baload, 1) := by decide +kernel
theorem dX12_isNamed_79 : decode cX12_isNamed 79 = .ok (.goto 4, 3) := by decide +kernel
theorem dX12_isNamed_82 : decode cX12_isNamed 82 = .ok (.iconst 0, 1) := by decide +kernel
theorem dX12_isNamed_83 : decode cX12_isNamed 83 = .ok (.if_icmp .ne 7, 3) := by decide +kernel
theorem dX12_isNamed_86 : decode cX12_isNamed 86 = .ok (.iconst 1, 1) := by decide +kernel
theorem dX12_isNamed_87 : decode cX12_isNamed 87 = .ok (.goto 4, 3) := by decide +kernel
theorem dX12_isNamed_90 : decode cX12_isNamed 90 = .ok (.iconst 0, 1) := by decide +kernel
theorem dX12_isNamed_91 : decode cX12_isNamed 91 = .ok (.istore_n 2, 1) := by decide +kernel
theorem dX12_isNamed_92 : decode cX12_isNamed 92 = .ok (.iinc 3 1, 3) := by decide +kernel
theorem dX12_isNamed_95 : decode cX12_isNamed 95 = .ok (.goto (-51), 3) := by decide +kernel
theorem dX12_isNamed_98 : decode cX12_isNamed 98 = .ok (.iload_n 2, 1) := by decide +kernel
theorem dX12_isNamed_99 : decode cX12_isNamed 99 = .ok (.ireturn, 1) := by decide +kernel
theorem dX12_named0_0 : decode cX12_named0 0 = .ok (.iload_n 1, 1) := by decide +kernel
theorem dX12_named0_1 : decode cX12_named0 1 = .ok (.istore_n 2, 1) := by decide +kernel
theorem dX12_named0_2 : decode cX12_named0 2 = .ok (.iload_n 2, 1) := by decide +kernel
theorem dX12_named0_3 : decode cX12_named0 3 = .ok (.bipush 6, 2) := by decide +kernel
theorem dX12_named0_5 : decode cX12_named0 5 = .ok (.if_icmp .ge 19, 3) := by decide +kernel
theorem dX12_named0_8 : decode cX12_named0 8 = .ok (.aload_n 0, 1) := by decide +kernel
theorem dX12_named0_9 : decode cX12_named0 9 = .ok (.iload_n 2, 1) := by decide +kernel
theorem dX12_named0_10 : decode cX12_named0 10 = .ok (.invokevirtual 124, 3) := by decide +kernel
theorem dX12_named0_13 : decode cX12_named0 13 = .ok (.ifCond .eq 5, 3) := by decide +kernel
theorem dX12_named0_16 : decode cX12_named0 16 = .ok (.iload_n 2, 1) := by decide +kernel
theorem dX12_named0_17 : decode cX12_named0 17 = .ok (.ireturn, 1) := by decide +kernel
theorem dX12_named0_18 : decode cX12_named0 18 = .ok (.iinc 2 1, 3) := by decide +kernel
theorem dX12_named0_21 : decode cX12_named0 21 = .ok (.goto (-19), 3) := by decide +kernel
theorem dX12_named0_24 : decode cX12_named0 24 = .ok (.iconst (-1), 1) := by decide +kernel
theorem dX12_named0_25 : decode cX12_named0 25 = .ok (.ireturn, 1) := by decide +kernel
theorem dX12_takesName_0 : decode cX12_takesName 0 = .ok (.aload_n 0, 1) := by decide +kernel
theorem dX12_takesName_1 : decode cX12_takesName 1 = .ok (.invokevirtual 127, 3) := by decide +kernel
theorem dX12_takesName_4 : decode cX12_takesName 4 = .ok (.ifCond .ne 9, 3) := by decide +kernel
theorem dX12_takesName_7 : decode cX12_takesName 7 = .ok (.aload_n 0, 1) := by decide +kernel
theorem dX12_takesName_8 : decode cX12_takesName 8 = .ok (.iconst 1, 1) := by decide +kernel
theorem dX12_takesName_9 : decode cX12_takesName 9 = .ok (.invokevirtual 116, 3) := by decide +kernel
theorem dX12_takesName_12 : decode cX12_takesName 12 = .ok (.ireturn, 1) := by decide +kernel
theorem dX12_takesName_13 : decode cX12_takesName 13 = .ok (.aload_n 0, 1) := by decide +kernel
theorem dX12_takesName_14 : decode cX12_takesName 14 = .ok (.iconst 0, 1) := by decide +kernel
theorem dX12_takesName_15 : decode cX12_takesName 15 = .ok (.invokevirtual 131, 3) := by decide +kernel
theorem dX12_takesName_18 : decode cX12_takesName 18 = .ok (.ifCond .lt 9, 3) := by decide +kernel
theorem dX12_takesName_21 : decode cX12_takesName 21 = .ok (.aload_n 0, 1) := by decide +kernel
theorem dX12_takesName_22 : decode cX12_takesName 22 = .ok (.iconst 3, 1) := by decide +kernel
theorem dX12_takesName_23 : decode cX12_takesName 23 = .ok (.invokevirtual 116, 3) := by decide +kernel
theorem dX12_takesName_26 : decode cX12_takesName 26 = .ok (.ireturn, 1) := by decide +kernel
theorem dX12_takesName_27 : decode cX12_takesName 27 = .ok (.iconst 0, 1) := by decide +kernel
theorem dX12_takesName_28 : decode cX12_takesName 28 = .ok (.istore_n 2, 1) := by decide +kernel
theorem dX12_takesName_29 : decode cX12_takesName 29 = .ok (.iload_n 2, 1) := by decide +kernel
theorem dX12_takesName_30 : decode cX12_takesName 30 = .ok (.bipush 8, 2) := by decide +kernel
theorem dX12_takesName_32 : decode cX12_takesName 32 = .ok (.if_icmp .ge 38, 3) := by decide +kernel
theorem dX12_takesName_35 : decode cX12_takesName 35 = .ok (.aload_n 0, 1) := by decide +kernel
theorem dX12_takesName_36 : decode cX12_takesName 36 = .ok (.getfield 33, 3) := by decide +kernel
theorem dX12_takesName_39 : decode cX12_takesName 39 = .ok (.bipush 8, 2) := by decide +kernel
theorem dX12_takesName_41 : decode cX12_takesName 41 = .ok (.iload_n 1, 1) := by decide +kernel
theorem dX12_takesName_42 : decode cX12_takesName 42 = .ok (.imul, 1) := by decide +kernel
theorem dX12_takesName_43 : decode cX12_takesName 43 = .ok (.iload_n 2, 1) := by decide +kernel
theorem dX12_takesName_44 : decode cX12_takesName 44 = .ok (.iadd, 1) := by decide +kernel
theorem dX12_takesName_45 : decode cX12_takesName 45 = .ok (.iload_n 2, 1) := by decide +kernel
theorem dX12_takesName_46 : decode cX12_takesName 46 = .ok (.aload_n 0, 1) := by decide +kernel
theorem dX12_takesName_47 : decode cX12_takesName 47 = .ok (.getfield 107, 3) := by decide +kernel
theorem dX12_takesName_50 : decode cX12_takesName 50 = .ok (.if_icmp .ge 12, 3) := by decide +kernel
theorem dX12_takesName_53 : decode cX12_takesName 53 = .ok (.aload_n 0, 1) := by decide +kernel
theorem dX12_takesName_54 : decode cX12_takesName 54 = .ok (.getfield 30, 3) := by decide +kernel
theorem dX12_takesName_57 : decode cX12_takesName 57 = .ok (.iload_n 2, 1) := by decide +kernel
theorem dX12_takesName_58 : decode cX12_takesName 58 = .ok (.baload, 1) := by decide +kernel
theorem dX12_takesName_59 : decode cX12_takesName 59 = .ok (.goto 4, 3) := by decide +kernel
theorem dX12_takesName_62 : decode cX12_takesName 62 = .ok (.iconst 0, 1) := by decide +kernel
theorem dX12_takesName_63 : decode cX12_takesName 63 = .ok (.bastore, 1) := by decide +kernel
theorem dX12_takesName_64 : decode cX12_takesName 64 = .ok (.iinc 2 1, 3) := by decide +kernel
theorem dX12_takesName_67 : decode cX12_takesName 67 = .ok (.goto (-38), 3) := by decide +kernel
theorem dX12_takesName_70 : decode cX12_takesName 70 = .ok (.aload_n 0, 1) := by decide +kernel
theorem dX12_takesName_71 : decode cX12_takesName 71 = .ok (.invokevirtual 121, 3) := by decide +kernel
theorem dX12_takesName_74 : decode cX12_takesName 74 = .ok (.iconst 1, 1) := by decide +kernel
theorem dX12_takesName_75 : decode cX12_takesName 75 = .ok (.ireturn, 1) := by decide +kernel
theorem dX12_begins_0 : decode cX12_begins 0 = .ok (.aload_n 0, 1) := by decide +kernel
theorem dX12_begins_1 : decode cX12_begins 1 = .ok (.aload_n 0, 1) := by decide +kernel
theorem dX12_begins_2 : decode cX12_begins 2 = .ok (.getfield 59, 3) := by decide +kernel
theorem dX12_begins_5 : decode cX12_begins 5 = .ok (.putfield 70, 3) := by decide +kernel
theorem dX12_begins_8 : decode cX12_begins 8 = .ok (.aload_n 0, 1) := by decide +kernel
theorem dX12_begins_9 : decode cX12_begins 9 = .ok (.iconst 0, 1) := by decide +kernel
theorem dX12_begins_10 : decode cX12_begins 10 = .ok (.putfield 59, 3) := by decide +kernel
theorem dX12_begins_13 : decode cX12_begins 13 = .ok (.aload_n 0, 1) := by decide +kernel
theorem dX12_begins_14 : decode cX12_begins 14 = .ok (.iconst 0, 1) := by decide +kernel
theorem dX12_begins_15 : decode cX12_begins 15 = .ok (.putfield 77, 3) := by decide +kernel
theorem dX12_begins_18 : decode cX12_begins 18 = .ok (.aload_n 0, 1) := by decide +kernel
theorem dX12_begins_19 : decode cX12_begins 19 = .ok (.getfield 70, 3) := by decide +kernel
theorem dX12_begins_22 : decode cX12_begins 22 = .ok (.iload_n 1, 1) := by decide +kernel
theorem dX12_begins_23 : decode cX12_begins 23 = .ok (.if_icmp .le 10, 3) := by decide +kernel
theorem dX12_begins_26 : decode cX12_begins 26 = .ok (.aload_n 0, 1) := by decide +kernel
theorem dX12_begins_27 : decode cX12_begins 27 = .ok (.iconst 1, 1) := by decide +kernel
theorem dX12_begins_28 : decode cX12_begins 28 = .ok (.iload_n 1, 1) := by decide +kernel
theorem dX12_begins_29 : decode cX12_begins 29 = .ok (.invokevirtual 86, 3) := by decide +kernel
theorem dX12_begins_32 : decode cX12_begins 32 = .ok (.ireturn, 1) := by decide +kernel
theorem dX12_begins_33 : decode cX12_begins 33 = .ok (.aload_n 0, 1) := by decide +kernel
theorem dX12_begins_34 : decode cX12_begins 34 = .ok (.iconst 0, 1) := by decide +kernel
theorem dX12_begins_35 : decode cX12_begins 35 = .ok (.putfield 67, 3) := by decide +kernel
theorem dX12_begins_38 : decode cX12_begins 38 = .ok (.aload_n 0, 1) := by decide +kernel
theorem dX12_begins_39 : decode cX12_begins 39 = .ok (.invokevirtual 121, 3) := by decide +kernel
theorem dX12_begins_42 : decode cX12_begins 42 = .ok (.iconst 1, 1) := by decide +kernel
theorem dX12_begins_43 : decode cX12_begins 43 = .ok (.ireturn, 1) := by decide +kernel
theorem dX12_spanLine_0 : decode cX12_spanLine 0 = .ok (.aload_n 0, 1) := by decide +kernel
theorem dX12_spanLine_1 : decode cX12_spanLine 1 = .ok (.iconst 2, 1) := by decide +kernel
theorem dX12_spanLine_2 : decode cX12_spanLine 2 = .ok (.iconst 0, 1) := by decide +kernel
theorem dX12_spanLine_3 : decode cX12_spanLine 3 = .ok (.bipush 99, 2) := by decide +kernel
theorem dX12_spanLine_5 : decode cX12_spanLine 5 = .ok (.invokevirtual 135, 3) := by decide +kernel
theorem dX12_spanLine_8 : decode cX12_spanLine 8 = .ok (.ifCond .eq 25, 3) := by decide +kernel
theorem dX12_spanLine_11 : decode cX12_spanLine 11 = .ok (.aload_n 0, 1) := by decide +kernel
theorem dX12_spanLine_12 : decode cX12_spanLine 12 = .ok (.iconst 3, 1) := by decide +kernel
theorem dX12_spanLine_13 : decode cX12_spanLine 13 = .ok (.aload_n 0, 1) := by decide +kernel
theorem dX12_spanLine_14 : decode cX12_spanLine 14 = .ok (.getfield 13, 3) := by decide +kernel
theorem dX12_spanLine_17 : decode cX12_spanLine 17 = .ok (.iconst 2, 1) := by decide +kernel
theorem dX12_spanLine_18 : decode cX12_spanLine 18 = .ok (.iaload, 1) := by decide +kernel
theorem dX12_spanLine_19 : decode cX12_spanLine 19 = .ok (.iconst 1, 1) := by decide +kernel
theorem dX12_spanLine_20 : decode cX12_spanLine 20 = .ok (.iadd, 1) := by decide +kernel
theorem dX12_spanLine_21 : decode cX12_spanLine 21 = .ok (.bipush 99, 2) := by decide +kernel
theorem dX12_spanLine_23 : decode cX12_spanLine 23 = .ok (.invokevirtual 135, 3) := by decide +kernel
theorem dX12_spanLine_26 : decode cX12_spanLine 26 = .ok (.ifCond .eq 7, 3) := by decide +kernel
theorem dX12_spanLine_29 : decode cX12_spanLine 29 = .ok (.iconst 1, 1) := by decide +kernel
theorem dX12_spanLine_30 : decode cX12_spanLine 30 = .ok (.goto 4, 3) := by decide +kernel
theorem dX12_spanLine_33 : decode cX12_spanLine 33 = .ok (.iconst 0, 1) := by decide +kernel
theorem dX12_spanLine_34 : decode cX12_spanLine 34 = .ok (.ireturn, 1) := by decide +kernel
theorem dX12_holdLine_0 : decode cX12_holdLine 0 = .ok (.aload_n 0, 1) := by decide +kernel
theorem dX12_holdLine_1 : decode cX12_holdLine 1 = .ok (.getfield 13, 3) := by decide +kernel
theorem dX12_holdLine_4 : decode cX12_holdLine 4 = .ok (.iconst 4, 1) := by decide +kernel
theorem dX12_holdLine_5 : decode cX12_holdLine 5 = .ok (.iaload, 1) := by decide +kernel
theorem dX12_holdLine_6 : decode cX12_holdLine 6 = .ok (.istore_n 1, 1) := by decide +kernel
theorem dX12_holdLine_7 : decode cX12_holdLine 7 = .ok (.aload_n 0, 1) := by decide +kernel
theorem dX12_holdLine_8 : decode cX12_holdLine 8 = .ok (.iload_n 1, 1) := by decide +kernel
theorem dX12_holdLine_9 : decode cX12_holdLine 9 = .ok (.invokevirtual 138, 3) := by decide +kernel
theorem dX12_holdLine_12 : decode cX12_holdLine 12 = .ok (.ifCond .eq 18, 3) := by decide +kernel
theorem dX12_holdLine_15 : decode cX12_holdLine 15 = .ok (.aload_n 0, 1) := by decide +kernel
theorem dX12_holdLine_16 : decode cX12_holdLine 16 = .ok (.bipush 13, 2) := by decide +kernel
theorem dX12_holdLine_18 : decode cX12_holdLine 18 = .ok (.iload_n 1, 1) := by decide +kernel
theorem dX12_holdLine_19 : decode cX12_holdLine 19 = .ok (.iadd, 1) := by decide +kernel
theorem dX12_holdLine_20 : decode cX12_holdLine 20 = .ok (.iconst 1, 1) := by decide +kernel
theorem dX12_holdLine_21 : decode cX12_holdLine 21 = .ok (.sipush 999, 3) := by decide +kernel
theorem dX12_holdLine_24 : decode cX12_holdLine 24 = .ok (.invokevirtual 135, 3) := by decide +kernel
theorem dX12_holdLine_27 : decode cX12_holdLine 27 = .ok (.ifCond .ne 5, 3) := by decide +kernel
theorem dX12_holdLine_30 : decode cX12_holdLine 30 = .ok (.iconst 0, 1) := by decide +kernel
theorem dX12_holdLine_31 : decode cX12_holdLine 31 = .ok (.ireturn, 1) := by decide +kernel
theorem dX12_holdLine_32 : decode cX12_holdLine 32 = .ok (.aload_n 0, 1) := by decide +kernel
theorem dX12_holdLine_33 : decode cX12_holdLine 33 = .ok (.invokevirtual 113, 3) := by decide +kernel
theorem dX12_holdLine_36 : decode cX12_holdLine 36 = .ok (.istore_n 2, 1) := by decide +kernel
theorem dX12_holdLine_37 : decode cX12_holdLine 37 = .ok (.iload_n 2, 1) := by decide +kernel
theorem dX12_holdLine_38 : decode cX12_holdLine 38 = .ok (.bipush 11, 2) := by decide +kernel
theorem dX12_holdLine_40 : decode cX12_holdLine 40 = .ok (.if_icmp .eq 15, 3) := by decide +kernel
theorem dX12_holdLine_43 : decode cX12_holdLine 43 = .ok (.iload_n 2, 1) := by decide +kernel
theorem dX12_holdLine_44 : decode cX12_holdLine 44 = .ok (.bipush 12, 2) := by decide +kernel
theorem dX12_holdLine_46 : decode cX12_holdLine 46 = .ok (.if_icmp .eq 9, 3) := by decide +kernel
theorem dX12_holdLine_49 : decode cX12_holdLine 49 = .ok (.aload_n 0, 1) := by decide +kernel
theorem dX12_holdLine_50 : decode cX12_holdLine 50 = .ok (.iconst 1, 1) := by decide +kernel
theorem dX12_holdLine_51 : decode cX12_holdLine 51 = .ok (.invokevirtual 116, 3) := by decide +kernel
theorem dX12_holdLine_54 : decode cX12_holdLine 54 = .ok (.ireturn, 1) := by decide +kernel
theorem dX12_holdLine_55 : decode cX12_holdLine 55 = .ok (.aload_n 0, 1) := by decide +kernel
theorem dX12_holdLine_56 : decode cX12_holdLine 56 = .ok (.getfield 13, 3) := by decide +kernel
theorem dX12_holdLine_59 : decode cX12_holdLine 59 = .ok (.bipush 16, 2) := by decide +kernel
theorem dX12_holdLine_61 : decode cX12_holdLine 61 = .ok (.iload_n 1, 1) := by decide +kernel
theorem dX12_holdLine_62 : decode cX12_holdLine 62 = .ok (.iadd, 1) := by decide +kernel
theorem dX12_holdLine_63 : decode cX12_holdLine 63 = .ok (.iload_n 2, 1) := by decide +kernel
theorem dX12_holdLine_64 : decode cX12_holdLine 64 = .ok (.bipush 12, 2) := by decide +kernel
theorem dX12_holdLine_66 : decode cX12_holdLine 66 = .ok (.if_icmp .ne 7, 3) := by decide +kernel
theorem dX12_holdLine_69 : decode cX12_holdLine 69 = .ok (.iconst 1, 1) := by decide +kernel
theorem dX12_holdLine_70 : decode cX12_holdLine 70 = .ok (.goto 4, 3) := by decide +kernel
theorem dX12_holdLine_73 : decode cX12_holdLine 73 = .ok (.iconst 0, 1) := by decide +kernel
theorem dX12_holdLine_74 : decode cX12_holdLine 74 = .ok (.iastore, 1) := by decide +kernel
theorem dX12_holdLine_75 : decode cX12_holdLine 75 = .ok (.aload_n 0, 1) := by decide +kernel
theorem dX12_holdLine_76 : decode cX12_holdLine 76 = .ok (.getfield 13, 3) := by decide +kernel
theorem dX12_holdLine_79 : decode cX12_holdLine 79 = .ok (.iconst 4, 1) := by decide +kernel
theorem dX12_holdLine_80 : decode cX12_holdLine 80 = .ok (.dup2, 1) := by decide +kernel
theorem dX12_holdLine_81 : decode cX12_holdLine 81 = .ok (.iaload, 1) := by decide +kernel
theorem dX12_holdLine_82 : decode cX12_holdLine 82 = .ok (.iconst 1, 1) := by decide +kernel
theorem dX12_holdLine_83 : decode cX12_holdLine 83 = .ok (.iadd, 1) := by decide +kernel
theorem dX12_holdLine_84 : decode cX12_holdLine 84 = .ok (.iastore, 1) := by decide +kernel
theorem dX12_holdLine_85 : decode cX12_holdLine 85 = .ok (.aload_n 0, 1) := by decide +kernel
theorem dX12_holdLine_86 : decode cX12_holdLine 86 = .ok (.invokevirtual 121, 3) := by decide +kernel
theorem dX12_holdLine_89 : decode cX12_holdLine 89 = .ok (.iconst 1, 1) := by decide +kernel
theorem dX12_holdLine_90 : decode cX12_holdLine 90 = .ok (.ireturn, 1) := by decide +kernel
theorem dX12_spotLine_0 : decode cX12_spotLine 0 = .ok (.aload_n 0, 1) := by decide +kernel
theorem dX12_spotLine_1 : decode cX12_spotLine 1 = .ok (.getfield 13, 3) := by decide +kernel
theorem dX12_spotLine_4 : decode cX12_spotLine 4 = .ok (.iconst 5, 1) := by decide +kernel
theorem dX12_spotLine_5 : decode cX12_spotLine 5 = .ok (.iaload, 1) := by decide +kernel
theorem dX12_spotLine_6 : decode cX12_spotLine 6 = .ok (.istore_n 1, 1) := by decide +kernel
theorem dX12_spotLine_7 : decode cX12_spotLine 7 = .ok (.aload_n 0, 1) := by decide +kernel
theorem dX12_spotLine_8 : decode cX12_spotLine 8 = .ok (.getfield 13, 3) := by decide +kernel
theorem dX12_spotLine_11 : decode cX12_spotLine 11 = .ok (.bipush 19, 2) := by decide +kernel
theorem dX12_spotLine_13 : decode cX12_spotLine 13 = .ok (.iload_n 1, 1) := by decide +kernel
theorem dX12_spotLine_14 : decode cX12_spotLine 14 = .ok (.iadd, 1) := by decide +kernel
theorem dX12_spotLine_15 : decode cX12_spotLine 15 = .ok (.aload_n 0, 1) := by decide +kernel
theorem dX12_spotLine_16 : decode cX12_spotLine 16 = .ok (.getfield 13, 3) := by decide +kernel
theorem dX12_spotLine_19 : decode cX12_spotLine 19 = .ok (.iconst 4, 1) := by decide +kernel
theorem dX12_spotLine_20 : decode cX12_spotLine 20 = .ok (.iaload, 1) := by decide +kernel
theorem dX12_spotLine_21 : decode cX12_spotLine 21 = .ok (.iconst 1, 1) := by decide +kernel
theorem dX12_spotLine_22 : decode cX12_spotLine 22 = .ok (.isub, 1) := by decide +kernel
theorem dX12_spotLine_23 : decode cX12_spotLine 23 = .ok (.iastore, 1) := by decide +kernel
theorem dX12_spotLine_24 : decode cX12_spotLine 24 = .ok (.aload_n 0, 1) := by decide +kernel
theorem dX12_spotLine_25 : decode cX12_spotLine 25 = .ok (.bipush 25, 2) := by decide +kernel
theorem dX12_spotLine_27 : decode cX12_spotLine 27 = .ok (.iload_n 1, 1) := by decide +kernel
theorem dX12_spotLine_28 : decode cX12_spotLine 28 = .ok (.iadd, 1) := by decide +kernel
theorem dX12_spotLine_29 : decode cX12_spotLine 29 = .ok (.iconst 0, 1) := by decide +kernel
theorem dX12_spotLine_30 : decode cX12_spotLine 30 = .ok (.bipush 99, 2) := by decide +kernel
theorem dX12_spotLine_32 : decode cX12_spotLine 32 = .ok (.invokevirtual 135, 3) := by decide +kernel
theorem dX12_spotLine_35 : decode cX12_spotLine 35 = .ok (.ifCond .eq 17, 3) := by decide +kernel
theorem dX12_spotLine_38 : decode cX12_spotLine 38 = .ok (.aload_n 0, 1) := by decide +kernel
theorem dX12_spotLine_39 : decode cX12_spotLine 39 = .ok (.bipush 31, 2) := by decide +kernel
theorem dX12_spotLine_41 : decode cX12_spotLine 41 = .ok (.iload_n 1, 1) := by decide +kernel
theorem dX12_spotLine_42 : decode cX12_spotLine 42 = .ok (.iadd, 1) := by decide +kernel
theorem dX12_spotLine_43 : decode cX12_spotLine 43 = .ok (.iconst 1, 1) := by decide +kernel
theorem dX12_spotLine_44 : decode cX12_spotLine 44 = .ok (.bipush 99, 2) := by decide +kernel
theorem dX12_spotLine_46 : decode cX12_spotLine 46 = .ok (.invokevirtual 135, 3) := by decide +kernel
theorem dX12_spotLine_49 : decode cX12_spotLine 49 = .ok (.ifCond .ne 5, 3) := by decide +kernel
theorem dX12_spotLine_52 : decode cX12_spotLine 52 = .ok (.iconst 0, 1) := by decide +kernel
theorem dX12_spotLine_53 : decode cX12_spotLine 53 = .ok (.ireturn, 1) := by decide +kernel
theorem dX12_spotLine_54 : decode cX12_spotLine 54 = .ok (.aload_n 0, 1) := by decide +kernel
theorem dX12_spotLine_55 : decode cX12_spotLine 55 = .ok (.getfield 13, 3) := by decide +kernel
theorem dX12_spotLine_58 : decode cX12_spotLine 58 = .ok (.iconst 5, 1) := by decide +kernel
theorem dX12_spotLine_59 : decode cX12_spotLine 59 = .ok (.dup2, 1) := by decide +kernel
theorem dX12_spotLine_60 : decode cX12_spotLine 60 = .ok (.iaload, 1) := by decide +kernel
theorem dX12_spotLine_61 : decode cX12_spotLine 61 = .ok (.iconst 1, 1) := by decide +kernel
theorem dX12_spotLine_62 : decode cX12_spotLine 62 = .ok (.iadd, 1) := by decide +kernel
theorem dX12_spotLine_63 : decode cX12_spotLine 63 = .ok (.iastore, 1) := by decide +kernel
theorem dX12_spotLine_64 : decode cX12_spotLine 64 = .ok (.iconst 1, 1) := by decide +kernel
theorem dX12_spotLine_65 : decode cX12_spotLine 65 = .ok (.ireturn, 1) := by decide +kernel
theorem dX12_canJoint_0 : decode cX12_canJoint 0 = .ok (.aload_n 0, 1) := by decide +kernel
theorem dX12_canJoint_1 : decode cX12_canJoint 1 = .ok (.getfield 13, 3) := by decide +kernel
theorem dX12_canJoint_4 : decode cX12_canJoint 4 = .ok (.iconst 5, 1) := by decide +kernel
theorem dX12_canJoint_5 : decode cX12_canJoint 5 = .ok (.iaload, 1) := by decide +kernel
theorem dX12_canJoint_6 : decode cX12_canJoint 6 = .ok (.istore_n 1, 1) := by decide +kernel
theorem dX12_canJoint_7 : decode cX12_canJoint 7 = .ok (.iload_n 1, 1) := by decide +kernel
theorem dX12_canJoint_8 : decode cX12_canJoint 8 = .ok (.iconst 2, 1) := by decide +kernel
theorem dX12_canJoint_9 : decode cX12_canJoint 9 = .ok (.if_icmp .lt 25, 3) := by decide +kernel
theorem dX12_canJoint_12 : decode cX12_canJoint 12 = .ok (.aload_n 0, 1) := by decide +kernel
theorem dX12_canJoint_13 : decode cX12_canJoint 13 = .ok (.getfield 13, 3) := by decide +kernel
theorem dX12_canJoint_16 : decode cX12_canJoint 16 = .ok (.bipush 19, 2) := by decide +kernel
theorem dX12_canJoint_18 : decode cX12_canJoint 18 = .ok (.iload_n 1, 1) := by decide +kernel
theorem dX12_canJoint_19 : decode cX12_canJoint 19 = .ok (.iadd, 1) := by decide +kernel
theorem dX12_canJoint_20 : decode cX12_canJoint 20 = .ok (.iconst 2, 1) := by decide +kernel
theorem dX12_canJoint_21 : decode cX12_canJoint 21 = .ok (.isub, 1) := by decide +kernel
theorem dX12_canJoint_22 : decode cX12_canJoint 22 = .ok (.iaload, 1) := by decide +kernel
theorem dX12_canJoint_23 : decode cX12_canJoint 23 = .ok (.aload_n 0, 1) := by decide +kernel
theorem dX12_canJoint_24 : decode cX12_canJoint 24 = .ok (.getfield 13, 3) := by decide +kernel
theorem dX12_canJoint_27 : decode cX12_canJoint 27 = .ok (.iconst 4, 1) := by decide +kernel
theorem dX12_canJoint_28 : decode cX12_canJoint 28 = .ok (.iaload, 1) := by decide +kernel
theorem dX12_canJoint_29 : decode cX12_canJoint 29 = .ok (.iconst 1, 1) := by decide +kernel
theorem dX12_canJoint_30 : decode cX12_canJoint 30 = .ok (.isub, 1) := by decide +kernel
theorem dX12_canJoint_31 : decode cX12_canJoint 31 = .ok (.if_icmp .eq 5, 3) := by decide +kernel
theorem dX12_canJoint_34 : decode cX12_canJoint 34 = .ok (.iconst 0, 1) := by decide +kernel
theorem dX12_canJoint_35 : decode cX12_canJoint 35 = .ok (.ireturn, 1) := by decide +kernel
theorem dX12_canJoint_36 : decode cX12_canJoint 36 = .ok (.aload_n 0, 1) := by decide +kernel
theorem dX12_canJoint_37 : decode cX12_canJoint 37 = .ok (.getfield 13, 3) := by decide +kernel
theorem dX12_canJoint_40 : decode cX12_canJoint 40 = .ok (.bipush 6, 2) := by decide +kernel
theorem dX12_canJoint_42 : decode cX12_canJoint 42 = .ok (.iaload, 1) := by decide +kernel
theorem dX12_canJoint_43 : decode cX12_canJoint 43 = .ok (.ifCond .eq 26, 3) := by decide +kernel
theorem dX12_canJoint_46 : decode cX12_canJoint 46 = .ok (.aload_n 0, 1) := by decide +kernel
theorem dX12_canJoint_47 : decode cX12_canJoint 47 = .ok (.getfield 13, 3) := by decide +kernel
theorem dX12_canJoint_50 : decode cX12_canJoint 50 = .ok (.bipush 37, 2) := by decide +kernel
theorem dX12_canJoint_52 : decode cX12_canJoint 52 = .ok (.aload_n 0, 1) := by decide +kernel
theorem dX12_canJoint_53 : decode cX12_canJoint 53 = .ok (.getfield 13, 3) := by decide +kernel
theorem dX12_canJoint_56 : decode cX12_canJoint 56 = .ok (.bipush 6, 2) := by decide +kernel
theorem dX12_canJoint_58 : decode cX12_canJoint 58 = .ok (.iaload, 1) := by decide +kernel
theorem dX12_canJoint_59 : decode cX12_canJoint 59 = .ok (.iadd, 1) := by decide +kernel
theorem dX12_canJoint_60 : decode cX12_canJoint 60 = .ok (.iconst 1, 1) := by decide +kernel
theorem dX12_canJoint_61 : decode cX12_canJoint 61 = .ok (.isub, 1) := by decide +kernel
theorem dX12_canJoint_62 : decode cX12_canJoint 62 = .ok (.iaload, 1) := by decide +kernel
theorem dX12_canJoint_63 : decode cX12_canJoint 63 = .ok (.iload_n 1, 1) := by decide +kernel
theorem dX12_canJoint_64 : decode cX12_canJoint 64 = .ok (.iconst 2, 1) := by decide +kernel
theorem dX12_canJoint_65 : decode cX12_canJoint 65 = .ok (.isub, 1) := by decide +kernel
theorem dX12_canJoint_66 : decode cX12_canJoint 66 = .ok (.if_icmp .eq 7, 3) := by decide +kernel
theorem dX12_canJoint_69 : decode cX12_canJoint 69 = .ok (.iconst 1, 1) := by decide +kernel
theorem dX12_canJoint_70 : decode cX12_canJoint 70 = .ok (.goto 4, 3) := by decide +kernel
theorem dX12_canJoint_73 : decode cX12_canJoint 73 = .ok (.iconst 0, 1) := by decide +kernel
theorem dX12_canJoint_74 : decode cX12_canJoint 74 = .ok (.ireturn, 1) := by decide +kernel
theorem dX12_jointLine_0 : decode cX12_jointLine 0 = .ok (.aload_n 0, 1) := by decide +kernel
theorem dX12_jointLine_1 : decode cX12_jointLine 1 = .ok (.getfield 13, 3) := by decide +kernel
theorem dX12_jointLine_4 : decode cX12_jointLine 4 = .ok (.bipush 6, 2) := by decide +kernel
theorem dX12_jointLine_6 : decode cX12_jointLine 6 = .ok (.iaload, 1) := by decide +kernel
theorem dX12_jointLine_7 : decode cX12_jointLine 7 = .ok (.istore_n 1, 1) := by decide +kernel
theorem dX12_jointLine_8 : decode cX12_jointLine 8 = .ok (.aload_n 0, 1) := by decide +kernel
theorem dX12_jointLine_9 : decode cX12_jointLine 9 = .ok (.getfield 13, 3) := by decide +kernel
theorem dX12_jointLine_12 : decode cX12_jointLine 12 = .ok (.bipush 37, 2) := by decide +kernel
theorem dX12_jointLine_14 : decode cX12_jointLine 14 = .ok (.iload_n 1, 1) := by decide +kernel
theorem dX12_jointLine_15 : decode cX12_jointLine 15 = .ok (.iadd, 1) := by decide +kernel
theorem dX12_jointLine_16 : decode cX12_jointLine 16 = .ok (.aload_n 0, 1) := by decide +kernel
theorem dX12_jointLine_17 : decode cX12_jointLine 17 = .ok (.getfield 13, 3) := by decide +kernel
theorem dX12_jointLine_20 : decode cX12_jointLine 20 = .ok (.iconst 5, 1) := by decide +kernel
theorem dX12_jointLine_21 : decode cX12_jointLine 21 = .ok (.iaload, 1) := by decide +kernel
theorem dX12_jointLine_22 : decode cX12_jointLine 22 = .ok (.iconst 2, 1) := by decide +kernel
theorem dX12_jointLine_23 : decode cX12_jointLine 23 = .ok (.isub, 1) := by decide +kernel
theorem dX12_jointLine_24 : decode cX12_jointLine 24 = .ok (.iastore, 1) := by decide +kernel
theorem dX12_jointLine_25 : decode cX12_jointLine 25 = .ok (.aload_n 0, 1) := by decide +kernel
theorem dX12_jointLine_26 : decode cX12_jointLine 26 = .ok (.bipush 42, 2) := by decide +kernel
theorem dX12_jointLine_28 : decode cX12_jointLine 28 = .ok (.iload_n 1, 1) := by decide +kernel
theorem dX12_jointLine_29 : decode cX12_jointLine 29 = .ok (.iadd, 1) := by decide +kernel
theorem dX12_jointLine_30 : decode cX12_jointLine 30 = .ok (.iconst 1, 1) := by decide +kernel
theorem dX12_jointLine_31 : decode cX12_jointLine 31 = .ok (.sipush 999, 3) := by decide +kernel
theorem dX12_jointLine_34 : decode cX12_jointLine 34 = .ok (.invokevirtual 135, 3) := by decide +kernel
theorem dX12_jointLine_37 : decode cX12_jointLine 37 = .ok (.ifCond .ne 5, 3) := by decide +kernel
theorem dX12_jointLine_40 : decode cX12_jointLine 40 = .ok (.iconst 0, 1) := by decide +kernel
theorem dX12_jointLine_41 : decode cX12_jointLine 41 = .ok (.ireturn, 1) := by decide +kernel
theorem dX12_jointLine_42 : decode cX12_jointLine 42 = .ok (.aload_n 0, 1) := by decide +kernel
theorem dX12_jointLine_43 : decode cX12_jointLine 43 = .ok (.getfield 13, 3) := by decide +kernel
theorem dX12_jointLine_46 : decode cX12_jointLine 46 = .ok (.bipush 6, 2) := by decide +kernel
theorem dX12_jointLine_48 : decode cX12_jointLine 48 = .ok (.dup2, 1) := by decide +kernel
theorem dX12_jointLine_49 : decode cX12_jointLine 49 = .ok (.iaload, 1) := by decide +kernel
theorem dX12_jointLine_50 : decode cX12_jointLine 50 = .ok (.iconst 1, 1) := by decide +kernel
theorem dX12_jointLine_51 : decode cX12_jointLine 51 = .ok (.iadd, 1) := by decide +kernel
theorem dX12_jointLine_52 : decode cX12_jointLine 52 = .ok (.iastore, 1) := by decide +kernel
theorem dX12_jointLine_53 : decode cX12_jointLine 53 = .ok (.iconst 1, 1) := by decide +kernel
theorem dX12_jointLine_54 : decode cX12_jointLine 54 = .ok (.ireturn, 1) := by decide +kernel
theorem dX12_binLine_0 : decode cX12_binLine 0 = .ok (.aload_n 0, 1) := by decide +kernel
theorem dX12_binLine_1 : decode cX12_binLine 1 = .ok (.getfield 13, 3) := by decide +kernel
theorem dX12_binLine_4 : decode cX12_binLine 4 = .ok (.bipush 7, 2) := by decide +kernel
theorem dX12_binLine_6 : decode cX12_binLine 6 = .ok (.iaload, 1) := by decide +kernel
theorem dX12_binLine_7 : decode cX12_binLine 7 = .ok (.istore_n 1, 1) := by decide +kernel
theorem dX12_binLine_8 : decode cX12_binLine 8 = .ok (.aload_n 0, 1) := by decide +kernel
theorem dX12_binLine_9 : decode cX12_binLine 9 = .ok (.bipush 47, 2) := by decide +kernel
theorem dX12_binLine_11 : decode cX12_binLine 11 = .ok (.iload_n 1, 1) := by decide +kernel
theorem dX12_binLine_12 : decode cX12_binLine 12 = .ok (.iadd, 1) := by decide +kernel
theorem dX12_binLine_13 : decode cX12_binLine 13 = .ok (.iconst 0, 1) := by decide +kernel
theorem dX12_binLine_14 : decode cX12_binLine 14 = .ok (.bipush 99, 2) := by decide +kernel
theorem dX12_binLine_16 : decode cX12_binLine 16 = .ok (.invokevirtual 135, 3) := by decide +kernel
theorem dX12_binLine_19 : decode cX12_binLine 19 = .ok (.ifCond .eq 17, 3) := by decide +kernel
theorem dX12_binLine_22 : decode cX12_binLine 22 = .ok (.aload_n 0, 1) := by decide +kernel
theorem dX12_binLine_23 : decode cX12_binLine 23 = .ok (.bipush 49, 2) := by decide +kernel
theorem dX12_binLine_25 : decode cX12_binLine 25 = .ok (.iload_n 1, 1) := by decide +kernel
theorem dX12_binLine_26 : decode cX12_binLine 26 = .ok (.iadd, 1) := by decide +kernel
theorem dX12_binLine_27 : decode cX12_binLine 27 = .ok (.iconst 1, 1) := by decide +kernel
theorem dX12_binLine_28 : decode cX12_binLine 28 = .ok (.bipush 99, 2) := by decide +kernel
theorem dX12_binLine_30 : decode cX12_binLine 30 = .ok (.invokevirtual 135, 3) := by decide +kernel
theorem dX12_binLine_33 : decode cX12_binLine 33 = .ok (.ifCond .ne 5, 3) := by decide +kernel
theorem dX12_binLine_36 : decode cX12_binLine 36 = .ok (.iconst 0, 1) := by decide +kernel
theorem dX12_binLine_37 : decode cX12_binLine 37 = .ok (.ireturn, 1) := by decide +kernel
theorem dX12_binLine_38 : decode cX12_binLine 38 = .ok (.aload_n 0, 1) := by decide +kernel
theorem dX12_binLine_39 : decode cX12_binLine 39 = .ok (.getfield 13, 3) := by decide +kernel
theorem dX12_binLine_42 : decode cX12_binLine 42 = .ok (.bipush 7, 2) := by decide +kernel
theorem dX12_binLine_44 : decode cX12_binLine 44 = .ok (.dup2, 1) := by decide +kernel
theorem dX12_binLine_45 : decode cX12_binLine 45 = .ok (.iaload, 1) := by decide +kernel
theorem dX12_binLine_46 : decode cX12_binLine 46 = .ok (.iconst 1, 1) := by decide +kernel
theorem dX12_binLine_47 : decode cX12_binLine 47 = .ok (.iadd, 1) := by decide +kernel
theorem dX12_binLine_48 : decode cX12_binLine 48 = .ok (.iastore, 1) := by decide +kernel
theorem dX12_binLine_49 : decode cX12_binLine 49 = .ok (.iconst 1, 1) := by decide +kernel
theorem dX12_binLine_50 : decode cX12_binLine 50 = .ok (.ireturn, 1) := by decide +kernel
theorem dX12_tankLine_0 : decode cX12_tankLine 0 = .ok (.aload_n 0, 1) := by decide +kernel
theorem dX12_tankLine_1 : decode cX12_tankLine 1 = .ok (.getfield 13, 3) := by decide +kernel
theorem dX12_tankLine_4 : decode cX12_tankLine 4 = .ok (.bipush 8, 2) := by decide +kernel
theorem dX12_tankLine_6 : decode cX12_tankLine 6 = .ok (.iaload, 1) := by decide +kernel
theorem dX12_tankLine_7 : decode cX12_tankLine 7 = .ok (.istore_n 1, 1) := by decide +kernel
theorem dX12_tankLine_8 : decode cX12_tankLine 8 = .ok (.aload_n 0, 1) := by decide +kernel
theorem dX12_tankLine_9 : decode cX12_tankLine 9 = .ok (.iconst 3, 1) := by decide +kernel
theorem dX12_tankLine_10 : decode cX12_tankLine 10 = .ok (.iload_n 1, 1) := by decide +kernel
theorem dX12_tankLine_11 : decode cX12_tankLine 11 = .ok (.iadd, 1) := by decide +kernel
theorem dX12_tankLine_12 : decode cX12_tankLine 12 = .ok (.invokevirtual 138, 3) := by decide +kernel
theorem dX12_tankLine_15 : decode cX12_tankLine 15 = .ok (.ifCond .eq 31, 3) := by decide +kernel
theorem dX12_tankLine_18 : decode cX12_tankLine 18 = .ok (.aload_n 0, 1) := by decide +kernel
theorem dX12_tankLine_19 : decode cX12_tankLine 19 = .ok (.bipush 53, 2) := by decide +kernel
theorem dX12_tankLine_21 : decode cX12_tankLine 21 = .ok (.iload_n 1, 1) := by decide +kernel
theorem dX12_tankLine_22 : decode cX12_tankLine 22 = .ok (.iadd, 1) := by decide +kernel
theorem dX12_tankLine_23 : decode cX12_tankLine 23 = .ok (.iconst 0, 1) := by decide +kernel
theorem dX12_tankLine_24 : decode cX12_tankLine 24 = .ok (.bipush 99, 2) := by decide +kernel
theorem dX12_tankLine_26 : decode cX12_tankLine 26 = .ok (.invokevirtual 135, 3) := by decide +kernel
theorem dX12_tankLine_29 : decode cX12_tankLine 29 = .ok (.ifCond .eq 17, 3) := by decide +kernel
theorem dX12_tankLine_32 : decode cX12_tankLine 32 = .ok (.aload_n 0, 1) := by decide +kernel
theorem dX12_tankLine_33 : decode cX12_tankLine 33 = .ok (.bipush 56, 2) := by decide +kernel
theorem dX12_tankLine_35 : decode cX12_tankLine 35 = .ok (.iload_n 1, 1) := by decide +kernel
theorem dX12_tankLine_36 : decode cX12_tankLine 36 = .ok (.iadd, 1) := by decide +kernel
theorem dX12_tankLine_37 : decode cX12_tankLine 37 = .ok (.iconst 1, 1) := by decide +kernel
theorem dX12_tankLine_38 : decode cX12_tankLine 38 = .ok (.bipush 99, 2) := by decide +kernel
theorem dX12_tankLine_40 : decode cX12_tankLine 40 = .ok (.invokevirtual 135, 3) := by decide +kernel
theorem dX12_tankLine_43 : decode cX12_tankLine 43 = .ok (.ifCond .ne 5, 3) := by decide +kernel
theorem dX12_tankLine_46 : decode cX12_tankLine 46 = .ok (.iconst 0, 1) := by decide +kernel
theorem dX12_tankLine_47 : decode cX12_tankLine 47 = .ok (.ireturn, 1) := by decide +kernel
theorem dX12_tankLine_48 : decode cX12_tankLine 48 = .ok (.aload_n 0, 1) := by decide +kernel
theorem dX12_tankLine_49 : decode cX12_tankLine 49 = .ok (.getfield 13, 3) := by decide +kernel
theorem dX12_tankLine_52 : decode cX12_tankLine 52 = .ok (.bipush 8, 2) := by decide +kernel
theorem dX12_tankLine_54 : decode cX12_tankLine 54 = .ok (.dup2, 1) := by decide +kernel
theorem dX12_tankLine_55 : decode cX12_tankLine 55 = .ok (.iaload, 1) := by decide +kernel
theorem dX12_tankLine_56 : decode cX12_tankLine 56 = .ok (.iconst 1, 1) := by decide +kernel
theorem dX12_tankLine_57 : decode cX12_tankLine 57 = .ok (.iadd, 1) := by decide +kernel
theorem dX12_tankLine_58 : decode cX12_tankLine 58 = .ok (.iastore, 1) := by decide +kernel
theorem dX12_tankLine_59 : decode cX12_tankLine 59 = .ok (.iconst 1, 1) := by decide +kernel
theorem dX12_tankLine_60 : decode cX12_tankLine 60 = .ok (.ireturn, 1) := by decide +kernel
theorem dX12_burnLine_0 : decode cX12_burnLine 0 = .ok (.aload_n 0, 1) := by decide +kernel
theorem dX12_burnLine_1 : decode cX12_burnLine 1 = .ok (.invokevirtual 127, 3) := by decide +kernel
theorem dX12_burnLine_4 : decode cX12_burnLine 4 = .ok (.ifCond .ne 9, 3) := by decide +kernel
theorem dX12_burnLine_7 : decode cX12_burnLine 7 = .ok (.aload_n 0, 1) := by decide +kernel
theorem dX12_burnLine_8 : decode cX12_burnLine 8 = .ok (.iconst 1, 1) := by decide +kernel
theorem dX12_burnLine_9 : decode cX12_burnLine 9 = .ok (.invokevirtual 116, 3) := by decide +kernel
theorem dX12_burnLine_12 : decode cX12_burnLine 12 = .ok (.ireturn, 1) := by decide +kernel
theorem dX12_burnLine_13 : decode cX12_burnLine 13 = .ok (.aload_n 0, 1) := by decide +kernel
theorem dX12_burnLine_14 : decode cX12_burnLine 14 = .ok (.iconst 3, 1) := by decide +kernel
theorem dX12_burnLine_15 : decode cX12_burnLine 15 = .ok (.invokevirtual 131, 3) := by decide +kernel
theorem dX12_burnLine_18 : decode cX12_burnLine 18 = .ok (.iconst 3, 1) := by decide +kernel
theorem dX12_burnLine_19 : decode cX12_burnLine 19 = .ok (.isub, 1) := by decide +kernel
theorem dX12_burnLine_20 : decode cX12_burnLine 20 = .ok (.istore_n 1, 1) := by decide +kernel
theorem dX12_burnLine_21 : decode cX12_burnLine 21 = .ok (.iload_n 1, 1) := by decide +kernel
theorem dX12_burnLine_22 : decode cX12_burnLine 22 = .ok (.ifCond .ge 9, 3) := by decide +kernel
theorem dX12_burnLine_25 : decode cX12_burnLine 25 = .ok (.aload_n 0, 1) := by decide +kernel
theorem dX12_burnLine_26 : decode cX12_burnLine 26 = .ok (.iconst 3, 1) := by decide +kernel
theorem dX12_burnLine_27 : decode cX12_burnLine 27 = .ok (.invokevirtual 116, 3) := by decide +kernel
theorem dX12_burnLine_30 : decode cX12_burnLine 30 = .ok (.ireturn, 1) := by decide +kernel
theorem dX12_burnLine_31 : decode cX12_burnLine 31 = .ok (.aload_n 0, 1) := by decide +kernel
theorem dX12_burnLine_32 : decode cX12_burnLine 32 = .ok (.invokevirtual 121, 3) := by decide +kernel
theorem dX12_burnLine_35 : decode cX12_burnLine 35 = .ok (.aload_n 0, 1) := by decide +kernel
theorem dX12_burnLine_36 : decode cX12_burnLine 36 = .ok (.getfield 13, 3) := by decide +kernel
theorem dX12_burnLine_39 : decode cX12_burnLine 39 = .ok (.bipush 56, 2) := by decide +kernel
theorem dX12_burnLine_41 : decode cX12_burnLine 41 = .ok (.iload_n 1, 1) := by decide +kernel
theorem dX12_burnLine_42 : decode cX12_burnLine 42 = .ok (.iadd, 1) := by decide +kernel
theorem dX12_burnLine_43 : decode cX12_burnLine 43 = .ok (.iaload, 1) := by decide +kernel
theorem dX12_burnLine_44 : decode cX12_burnLine 44 = .ok (.istore_n 2, 1) := by decide +kernel
theorem dX12_burnLine_45 : decode cX12_burnLine 45 = .ok (.iconst 0, 1) := by decide +kernel
theorem dX12_burnLine_46 : decode cX12_burnLine 46 = .ok (.istore_n 3, 1) := by decide +kernel
theorem dX12_burnLine_47 : decode cX12_burnLine 47 = .ok (.iload_n 3, 1) := by decide +kernel
theorem dX12_burnLine_48 : decode cX12_burnLine 48 = .ok (.aload_n 0, 1) := by decide +kernel
theorem dX12_burnLine_49 : decode cX12_burnLine 49 = .ok (.getfield 13, 3) := by decide +kernel
theorem dX12_burnLine_52 : decode cX12_burnLine 52 = .ok (.bipush 9, 2) := by decide +kernel
theorem dX12_burnLine_54 : decode cX12_burnLine 54 = .ok (.iaload, 1) := by decide +kernel
theorem dX12_burnLine_55 : decode cX12_burnLine 55 = .ok (.if_icmp .ge 38, 3) := by decide +kernel
theorem dX12_burnLine_58 : decode cX12_burnLine 58 = .ok (.iload_n 2, 1) := by decide +kernel
theorem dX12_burnLine_59 : decode cX12_burnLine 59 = .ok (.aload_n 0, 1) := by decide +kernel
theorem dX12_burnLine_60 : decode cX12_burnLine 60 = .ok (.getfield 13, 3) := by decide +kernel
theorem dX12_burnLine_63 : decode cX12_burnLine 63 = .ok (.bipush 59, 2) := by decide +kernel
theorem dX12_burnLine_65 : decode cX12_burnLine 65 = .ok (.iload_n 3, 1) := by decide +kernel
theorem dX12_burnLine_66 : decode cX12_burnLine 66 = .ok (.iadd, 1) := by decide +kernel
theorem dX12_burnLine_67 : decode cX12_burnLine 67 = .ok (.iaload, 1) := by decide +kernel
theorem dX12_burnLine_68 : decode cX12_burnLine 68 = .ok (.iload_n 1, 1) := by decide +kernel
theorem dX12_burnLine_69 : decode cX12_burnLine 69 = .ok (.if_icmp .ne 15, 3) := by decide +kernel
theorem dX12_burnLine_72 : decode cX12_burnLine 72 = .ok (.aload_n 0, 1) := by decide +kernel
theorem dX12_burnLine_73 : decode cX12_burnLine 73 = .ok (.getfield 13, 3) := by decide +kernel
theorem dX12_burnLine_76 : decode cX12_burnLine 76 = .ok (.bipush 71, 2) := by decide +kernel
theorem dX12_burnLine_78 : decode cX12_burnLine 78 = .ok (.iload_n 3, 1) := by decide +kernel
theorem dX12_burnLine_79 : decode cX12_burnLine 79 = .ok (.iadd, 1) := by decide +kernel
theorem dX12_burnLine_80 : decode cX12_burnLine 80 = .ok (.iaload, 1) := by decide +kernel
theorem dX12_burnLine_81 : decode cX12_burnLine 81 = .ok (.goto 4, 3) := by decide +kernel
theorem dX12_burnLine_84 : decode cX12_burnLine 84 = .ok (.iconst 0, 1) := by decide +kernel
theorem dX12_burnLine_85 : decode cX12_burnLine 85 = .ok (.isub, 1) := by decide +kernel
theorem dX12_burnLine_86 : decode cX12_burnLine 86 = .ok (.istore_n 2, 1) := by decide +kernel
theorem dX12_burnLine_87 : decode cX12_burnLine 87 = .ok (.iinc 3 1, 3) := by decide +kernel
theorem dX12_burnLine_90 : decode cX12_burnLine 90 = .ok (.goto (-43), 3) := by decide +kernel
theorem dX12_burnLine_93 : decode cX12_burnLine 93 = .ok (.aload_n 0, 1) := by decide +kernel
theorem dX12_burnLine_94 : decode cX12_burnLine 94 = .ok (.bipush 71, 2) := by decide +kernel
theorem dX12_burnLine_96 : decode cX12_burnLine 96 = .ok (.aload_n 0, 1) := by decide +kernel
theorem dX12_burnLine_97 : decode cX12_burnLine 97 = .ok (.getfield 13, 3) := by decide +kernel
theorem dX12_burnLine_100 : decode cX12_burnLine 100 = .ok (.bipush 9, 2) := by decide +kernel
theorem dX12_burnLine_102 : decode cX12_burnLine 102 = .ok (.iaload, 1) := by decide +kernel
theorem dX12_burnLine_103 : decode cX12_burnLine 103 = .ok (.iadd, 1) := by decide +kernel
theorem dX12_burnLine_104 : decode cX12_burnLine 104 = .ok (.iconst 1, 1) := by decide +kernel
theorem dX12_burnLine_105 : decode cX12_burnLine 105 = .ok (.iload_n 2, 1) := by decide +kernel
theorem dX12_burnLine_106 : decode cX12_burnLine 106 = .ok (.invokevirtual 135, 3) := by decide +kernel
theorem dX12_burnLine_109 : decode cX12_burnLine 109 = .ok (.ifCond .ne 5, 3) := by decide +kernel
theorem dX12_burnLine_112 : decode cX12_burnLine 112 = .ok (.iconst 0, 1) := by decide +kernel
theorem dX12_burnLine_113 : decode cX12_burnLine 113 = .ok (.ireturn, 1) := by decide +kernel
theorem dX12_burnLine_114 : decode cX12_burnLine 114 = .ok (.aload_n 0, 1) := by decide +kernel
theorem dX12_burnLine_115 : decode cX12_burnLine 115 = .ok (.getfield 13, 3) := by decide +kernel
theorem dX12_burnLine_118 : decode cX12_burnLine 118 = .ok (.bipush 59, 2) := by decide +kernel
theorem dX12_burnLine_120 : decode cX12_burnLine 120 = .ok (.aload_n 0, 1) := by decide +kernel
theorem dX12_burnLine_121 : decode cX12_burnLine 121 = .ok (.getfield 13, 3) := by decide +kernel
theorem dX12_burnLine_124 : decode cX12_burnLine 124 = .ok (.bipush 9, 2) := by decide +kernel
theorem dX12_burnLine_126 : decode cX12_burnLine 126 = .ok (.iaload, 1) := by decide +kernel
theorem dX12_burnLine_127 : decode cX12_burnLine 127 = .ok (.iadd, 1) := by decide +kernel
theorem dX12_burnLine_128 : decode cX12_burnLine 128 = .ok (.iload_n 1, 1) := by decide +kernel
theorem dX12_burnLine_129 : decode cX12_burnLine 129 = .ok (.iastore, 1) := by decide +kernel
theorem dX12_burnLine_130 : decode cX12_burnLine 130 = .ok (.aload_n 0, 1) := by decide +kernel
theorem dX12_burnLine_131 : decode cX12_burnLine 131 = .ok (.getfield 13, 3) := by decide +kernel
theorem dX12_burnLine_134 : decode cX12_burnLine 134 = .ok (.bipush 9, 2) := by decide +kernel
theorem dX12_burnLine_136 : decode cX12_burnLine 136 = .ok (.dup2, 1) := by decide +kernel
theorem dX12_burnLine_137 : decode cX12_burnLine 137 = .ok (.iaload, 1) := by decide +kernel
theorem dX12_burnLine_138 : decode cX12_burnLine 138 = .ok (.iconst 1, 1) := by decide +kernel
theorem dX12_burnLine_139 : decode cX12_burnLine 139 = .ok (.iadd, 1) := by decide +kernel
theorem dX12_burnLine_140 : decode cX12_burnLine 140 = .ok (.iastore, 1) := by decide +kernel
theorem dX12_burnLine_141 : decode cX12_burnLine 141 = .ok (.iconst 1, 1) := by decide +kernel
theorem dX12_burnLine_142 : decode cX12_burnLine 142 = .ok (.ireturn, 1) := by decide +kernel
theorem dX12_isTooMany_0 : decode cX12_isTooMany 0 = .ok (.iload_n 1, 1) := by decide +kernel
theorem dX12_isTooMany_1 : decode cX12_isTooMany 1 = .ok (.tableswitch 157 2 8 #[43, 59, 157, 76, 93, 110, 128], 43) := by decide +kernel
theorem dX12_isTooMany_44 : decode cX12_isTooMany 44 = .ok (.aload_n 0, 1) := by decide +kernel
theorem dX12_isTooMany_45 : decode cX12_isTooMany 45 = .ok (.getfield 13, 3) := by decide +kernel
theorem dX12_isTooMany_48 : decode cX12_isTooMany 48 = .ok (.iconst 4, 1) := by decide +kernel
theorem dX12_isTooMany_49 : decode cX12_isTooMany 49 = .ok (.iaload, 1) := by decide +kernel
theorem dX12_isTooMany_50 : decode cX12_isTooMany 50 = .ok (.iconst 3, 1) := by decide +kernel
theorem dX12_isTooMany_51 : decode cX12_isTooMany 51 = .ok (.if_icmp .ne 7, 3) := by decide +kernel
theorem dX12_isTooMany_54 : decode cX12_isTooMany 54 = .ok (.iconst 1, 1) := by decide +kernel
theorem dX12_isTooMany_55 : decode cX12_isTooMany 55 = .ok (.goto 4, 3) := by decide +kernel
theorem dX12_isTooMany_58 : decode cX12_isTooMany 58 = .ok (.iconst 0, 1) := by decide +kernel
theorem dX12_isTooMany_59 : decode cX12_isTooMany 59 = .ok (.ireturn, 1) := by decide +kernel
theorem dX12_isTooMany_60 : decode cX12_isTooMany 60 = .ok (.aload_n 0, 1) := by decide +kernel
theorem dX12_isTooMany_61 : decode cX12_isTooMany 61 = .ok (.getfield 13, 3) := by decide +kernel
theorem dX12_isTooMany_64 : decode cX12_isTooMany 64 = .ok (.iconst 5, 1) := by decide +kernel
theorem dX12_isTooMany_65 : decode cX12_isTooMany 65 = .ok (.iaload, 1) := by decide +kernel
theorem dX12_isTooMany_66 : decode cX12_isTooMany 66 = .ok (.bipush 6, 2) := by decide +kernel
theorem dX12_isTooMany_68 : decode cX12_isTooMany 68 = .ok (.if_icmp .ne 7, 3) := by decide +kernel
theorem dX12_isTooMany_71 : decode cX12_isTooMany 71 = .ok (.iconst 1, 1) := by decide +kernel
theorem dX12_isTooMany_72 : decode cX12_isTooMany 72 = .ok (.goto 4, 3) := by decide +kernel
theorem dX12_isTooMany_75 : decode cX12_isTooMany 75 = .ok (.iconst 0, 1) := by decide +kernel
theorem dX12_isTooMany_76 : decode cX12_isTooMany 76 = .ok (.ireturn, 1) := by decide +kernel
theorem dX12_isTooMany_77 : decode cX12_isTooMany 77 = .ok (.aload_n 0, 1) := by decide +kernel
theorem dX12_isTooMany_78 : decode cX12_isTooMany 78 = .ok (.getfield 13, 3) := by decide +kernel
theorem dX12_isTooMany_81 : decode cX12_isTooMany 81 = .ok (.bipush 7, 2) := by decide +kernel
theorem dX12_isTooMany_83 : decode cX12_isTooMany 83 = .ok (.iaload, 1) := by decide +kernel
theorem dX12_isTooMany_84 : decode cX12_isTooMany 84 = .ok (.iconst 2, 1) := by decide +kernel
theorem dX12_isTooMany_85 : decode cX12_isTooMany 85 = .ok (.if_icmp .ne 7, 3) := by decide +kernel
theorem dX12_isTooMany_88 : decode cX12_isTooMany 88 = .ok (.iconst 1, 1) := by decide +kernel
theorem dX12_isTooMany_89 : decode cX12_isTooMany 89 = .ok (.goto 4, 3) := by decide +kernel
theorem dX12_isTooMany_92 : decode cX12_isTooMany 92 = .ok (.iconst 0, 1) := by decide +kernel
theorem dX12_isTooMany_93 : decode cX12_isTooMany 93 = .ok (.ireturn, 1) := by decide +kernel
theorem dX12_isTooMany_94 : decode cX12_isTooMany 94 = .ok (.aload_n 0, 1) := by decide +kernel
theorem dX12_isTooMany_95 : decode cX12_isTooMany 95 = .ok (.getfield 13, 3) := by decide +kernel
theorem dX12_isTooMany_98 : decode cX12_isTooMany 98 = .ok (.bipush 8, 2) := by decide +kernel
theorem dX12_isTooMany_100 : decode cX12_isTooMany 100 = .ok (.iaload, 1) := by decide +kernel
theorem dX12_isTooMany_101 : decode cX12_isTooMany 101 = .ok (.iconst 3, 1) := by decide +kernel
theorem dX12_isTooMany_102 : decode cX12_isTooMany 102 = .ok (.if_icmp .ne 7, 3) := by decide +kernel
theorem dX12_isTooMany_105 : decode cX12_isTooMany 105 = .ok (.iconst 1, 1) := by decide +kernel
theorem dX12_isTooMany_106 : decode cX12_isTooMany 106 = .ok (.goto 4, 3) := by decide +kernel
theorem dX12_isTooMany_109 : decode cX12_isTooMany 109 = .ok (.iconst 0, 1) := by decide +kernel
theorem dX12_isTooMany_110 : decode cX12_isTooMany 110 = .ok (.ireturn, 1) := by decide +kernel
theorem dX12_isTooMany_111 : decode cX12_isTooMany 111 = .ok (.aload_n 0, 1) := by decide +kernel
theorem dX12_isTooMany_112 : decode cX12_isTooMany 112 = .ok (.getfield 13, 3) := by decide +kernel
theorem dX12_isTooMany_115 : decode cX12_isTooMany 115 = .ok (.bipush 9, 2) := by decide +kernel
theorem dX12_isTooMany_117 : decode cX12_isTooMany 117 = .ok (.iaload, 1) := by decide +kernel
theorem dX12_isTooMany_118 : decode cX12_isTooMany 118 = .ok (.bipush 12, 2) := by decide +kernel
theorem dX12_isTooMany_120 : decode cX12_isTooMany 120 = .ok (.if_icmp .ne 7, 3) := by decide +kernel
theorem dX12_isTooMany_123 : decode cX12_isTooMany 123 = .ok (.iconst 1, 1) := by decide +kernel
theorem dX12_isTooMany_124 : decode cX12_isTooMany 124 = .ok (.goto 4, 3) := by decide +kernel
theorem dX12_isTooMany_127 : decode cX12_isTooMany 127 = .ok (.iconst 0, 1) := by decide +kernel
theorem dX12_isTooMany_128 : decode cX12_isTooMany 128 = .ok (.ireturn, 1) := by decide +kernel
theorem dX12_isTooMany_129 : decode cX12_isTooMany 129 = .ok (.aload_n 0, 1) := by decide +kernel
theorem dX12_isTooMany_130 : decode cX12_isTooMany 130 = .ok (.getfield 13, 3) := by decide +kernel
theorem dX12_isTooMany_133 : decode cX12_isTooMany 133 = .ok (.bipush 9, 2) := by decide +kernel
theorem dX12_isTooMany_135 : decode cX12_isTooMany 135 = .ok (.iaload, 1) := by decide +kernel
theorem dX12_isTooMany_136 : decode cX12_isTooMany 136 = .ok (.bipush 12, 2) := by decide +kernel
theorem dX12_isTooMany_138 : decode cX12_isTooMany 138 = .ok (.if_icmp .eq 14, 3) := by decide +kernel
theorem dX12_isTooMany_141 : decode cX12_isTooMany 141 = .ok (.aload_n 0, 1) := by decide +kernel
theorem dX12_isTooMany_142 : decode cX12_isTooMany 142 = .ok (.getfield 13, 3) := by decide +kernel
theorem dX12_isTooMany_145 : decode cX12_isTooMany 145 = .ok (.bipush 10, 2) := by decide +kernel
theorem dX12_isTooMany_147 : decode cX12_isTooMany 147 = .ok (.iaload, 1) := by decide +kernel
theorem dX12_isTooMany_148 : decode cX12_isTooMany 148 = .ok (.iconst 4, 1) := by decide +kernel
theorem dX12_isTooMany_149 : decode cX12_isTooMany 149 = .ok (.if_icmp .ne 7, 3) := by decide +kernel
theorem dX12_isTooMany_152 : decode cX12_isTooMany 152 = .ok (.iconst 1, 1) := by decide +kernel
theorem dX12_isTooMany_153 : decode cX12_isTooMany 153 = .ok (.goto 4, 3) := by decide +kernel
theorem dX12_isTooMany_156 : decode cX12_isTooMany 156 = .ok (.iconst 0, 1) := by decide +kernel
theorem dX12_isTooMany_157 : decode cX12_isTooMany 157 = .ok (.ireturn, 1) := by decide +kernel
theorem dX12_isTooMany_158 : decode cX12_isTooMany 158 = .ok (.iconst 0, 1) := by decide +kernel
theorem dX12_isTooMany_159 : decode cX12_isTooMany 159 = .ok (.ireturn, 1) := by decide +kernel
theorem dX12_planeLine_0 : decode cX12_planeLine 0 = .ok (.aload_n 0, 1) := by decide +kernel
theorem dX12_planeLine_1 : decode cX12_planeLine 1 = .ok (.invokevirtual 121, 3) := by decide +kernel
theorem dX12_planeLine_4 : decode cX12_planeLine 4 = .ok (.iload_n 1, 1) := by decide +kernel
theorem dX12_planeLine_5 : decode cX12_planeLine 5 = .ok (.tableswitch 111 0 7 #[47, 76, 81, 86, 91, 96, 101, 106], 47) := by decide +kernel
theorem dX12_planeLine_52 : decode cX12_planeLine 52 = .ok (.aload_n 0, 1) := by decide +kernel
theorem dX12_planeLine_53 : decode cX12_planeLine 53 = .ok (.iconst 0, 1) := by decide +kernel
theorem dX12_planeLine_54 : decode cX12_planeLine 54 = .ok (.iconst 1, 1) := by decide +kernel
theorem dX12_planeLine_55 : decode cX12_planeLine 55 = .ok (.sipush 999, 3) := by decide +kernel
theorem dX12_planeLine_58 : decode cX12_planeLine 58 = .ok (.invokevirtual 135, 3) := by decide +kernel
theorem dX12_planeLine_61 : decode cX12_planeLine 61 = .ok (.ifCond .eq 18, 3) := by decide +kernel
theorem dX12_planeLine_64 : decode cX12_planeLine 64 = .ok (.aload_n 0, 1) := by decide +kernel
theorem dX12_planeLine_65 : decode cX12_planeLine 65 = .ok (.iconst 1, 1) := by decide +kernel
theorem dX12_planeLine_66 : decode cX12_planeLine 66 = .ok (.iconst 0, 1) := by decide +kernel
theorem dX12_planeLine_67 : decode cX12_planeLine 67 = .ok (.bipush 99, 2) := by decide +kernel
theorem dX12_planeLine_69 : decode cX12_planeLine 69 = .ok (.invokevirtual 135, 3) := by decide +kernel
theorem dX12_planeLine_72 : decode cX12_planeLine 72 = .ok (.ifCond .eq 7, 3) := by decide +kernel
theorem dX12_planeLine_75 : decode cX12_planeLine 75 = .ok (.iconst 1, 1) := by decide +kernel
theorem dX12_planeLine_76 : decode cX12_planeLine 76 = .ok (.goto 4, 3) := by decide +kernel
theorem dX12_planeLine_79 : decode cX12_planeLine 79 = .ok (.iconst 0, 1) := by decide +kernel
theorem dX12_planeLine_80 : decode cX12_planeLine 80 = .ok (.ireturn, 1) := by decide +kernel
theorem dX12_planeLine_81 : decode cX12_planeLine 81 = .ok (.aload_n 0, 1) := by decide +kernel
theorem dX12_planeLine_82 : decode cX12_planeLine 82 = .ok (.invokevirtual 141, 3) := by decide +kernel
theorem dX12_planeLine_85 : decode cX12_planeLine 85 = .ok (.ireturn, 1) := by decide +kernel
theorem dX12_planeLine_86 : decode cX12_planeLine 86 = .ok (.aload_n 0, 1) := by decide +kernel
theorem dX12_planeLine_87 : decode cX12_planeLine 87 = .ok (.invokevirtual 144, 3) := by decide +kernel
theorem dX12_planeLine_90 : decode cX12_planeLine 90 = .ok (.ireturn, 1) := by decide +kernel
theorem dX12_planeLine_91 : decode cX12_planeLine 91 = .ok (.aload_n 0, 1) := by decide +kernel
theorem dX12_planeLine_92 : decode cX12_planeLine 92 = .ok (.invokevirtual 147, 3) := by decide +kernel
theorem dX12_planeLine_95 : decode cX12_planeLine 95 = .ok (.ireturn, 1) := by decide +kernel
theorem dX12_planeLine_96 : decode cX12_planeLine 96 = .ok (.aload_n 0, 1) := by decide +kernel
theorem dX12_planeLine_97 : decode cX12_planeLine 97 = .ok (.invokevirtual 150, 3) := by decide +kernel
theorem dX12_planeLine_100 : decode cX12_planeLine 100 = .ok (.ireturn, 1) := by decide +kernel
theorem dX12_planeLine_101 : decode cX12_planeLine 101 = .ok (.aload_n 0, 1) := by decide +kernel
theorem dX12_planeLine_102 : decode cX12_planeLine 102 = .ok (.invokevirtual 153, 3) := by decide +kernel
theorem dX12_planeLine_105 : decode cX12_planeLine 105 = .ok (.ireturn, 1) := by decide +kernel
theorem dX12_planeLine_106 : decode cX12_planeLine 106 = .ok (.aload_n 0, 1) := by decide +kernel
theorem dX12_planeLine_107 : decode cX12_planeLine 107 = .ok (.invokevirtual 156, 3) := by decide +kernel
theorem dX12_planeLine_110 : decode cX12_planeLine 110 = .ok (.ireturn, 1) := by decide +kernel
theorem dX12_planeLine_111 : decode cX12_planeLine 111 = .ok (.aload_n 0, 1) := by decide +kernel
theorem dX12_planeLine_112 : decode cX12_planeLine 112 = .ok (.invokevirtual 159, 3) := by decide +kernel
theorem dX12_planeLine_115 : decode cX12_planeLine 115 = .ok (.ireturn, 1) := by decide +kernel
theorem dX12_planeLine_116 : decode cX12_planeLine 116 = .ok (.aload_n 0, 1) := by decide +kernel
theorem dX12_planeLine_117 : decode cX12_planeLine 117 = .ok (.getfield 13, 3) := by decide +kernel
theorem dX12_planeLine_120 : decode cX12_planeLine 120 = .ok (.bipush 59, 2) := by decide +kernel
theorem dX12_planeLine_122 : decode cX12_planeLine 122 = .ok (.aload_n 0, 1) := by decide +kernel
theorem dX12_planeLine_123 : decode cX12_planeLine 123 = .ok (.getfield 13, 3) := by decide +kernel
theorem dX12_planeLine_126 : decode cX12_planeLine 126 = .ok (.bipush 9, 2) := by decide +kernel
theorem dX12_planeLine_128 : decode cX12_planeLine 128 = .ok (.iaload, 1) := by decide +kernel
theorem dX12_planeLine_129 : decode cX12_planeLine 129 = .ok (.iadd, 1) := by decide +kernel
theorem dX12_planeLine_130 : decode cX12_planeLine 130 = .ok (.iconst (-1), 1) := by decide +kernel
theorem dX12_planeLine_131 : decode cX12_planeLine 131 = .ok (.iastore, 1) := by decide +kernel
theorem dX12_planeLine_132 : decode cX12_planeLine 132 = .ok (.aload_n 0, 1) := by decide +kernel
theorem dX12_planeLine_133 : decode cX12_planeLine 133 = .ok (.getfield 13, 3) := by decide +kernel
theorem dX12_planeLine_136 : decode cX12_planeLine 136 = .ok (.bipush 9, 2) := by decide +kernel
theorem dX12_planeLine_138 : decode cX12_planeLine 138 = .ok (.dup2, 1) := by decide +kernel
theorem dX12_planeLine_139 : decode cX12_planeLine 139 = .ok (.iaload, 1) := by decide +kernel
theorem dX12_planeLine_140 : decode cX12_planeLine 140 = .ok (.iconst 1, 1) := by decide +kernel
theorem dX12_planeLine_141 : decode cX12_planeLine 141 = .ok (.iadd, 1) := by decide +kernel
theorem dX12_planeLine_142 : decode cX12_planeLine 142 = .ok (.iastore, 1) := by decide +kernel
theorem dX12_planeLine_143 : decode cX12_planeLine 143 = .ok (.aload_n 0, 1) := by decide +kernel
theorem dX12_planeLine_144 : decode cX12_planeLine 144 = .ok (.getfield 13, 3) := by decide +kernel
theorem dX12_planeLine_147 : decode cX12_planeLine 147 = .ok (.bipush 10, 2) := by decide +kernel
theorem dX12_planeLine_149 : decode cX12_planeLine 149 = .ok (.dup2, 1) := by decide +kernel
theorem dX12_planeLine_150 : decode cX12_planeLine 150 = .ok (.iaload, 1) := by decide +kernel
theorem dX12_planeLine_151 : decode cX12_planeLine 151 = .ok (.iconst 1, 1) := by decide +kernel
theorem dX12_planeLine_152 : decode cX12_planeLine 152 = .ok (.iadd, 1) := by decide +kernel
theorem dX12_planeLine_153 : decode cX12_planeLine 153 = .ok (.iastore, 1) := by decide +kernel
theorem dX12_planeLine_154 : decode cX12_planeLine 154 = .ok (.iconst 1, 1) := by decide +kernel
theorem dX12_planeLine_155 : decode cX12_planeLine 155 = .ok (.ireturn, 1) := by decide +kernel
theorem dX12_readsPlane_0 : decode cX12_readsPlane 0 = .ok (.aload_n 0, 1) := by decide +kernel
theorem dX12_readsPlane_1 : decode cX12_readsPlane 1 = .ok (.sipush 500, 3) := by decide +kernel
theorem dX12_readsPlane_4 : decode cX12_readsPlane 4 = .ok (.invokevirtual 162, 3) := by decide +kernel
theorem dX12_readsPlane_7 : decode cX12_readsPlane 7 = .ok (.ifCond .ne 5, 3) := by decide +kernel
theorem dX12_readsPlane_10 : decode cX12_readsPlane 10 = .ok (.iconst 0, 1) := by decide +kernel
theorem dX12_readsPlane_11 : decode cX12_readsPlane 11 = .ok (.ireturn, 1) := by decide +kernel
theorem dX12_readsPlane_12 : decode cX12_readsPlane 12 = .ok (.aload_n 0, 1) := by decide +kernel
theorem dX12_readsPlane_13 : decode cX12_readsPlane 13 = .ok (.getfield 13, 3) := by decide +kernel
theorem dX12_readsPlane_16 : decode cX12_readsPlane 16 = .ok (.invokestatic 55, 3) := by decide +kernel
theorem dX12_readsPlane_19 : decode cX12_readsPlane 19 = .ok (.aload_n 0, 1) := by decide +kernel
theorem dX12_readsPlane_20 : decode cX12_readsPlane 20 = .ok (.iconst 0, 1) := by decide +kernel
theorem dX12_readsPlane_21 : decode cX12_readsPlane 21 = .ok (.putfield 165, 3) := by decide +kernel
theorem dX12_readsPlane_24 : decode cX12_readsPlane 24 = .ok (.aload_n 0, 1) := by decide +kernel
theorem dX12_readsPlane_25 : decode cX12_readsPlane 25 = .ok (.iconst 0, 1) := by decide +kernel
theorem dX12_readsPlane_26 : decode cX12_readsPlane 26 = .ok (.putfield 169, 3) := by decide +kernel
theorem dX12_readsPlane_29 : decode cX12_readsPlane 29 = .ok (.aload_n 0, 1) := by decide +kernel
theorem dX12_readsPlane_30 : decode cX12_readsPlane 30 = .ok (.getfield 94, 3) := by decide +kernel
theorem dX12_readsPlane_33 : decode cX12_readsPlane 33 = .ok (.ifCond .eq 171, 3) := by decide +kernel
theorem dX12_readsPlane_36 : decode cX12_readsPlane 36 = .ok (.aload_n 0, 1) := by decide +kernel
theorem dX12_readsPlane_37 : decode cX12_readsPlane 37 = .ok (.invokevirtual 113, 3) := by decide +kernel
theorem dX12_readsPlane_40 : decode cX12_readsPlane 40 = .ok (.istore_n 1, 1) := by decide +kernel
theorem dX12_readsPlane_41 : decode cX12_readsPlane 41 = .ok (.iload_n 1, 1) := by decide +kernel
theorem dX12_readsPlane_42 : decode cX12_readsPlane 42 = .ok (.ifCond .lt 9, 3) := by decide +kernel
theorem dX12_readsPlane_45 : decode cX12_readsPlane 45 = .ok (.iload_n 1, 1) := by decide +kernel
theorem dX12_readsPlane_46 : decode cX12_readsPlane 46 = .ok (.bipush 8, 2) := by decide +kernel
theorem dX12_readsPlane_48 : decode cX12_readsPlane 48 = .ok (.if_icmp .le 9, 3) := by decide +kernel
theorem dX12_readsPlane_51 : decode cX12_readsPlane 51 = .ok (.aload_n 0, 1) := by decide +kernel
theorem dX12_readsPlane_52 : decode cX12_readsPlane 52 = .ok (.iconst 1, 1) := by decide +kernel
theorem dX12_readsPlane_53 : decode cX12_readsPlane 53 = .ok (.invokevirtual 116, 3) := by decide +kernel
theorem dX12_readsPlane_56 : decode cX12_readsPlane 56 = .ok (.ireturn, 1) := by decide +kernel
theorem dX12_readsPlane_57 : decode cX12_readsPlane 57 = .ok (.iload_n 1, 1) := by decide +kernel
theorem dX12_readsPlane_58 : decode cX12_readsPlane 58 = .ok (.ifCond .ne 10, 3) := by decide +kernel
theorem dX12_readsPlane_61 : decode cX12_readsPlane 61 = .ok (.aload_n 0, 1) := by decide +kernel
theorem dX12_readsPlane_62 : decode cX12_readsPlane 62 = .ok (.getfield 165, 3) := by decide +kernel
theorem dX12_readsPlane_65 : decode cX12_readsPlane 65 = .ok (.ifCond .ne 15, 3) := by decide +kernel
theorem dX12_readsPlane_68 : decode cX12_readsPlane 68 = .ok (.iload_n 1, 1) := by decide +kernel
theorem dX12_readsPlane_69 : decode cX12_readsPlane 69 = .ok (.iconst 1, 1) := by decide +kernel
theorem dX12_readsPlane_70 : decode cX12_readsPlane 70 = .ok (.if_icmp .ne 16, 3) := by decide +kernel
theorem dX12_readsPlane_73 : decode cX12_readsPlane 73 = .ok (.aload_n 0, 1) := by decide +kernel
theorem dX12_readsPlane_74 : decode cX12_readsPlane 74 = .ok (.getfield 169, 3) := by decide +kernel
theorem dX12_readsPlane_77 : decode cX12_readsPlane 77 = .ok (.ifCond .eq 9, 3) := by decide +kernel
theorem dX12_readsPlane_80 : decode cX12_readsPlane 80 = .ok (.aload_n 0, 1) := by decide +kernel
theorem dX12_readsPlane_81 : decode cX12_readsPlane 81 = .ok (.iconst 3, 1) := by decide +kernel
theorem dX12_readsPlane_82 : decode cX12_readsPlane 82 = .ok (.invokevirtual 116, 3) := by decide +kernel
theorem dX12_readsPlane_85 : decode cX12_readsPlane 85 = .ok (.ireturn, 1) := by decide +kernel
theorem dX12_readsPlane_86 : decode cX12_readsPlane 86 = .ok (.aload_n 0, 1) := by decide +kernel
theorem dX12_readsPlane_87 : decode cX12_readsPlane 87 = .ok (.iload_n 1, 1) := by decide +kernel
theorem dX12_readsPlane_88 : decode cX12_readsPlane 88 = .ok (.invokevirtual 172, 3) := by decide +kernel
theorem dX12_readsPlane_91 : decode cX12_readsPlane 91 = .ok (.ifCond .eq 9, 3) := by decide +kernel
theorem dX12_readsPlane_94 : decode cX12_readsPlane 94 = .ok (.aload_n 0, 1) := by decide +kernel
theorem dX12_readsPlane_95 : decode cX12_readsPlane 95 = .ok (.iconst 4, 1) := by decide +kernel
theorem dX12_readsPlane_96 : decode cX12_readsPlane 96 = .ok (.invokevirtual 116, 3) := by decide +kernel
theorem dX12_readsPlane_99 : decode cX12_readsPlane 99 = .ok (.ireturn, 1) := by decide +kernel
theorem dX12_readsPlane_100 : decode cX12_readsPlane 100 = .ok (.iload_n 1, 1) := by decide +kernel
theorem dX12_readsPlane_101 : decode cX12_readsPlane 101 = .ok (.iconst 3, 1) := by decide +kernel
theorem dX12_readsPlane_102 : decode cX12_readsPlane 102 = .ok (.if_icmp .ne 12, 3) := by decide +kernel
theorem dX12_readsPlane_105 : decode cX12_readsPlane 105 = .ok (.aload_n 0, 1) := by decide +kernel
theorem dX12_readsPlane_106 : decode cX12_readsPlane 106 = .ok (.getfield 13, 3) := by decide +kernel
theorem dX12_readsPlane_109 : decode cX12_readsPlane 109 = .ok (.iconst 4, 1) := by decide +kernel
theorem dX12_readsPlane_110 : decode cX12_readsPlane 110 = .ok (.iaload, 1) := by decide +kernel
theorem dX12_readsPlane_111 : decode cX12_readsPlane 111 = .ok (.ifCond .eq 15, 3) := by decide +kernel
theorem dX12_readsPlane_114 : decode cX12_readsPlane 114 = .ok (.iload_n 1, 1) := by decide +kernel
theorem dX12_readsPlane_115 : decode cX12_readsPlane 115 = .ok (.iconst 4, 1) := by decide +kernel
theorem dX12_readsPlane_116 : decode cX12_readsPlane 116 = .ok (.if_icmp .ne 16, 3) := by decide +kernel
theorem dX12_readsPlane_119 : decode cX12_readsPlane 119 = .ok (.aload_n 0, 1) := by decide +kernel
theorem dX12_readsPlane_120 : decode cX12_readsPlane 120 = .ok (.invokevirtual 175, 3) := by decide +kernel
theorem dX12_readsPlane_123 : decode cX12_readsPlane 123 = .ok (.ifCond .ne 9, 3) := by decide +kernel
theorem dX12_readsPlane_126 : decode cX12_readsPlane 126 = .ok (.aload_n 0, 1) := by decide +kernel
theorem dX12_readsPlane_127 : decode cX12_readsPlane 127 = .ok (.iconst 5, 1) := by decide +kernel
theorem dX12_readsPlane_128 : decode cX12_readsPlane 128 = .ok (.invokevirtual 116, 3) := by decide +kernel
theorem dX12_readsPlane_131 : decode cX12_readsPlane 131 = .ok (.ireturn, 1) := by decide +kernel
theorem dX12_readsPlane_132 : decode cX12_readsPlane 132 = .ok (.aload_n 0, 1) := by decide +kernel
theorem dX12_readsPlane_133 : decode cX12_readsPlane 133 = .ok (.aload_n 0, 1) := by decide +kernel
theorem dX12_readsPlane_134 : decode cX12_readsPlane 134 = .ok (.getfield 165, 3) := by decide +kernel
theorem dX12_readsPlane_137 : decode cX12_readsPlane 137 = .ok (.ifCond .ne 7, 3) := by decide +kernel
theorem dX12_readsPlane_140 : decode cX12_readsPlane 140 = .ok (.iload_n 1, 1) := by decide +kernel
theorem dX12_readsPlane_141 : decode cX12_readsPlane 141 = .ok (.ifCond .ne 7, 3) := by decide +kernel
theorem dX12_readsPlane_144 : decode cX12_readsPlane 144 = .ok (.iconst 1, 1) := by decide +kernel
theorem dX12_readsPlane_145 : decode cX12_readsPlane 145 = .ok (.goto 4, 3) := by decide +kernel
theorem dX12_readsPlane_148 : decode cX12_readsPlane 148 = .ok (.iconst 0, 1) := by decide +kernel
theorem dX12_readsPlane_149 : decode cX12_readsPlane 149 = .ok (.putfield 165, 3) := by decide +kernel
theorem dX12_readsPlane_152 : decode cX12_readsPlane 152 = .ok (.aload_n 0, 1) := by decide +kernel
theorem dX12_readsPlane_153 : decode cX12_readsPlane 153 = .ok (.aload_n 0, 1) := by decide +kernel
theorem dX12_readsPlane_154 : decode cX12_readsPlane 154 = .ok (.getfield 169, 3) := by decide +kernel
theorem dX12_readsPlane_157 : decode cX12_readsPlane 157 = .ok (.ifCond .ne 8, 3) := by decide +kernel
theorem dX12_readsPlane_160 : decode cX12_readsPlane 160 = .ok (.iload_n 1, 1) := by decide +kernel
theorem dX12_readsPlane_161 : decode cX12_readsPlane 161 = .ok (.iconst 1, 1) := by decide +kernel
theorem dX12_readsPlane_162 : decode cX12_readsPlane 162 = .ok (.if_icmp .ne 7, 3) := by decide +kernel
theorem dX12_readsPlane_165 : decode cX12_readsPlane 165 = .ok (.iconst 1, 1) := by decide +kernel
theorem dX12_readsPlane_166 : decode cX12_readsPlane 166 = .ok (.goto 4, 3) := by decide +kernel
theorem dX12_readsPlane_169 : decode cX12_readsPlane 169 = .ok (.iconst 0, 1) := by decide +kernel
theorem dX12_readsPlane_170 : decode cX12_readsPlane 170 = .ok (.putfield 169, 3) := by decide +kernel
theorem dX12_readsPlane_173 : decode cX12_readsPlane 173 = .ok (.aload_n 0, 1) := by decide +kernel
theorem dX12_readsPlane_174 : decode cX12_readsPlane 174 = .ok (.iload_n 1, 1) := by decide +kernel
theorem dX12_readsPlane_175 : decode cX12_readsPlane 175 = .ok (.invokevirtual 178, 3) := by decide +kernel
theorem dX12_readsPlane_178 : decode cX12_readsPlane 178 = .ok (.ifCond .ne 5, 3) := by decide +kernel
theorem dX12_readsPlane_181 : decode cX12_readsPlane 181 = .ok (.iconst 0, 1) := by decide +kernel
theorem dX12_readsPlane_182 : decode cX12_readsPlane 182 = .ok (.ireturn, 1) := by decide +kernel
theorem dX12_readsPlane_183 : decode cX12_readsPlane 183 = .ok (.aload_n 0, 1) := by decide +kernel
theorem dX12_readsPlane_184 : decode cX12_readsPlane 184 = .ok (.getfield 94, 3) := by decide +kernel
theorem dX12_readsPlane_187 : decode cX12_readsPlane 187 = .ok (.iconst 3, 1) := by decide +kernel
theorem dX12_readsPlane_188 : decode cX12_readsPlane 188 = .ok (.if_icmp .eq 9, 3) := by decide +kernel
theorem dX12_readsPlane_191 : decode cX12_readsPlane 191 = .ok (.aload_n 0, 1) := by decide +kernel
theorem dX12_readsPlane_192 : decode cX12_readsPlane 192 = .ok (.iconst 1, 1) := by decide +kernel
theorem dX12_readsPlane_193 : decode cX12_readsPlane 193 = .ok (.invokevirtual 116, 3) := by decide +kernel
theorem dX12_readsPlane_196 : decode cX12_readsPlane 196 = .ok (.ireturn, 1) := by decide +kernel
theorem dX12_readsPlane_197 : decode cX12_readsPlane 197 = .ok (.aload_n 0, 1) := by decide +kernel
theorem dX12_readsPlane_198 : decode cX12_readsPlane 198 = .ok (.invokevirtual 121, 3) := by decide +kernel
theorem dX12_readsPlane_201 : decode cX12_readsPlane 201 = .ok (.goto (-172), 3) := by decide +kernel
theorem dX12_readsPlane_204 : decode cX12_readsPlane 204 = .ok (.iconst 1, 1) := by decide +kernel
theorem dX12_readsPlane_205 : decode cX12_readsPlane 205 = .ok (.ireturn, 1) := by decide +kernel
theorem dX12_plane_0 : decode cX12_plane 0 = .ok (.aload_n 0, 1) := by decide +kernel
theorem dX12_plane_1 : decode cX12_plane 1 = .ok (.invokevirtual 181, 3) := by decide +kernel
theorem dX12_plane_4 : decode cX12_plane 4 = .ok (.ifCond .ne 12, 3) := by decide +kernel
theorem dX12_plane_7 : decode cX12_plane 7 = .ok (.sipush (-1000), 3) := by decide +kernel
theorem dX12_plane_10 : decode cX12_plane 10 = .ok (.aload_n 0, 1) := by decide +kernel
theorem dX12_plane_11 : decode cX12_plane 11 = .ok (.getfield 80, 3) := by decide +kernel
theorem dX12_plane_14 : decode cX12_plane 14 = .ok (.isub, 1) := by decide +kernel
theorem dX12_plane_15 : decode cX12_plane 15 = .ok (.ireturn, 1) := by decide +kernel
theorem dX12_plane_16 : decode cX12_plane 16 = .ok (.aload_n 0, 1) := by decide +kernel
theorem dX12_plane_17 : decode cX12_plane 17 = .ok (.getfield 13, 3) := by decide +kernel
theorem dX12_plane_20 : decode cX12_plane 20 = .ok (.bipush 11, 2) := by decide +kernel
theorem dX12_plane_22 : decode cX12_plane 22 = .ok (.aload_n 0, 1) := by decide +kernel
theorem dX12_plane_23 : decode cX12_plane 23 = .ok (.getfield 7, 3) := by decide +kernel
theorem dX12_plane_26 : decode cX12_plane 26 = .ok (.bipush 11, 2) := by decide +kernel
theorem dX12_plane_28 : decode cX12_plane 28 = .ok (.iaload, 1) := by decide +kernel
theorem dX12_plane_29 : decode cX12_plane 29 = .ok (.iastore, 1) := by decide +kernel
theorem dX12_plane_30 : decode cX12_plane 30 = .ok (.aload_n 0, 1) := by decide +kernel
theorem dX12_plane_31 : decode cX12_plane 31 = .ok (.getfield 13, 3) := by decide +kernel
theorem dX12_plane_34 : decode cX12_plane 34 = .ok (.bipush 12, 2) := by decide +kernel
theorem dX12_plane_36 : decode cX12_plane 36 = .ok (.aload_n 0, 1) := by decide +kernel
theorem dX12_plane_37 : decode cX12_plane 37 = .ok (.getfield 7, 3) := by decide +kernel
theorem dX12_plane_40 : decode cX12_plane 40 = .ok (.bipush 12, 2) := by decide +kernel
theorem dX12_plane_42 : decode cX12_plane 42 = .ok (.iaload, 1) := by decide +kernel
theorem dX12_plane_43 : decode cX12_plane 43 = .ok (.iastore, 1) := by decide +kernel
theorem dX12_plane_44 : decode cX12_plane 44 = .ok (.bipush 83, 2) := by decide +kernel
theorem dX12_plane_46 : decode cX12_plane 46 = .ok (.istore_n 1, 1) := by decide +kernel
theorem dX12_plane_47 : decode cX12_plane 47 = .ok (.iload_n 1, 1) := by decide +kernel
theorem dX12_plane_48 : decode cX12_plane 48 = .ok (.sipush 143, 3) := by decide +kernel
theorem dX12_plane_51 : decode cX12_plane 51 = .ok (.if_icmp .ge 21, 3) := by decide +kernel
theorem dX12_plane_54 : decode cX12_plane 54 = .ok (.aload_n 0, 1) := by decide +kernel
theorem dX12_plane_55 : decode cX12_plane 55 = .ok (.getfield 13, 3) := by decide +kernel
theorem dX12_plane_58 : decode cX12_plane 58 = .ok (.iload_n 1, 1) := by decide +kernel
theorem dX12_plane_59 : decode cX12_plane 59 = .ok (.aload_n 0, 1) := by decide +kernel
theorem dX12_plane_60 : decode cX12_plane 60 = .ok (.getfield 7, 3) := by decide +kernel
theorem dX12_plane_63 : decode cX12_plane 63 = .ok (.iload_n 1, 1) := by decide +kernel
theorem dX12_plane_64 : decode cX12_plane 64 = .ok (.iaload, 1) := by decide +kernel
theorem dX12_plane_65 : decode cX12_plane 65 = .ok (.iastore, 1) := by decide +kernel
theorem dX12_plane_66 : decode cX12_plane 66 = .ok (.iinc 1 1, 3) := by decide +kernel
theorem dX12_plane_69 : decode cX12_plane 69 = .ok (.goto (-22), 3) := by decide +kernel
theorem dX12_plane_72 : decode cX12_plane 72 = .ok (.aload_n 0, 1) := by decide +kernel
theorem dX12_plane_73 : decode cX12_plane 73 = .ok (.invokevirtual 184, 3) := by decide +kernel
theorem dX12_plane_76 : decode cX12_plane 76 = .ok (.aload_n 0, 1) := by decide +kernel
theorem dX12_plane_77 : decode cX12_plane 77 = .ok (.getfield 7, 3) := by decide +kernel
theorem dX12_plane_80 : decode cX12_plane 80 = .ok (.iconst 5, 1) := by decide +kernel
theorem dX12_plane_81 : decode cX12_plane 81 = .ok (.iaload, 1) := by decide +kernel
theorem dX12_plane_82 : decode cX12_plane 82 = .ok (.ireturn, 1) := by decide +kernel
theorem dX12_settles_0 : decode cX12_settles 0 = .ok (.iconst 0, 1) := by decide +kernel
theorem dX12_settles_1 : decode cX12_settles 1 = .ok (.istore_n 1, 1) := by decide +kernel
theorem dX12_settles_2 : decode cX12_settles 2 = .ok (.iload_n 1, 1) := by decide +kernel
theorem dX12_settles_3 : decode cX12_settles 3 = .ok (.iconst 5, 1) := by decide +kernel
theorem dX12_settles_4 : decode cX12_settles 4 = .ok (.if_icmp .ge 19, 3) := by decide +kernel
theorem dX12_settles_7 : decode cX12_settles 7 = .ok (.aload_n 0, 1) := by decide +kernel
theorem dX12_settles_8 : decode cX12_settles 8 = .ok (.getfield 13, 3) := by decide +kernel
theorem dX12_settles_11 : decode cX12_settles 11 = .ok (.bipush 93, 2) := by decide +kernel
theorem dX12_settles_13 : decode cX12_settles 13 = .ok (.iload_n 1, 1) := by decide +kernel
theorem dX12_settles_14 : decode cX12_settles 14 = .ok (.iadd, 1) := by decide +kernel
theorem dX12_settles_15 : decode cX12_settles 15 = .ok (.iconst (-1), 1) := by decide +kernel
theorem dX12_settles_16 : decode cX12_settles 16 = .ok (.iastore, 1) := by decide +kernel
theorem dX12_settles_17 : decode cX12_settles 17 = .ok (.iinc 1 1, 3) := by decide +kernel
theorem dX12_settles_20 : decode cX12_settles 20 = .ok (.goto (-18), 3) := by decide +kernel
theorem dX12_settles_23 : decode cX12_settles 23 = .ok (.iconst 0, 1) := by decide +kernel
theorem dX12_settles_24 : decode cX12_settles 24 = .ok (.istore_n 1, 1) := by decide +kernel
theorem dX12_settles_25 : decode cX12_settles 25 = .ok (.iload_n 1, 1) := by decide +kernel
theorem dX12_settles_26 : decode cX12_settles 26 = .ok (.iconst 2, 1) := by decide +kernel
theorem dX12_settles_27 : decode cX12_settles 27 = .ok (.if_icmp .ge 19, 3) := by decide +kernel
theorem dX12_settles_30 : decode cX12_settles 30 = .ok (.aload_n 0, 1) := by decide +kernel
theorem dX12_settles_31 : decode cX12_settles 31 = .ok (.getfield 13, 3) := by decide +kernel
theorem dX12_settles_34 : decode cX12_settles 34 = .ok (.bipush 51, 2) := by decide +kernel
theorem dX12_settles_36 : decode cX12_settles 36 = .ok (.iload_n 1, 1) := by decide +kernel
theorem dX12_settles_37 : decode cX12_settles 37 = .ok (.iadd, 1) := by decide +kernel
theorem dX12_settles_38 : decode cX12_settles 38 = .ok (.iconst 0, 1) := by decide +kernel
theorem dX12_settles_39 : decode cX12_settles 39 = .ok (.iastore, 1) := by decide +kernel
theorem dX12_settles_40 : decode cX12_settles 40 = .ok (.iinc 1 1, 3) := by decide +kernel
theorem dX12_settles_43 : decode cX12_settles 43 = .ok (.goto (-18), 3) := by decide +kernel
theorem dX12_settles_46 : decode cX12_settles 46 = .ok (.aload_n 0, 1) := by decide +kernel
theorem dX12_settles_47 : decode cX12_settles 47 = .ok (.getfield 13, 3) := by decide +kernel
theorem dX12_settles_50 : decode cX12_settles 50 = .ok (.iconst 0, 1) := by decide +kernel
theorem dX12_settles_51 : decode cX12_settles 51 = .ok (.aload_n 0, 1) := by decide +kernel
theorem dX12_settles_52 : decode cX12_settles 52 = .ok (.getfield 7, 3) := by decide +kernel
theorem dX12_settles_55 : decode cX12_settles 55 = .ok (.iconst 0, 1) := by decide +kernel
theorem dX12_settles_56 : decode cX12_settles 56 = .ok (.invokestatic 187, 3) := by decide +kernel
theorem dX12_settles_59 : decode cX12_settles 59 = .ok (.aload_n 0, 1) := by decide +kernel
theorem dX12_settles_60 : decode cX12_settles 60 = .ok (.iconst 0, 1) := by decide +kernel
theorem dX12_settles_61 : decode cX12_settles 61 = .ok (.putfield 191, 3) := by decide +kernel
theorem dX12_settles_64 : decode cX12_settles 64 = .ok (.return_, 1) := by decide +kernel
theorem dX12_palletLine_0 : decode cX12_palletLine 0 = .ok (.aload_n 0, 1) := by decide +kernel
theorem dX12_palletLine_1 : decode cX12_palletLine 1 = .ok (.getfield 13, 3) := by decide +kernel
theorem dX12_palletLine_4 : decode cX12_palletLine 4 = .ok (.bipush 11, 2) := by decide +kernel
theorem dX12_palletLine_6 : decode cX12_palletLine 6 = .ok (.iaload, 1) := by decide +kernel
theorem dX12_palletLine_7 : decode cX12_palletLine 7 = .ok (.istore_n 1, 1) := by decide +kernel
theorem dX12_palletLine_8 : decode cX12_palletLine 8 = .ok (.iload_n 1, 1) := by decide +kernel
theorem dX12_palletLine_9 : decode cX12_palletLine 9 = .ok (.iconst 5, 1) := by decide +kernel
theorem dX12_palletLine_10 : decode cX12_palletLine 10 = .ok (.if_icmp .ne 9, 3) := by decide +kernel
theorem dX12_palletLine_13 : decode cX12_palletLine 13 = .ok (.aload_n 0, 1) := by decide +kernel
theorem dX12_palletLine_14 : decode cX12_palletLine 14 = .ok (.iconst 4, 1) := by decide +kernel
theorem dX12_palletLine_15 : decode cX12_palletLine 15 = .ok (.invokevirtual 116, 3) := by decide +kernel
theorem dX12_palletLine_18 : decode cX12_palletLine 18 = .ok (.ireturn, 1) := by decide +kernel
theorem dX12_palletLine_19 : decode cX12_palletLine 19 = .ok (.aload_n 0, 1) := by decide +kernel
theorem dX12_palletLine_20 : decode cX12_palletLine 20 = .ok (.invokevirtual 121, 3) := by decide +kernel
theorem dX12_palletLine_23 : decode cX12_palletLine 23 = .ok (.aload_n 0, 1) := by decide +kernel
theorem dX12_palletLine_24 : decode cX12_palletLine 24 = .ok (.invokevirtual 127, 3) := by decide +kernel
theorem dX12_palletLine_27 : decode cX12_palletLine 27 = .ok (.ifCond .ne 9, 3) := by decide +kernel
theorem dX12_palletLine_30 : decode cX12_palletLine 30 = .ok (.aload_n 0, 1) := by decide +kernel
theorem dX12_palletLine_31 : decode cX12_palletLine 31 = .ok (.iconst 1, 1) := by decide +kernel
theorem dX12_palletLine_32 : decode cX12_palletLine 32 = .ok (.invokevirtual 116, 3) := by decide +kernel
theorem dX12_palletLine_35 : decode cX12_palletLine 35 = .ok (.ireturn, 1) := by decide +kernel
theorem dX12_palletLine_36 : decode cX12_palletLine 36 = .ok (.aload_n 0, 1) := by decide +kernel
theorem dX12_palletLine_37 : decode cX12_palletLine 37 = .ok (.getfield 13, 3) := by decide +kernel
theorem dX12_palletLine_40 : decode cX12_palletLine 40 = .ok (.aload_n 0, 1) := by decide +kernel
theorem dX12_palletLine_41 : decode cX12_palletLine 41 = .ok (.getfield 30, 3) := by decide +kernel
theorem dX12_palletLine_44 : decode cX12_palletLine 44 = .ok (.iconst 0, 1) := by decide +kernel
theorem dX12_palletLine_45 : decode cX12_palletLine 45 = .ok (.aload_n 0, 1) := by decide +kernel
theorem dX12_palletLine_46 : decode cX12_palletLine 46 = .ok (.getfield 107, 3) := by decide +kernel
theorem dX12_palletLine_49 : decode cX12_palletLine 49 = .ok (.invokestatic 194, 3) := by decide +kernel
theorem dX12_palletLine_52 : decode cX12_palletLine 52 = .ok (.ifCond .lt 9, 3) := by decide +kernel
theorem dX12_palletLine_55 : decode cX12_palletLine 55 = .ok (.aload_n 0, 1) := by decide +kernel
theorem dX12_palletLine_56 : decode cX12_palletLine 56 = .ok (.iconst 3, 1) := by decide +kernel
theorem dX12_palletLine_57 : decode cX12_palletLine 57 = .ok (.invokevirtual 116, 3) := by decide +kernel
theorem dX12_palletLine_60 : decode cX12_palletLine 60 = .ok (.ireturn, 1) := by decide +kernel
theorem dX12_palletLine_61 : decode cX12_palletLine 61 = .ok (.aload_n 0, 1) := by decide +kernel
theorem dX12_palletLine_62 : decode cX12_palletLine 62 = .ok (.getfield 13, 3) := by decide +kernel
theorem dX12_palletLine_65 : decode cX12_palletLine 65 = .ok (.bipush 98, 2) := by decide +kernel
theorem dX12_palletLine_67 : decode cX12_palletLine 67 = .ok (.iload_n 1, 1) := by decide +kernel
theorem dX12_palletLine_68 : decode cX12_palletLine 68 = .ok (.iadd, 1) := by decide +kernel
theorem dX12_palletLine_69 : decode cX12_palletLine 69 = .ok (.aload_n 0, 1) := by decide +kernel
theorem dX12_palletLine_70 : decode cX12_palletLine 70 = .ok (.getfield 107, 3) := by decide +kernel
theorem dX12_palletLine_73 : decode cX12_palletLine 73 = .ok (.iastore, 1) := by decide +kernel
theorem dX12_palletLine_74 : decode cX12_palletLine 74 = .ok (.iconst 0, 1) := by decide +kernel
theorem dX12_palletLine_75 : decode cX12_palletLine 75 = .ok (.istore_n 2, 1) := by decide +kernel
theorem dX12_palletLine_76 : decode cX12_palletLine 76 = .ok (.iload_n 2, 1) := by decide +kernel
theorem dX12_palletLine_77 : decode cX12_palletLine 77 = .ok (.bipush 8, 2) := by decide +kernel
theorem dX12_palletLine_79 : decode cX12_palletLine 79 = .ok (.if_icmp .ge 41, 3) := by decide +kernel
theorem dX12_palletLine_82 : decode cX12_palletLine 82 = .ok (.aload_n 0, 1) := by decide +kernel
theorem dX12_palletLine_83 : decode cX12_palletLine 83 = .ok (.getfield 13, 3) := by decide +kernel
theorem dX12_palletLine_86 : decode cX12_palletLine 86 = .ok (.bipush 103, 2) := by decide +kernel
theorem dX12_palletLine_88 : decode cX12_palletLine 88 = .ok (.bipush 8, 2) := by decide +kernel
theorem dX12_palletLine_90 : decode cX12_palletLine 90 = .ok (.iload_n 1, 1) := by decide +kernel
theorem dX12_palletLine_91 : decode cX12_palletLine 91 = .ok (.imul, 1) := by decide +kernel
theorem dX12_palletLine_92 : decode cX12_palletLine 92 = .ok (.iadd, 1) := by decide +kernel
theorem dX12_palletLine_93 : decode cX12_palletLine 93 = .ok (.iload_n 2, 1) := by decide +kernel
theorem dX12_palletLine_94 : decode cX12_palletLine 94 = .ok (.iadd, 1) := by decide +kernel
theorem dX12_palletLine_95 : decode cX12_palletLine 95 = .ok (.iload_n 2, 1) := by decide +kernel
theorem dX12_palletLine_96 : decode cX12_palletLine 96 = .ok (.aload_n 0, 1) := by decide +kernel
theorem dX12_palletLine_97 : decode cX12_palletLine 97 = .ok (.getfield 107, 3) := by decide +kernel
theorem dX12_palletLine_100 : decode cX12_palletLine 100 = .ok (.if_icmp .ge 12, 3) := by decide +kernel
theorem dX12_palletLine_103 : decode cX12_palletLine 103 = .ok (.aload_n 0, 1) := by decide +kernel
theorem dX12_palletLine_104 : decode cX12_palletLine 104 = .ok (.getfield 30, 3) := by decide +kernel
theorem dX12_palletLine_107 : decode cX12_palletLine 107 = .ok (.iload_n 2, 1) := by decide +kernel
theorem dX12_palletLine_108 : decode cX12_palletLine 108 = .ok (.baload, 1) := by decide +kernel
theorem dX12_palletLine_109 : decode cX12_palletLine 109 = .ok (.goto 4, 3) := by decide +kernel
theorem dX12_palletLine_112 : decode cX12_palletLine 112 = .ok (.iconst 0, 1) := by decide +kernel
theorem dX12_palletLine_113 : decode cX12_palletLine 113 = .ok (.iastore, 1) := by decide +kernel
theorem dX12_palletLine_114 : decode cX12_palletLine 114 = .ok (.iinc 2 1, 3) := by decide +kernel
theorem dX12_palletLine_117 : decode cX12_palletLine 117 = .ok (.goto (-41), 3) := by decide +kernel
theorem dX12_palletLine_120 : decode cX12_palletLine 120 = .ok (.aload_n 0, 1) := by decide +kernel
theorem dX12_palletLine_121 : decode cX12_palletLine 121 = .ok (.invokevirtual 121, 3) := by decide +kernel
theorem dX12_palletLine_124 : decode cX12_palletLine 124 = .ok (.aload_n 0, 1) := by decide +kernel
theorem dX12_palletLine_125 : decode cX12_palletLine 125 = .ok (.bipush 83, 2) := by decide +kernel
theorem dX12_palletLine_127 : decode cX12_palletLine 127 = .ok (.iload_n 1, 1) := by decide +kernel
theorem dX12_palletLine_128 : decode cX12_palletLine 128 = .ok (.iadd, 1) := by decide +kernel
theorem dX12_palletLine_129 : decode cX12_palletLine 129 = .ok (.iconst 1, 1) := by decide +kernel
theorem dX12_palletLine_130 : decode cX12_palletLine 130 = .ok (.bipush 99, 2) := by decide +kernel
theorem dX12_palletLine_132 : decode cX12_palletLine 132 = .ok (.invokevirtual 135, 3) := by decide +kernel
theorem dX12_palletLine_135 : decode cX12_palletLine 135 = .ok (.ifCond .eq 17, 3) := by decide +kernel
theorem dX12_palletLine_138 : decode cX12_palletLine 138 = .ok (.aload_n 0, 1) := by decide +kernel
theorem dX12_palletLine_139 : decode cX12_palletLine 139 = .ok (.bipush 88, 2) := by decide +kernel
theorem dX12_palletLine_141 : decode cX12_palletLine 141 = .ok (.iload_n 1, 1) := by decide +kernel
theorem dX12_palletLine_142 : decode cX12_palletLine 142 = .ok (.iadd, 1) := by decide +kernel
theorem dX12_palletLine_143 : decode cX12_palletLine 143 = .ok (.iconst 1, 1) := by decide +kernel
theorem dX12_palletLine_144 : decode cX12_palletLine 144 = .ok (.bipush 9, 2) := by decide +kernel
theorem dX12_palletLine_146 : decode cX12_palletLine 146 = .ok (.invokevirtual 135, 3) := by decide +kernel
theorem dX12_palletLine_149 : decode cX12_palletLine 149 = .ok (.ifCond .ne 5, 3) := by decide +kernel
theorem dX12_palletLine_152 : decode cX12_palletLine 152 = .ok (.iconst 0, 1) := by decide +kernel
theorem dX12_palletLine_153 : decode cX12_palletLine 153 = .ok (.ireturn, 1) := by decide +kernel
theorem dX12_palletLine_154 : decode cX12_palletLine 154 = .ok (.aload_n 0, 1) := by decide +kernel
theorem dX12_palletLine_155 : decode cX12_palletLine 155 = .ok (.getfield 13, 3) := by decide +kernel
theorem dX12_palletLine_158 : decode cX12_palletLine 158 = .ok (.bipush 11, 2) := by decide +kernel
theorem dX12_palletLine_160 : decode cX12_palletLine 160 = .ok (.dup2, 1) := by decide +kernel
theorem dX12_palletLine_161 : decode cX12_palletLine 161 = .ok (.iaload, 1) := by decide +kernel
theorem dX12_palletLine_162 : decode cX12_palletLine 162 = .ok (.iconst 1, 1) := by decide +kernel
theorem dX12_palletLine_163 : decode cX12_palletLine 163 = .ok (.iadd, 1) := by decide +kernel
theorem dX12_palletLine_164 : decode cX12_palletLine 164 = .ok (.iastore, 1) := by decide +kernel
theorem dX12_palletLine_165 : decode cX12_palletLine 165 = .ok (.iconst 1, 1) := by decide +kernel
theorem dX12_palletLine_166 : decode cX12_palletLine 166 = .ok (.ireturn, 1) := by decide +kernel
theorem dX12_palletOf_0 : decode cX12_palletOf 0 = .ok (.iconst 0, 1) := by decide +kernel
theorem dX12_palletOf_1 : decode cX12_palletOf 1 = .ok (.istore 4, 2) := by decide +kernel
theorem dX12_palletOf_3 : decode cX12_palletOf 3 = .ok (.iload 4, 2) := by decide +kernel
theorem dX12_palletOf_5 : decode cX12_palletOf 5 = .ok (.aload_n 0, 1) := by decide +kernel
theorem dX12_palletOf_6 : decode cX12_palletOf 6 = .ok (.bipush 11, 2) := by decide +kernel
theorem dX12_palletOf_8 : decode cX12_palletOf 8 = .ok (.iaload, 1) := by decide +kernel
theorem dX12_palletOf_9 : decode cX12_palletOf 9 = .ok (.if_icmp .ge 88, 3) := by decide +kernel
theorem dX12_palletOf_12 : decode cX12_palletOf 12 = .ok (.iload_n 3, 1) := by decide +kernel
theorem dX12_palletOf_13 : decode cX12_palletOf 13 = .ok (.ifCond .le 18, 3) := by decide +kernel
theorem dX12_palletOf_16 : decode cX12_palletOf 16 = .ok (.aload_n 0, 1) := by decide +kernel
theorem dX12_palletOf_17 : decode cX12_palletOf 17 = .ok (.bipush 98, 2) := by decide +kernel
theorem dX12_palletOf_19 : decode cX12_palletOf 19 = .ok (.iload 4, 2) := by decide +kernel
theorem dX12_palletOf_21 : decode cX12_palletOf 21 = .ok (.iadd, 1) := by decide +kernel
theorem dX12_palletOf_22 : decode cX12_palletOf 22 = .ok (.iaload, 1) := by decide +kernel
theorem dX12_palletOf_23 : decode cX12_palletOf 23 = .ok (.iload_n 3, 1) := by decide +kernel
theorem dX12_palletOf_24 : decode cX12_palletOf 24 = .ok (.if_icmp .ne 7, 3) := by decide +kernel
theorem dX12_palletOf_27 : decode cX12_palletOf 27 = .ok (.iconst 1, 1) := by decide +kernel
theorem dX12_palletOf_28 : decode cX12_palletOf 28 = .ok (.goto 4, 3) := by decide +kernel
theorem dX12_palletOf_31 : decode cX12_palletOf 31 = .ok (.iconst 0, 1) := by decide +kernel
theorem dX12_palletOf_32 : decode cX12_palletOf 32 = .ok (.istore 5, 2) := by decide +kernel
theorem dX12_palletOf_34 : decode cX12_palletOf 34 = .ok (.iconst 0, 1) := by decide +kernel
theorem dX12_palletOf_35 : decode cX12_palletOf 35 = .ok (.istore 6, 2) := by decide +kernel
theorem dX12_palletOf_37 : decode cX12_palletOf 37 = .ok (.iload 6, 2) := by decide +kernel
theorem dX12_palletOf_39 : decode cX12_palletOf 39 = .ok (.iload_n 3, 1) := by decide +kernel
theorem dX12_palletOf_40 : decode cX12_palletOf 40 = .ok (.if_icmp .ge 43, 3) := by decide +kernel
theorem dX12_palletOf_43 : decode cX12_palletOf 43 = .ok (.iload 5, 2) := by decide +kernel
theorem dX12_palletOf_45 : decode cX12_palletOf 45 = .ok (.ifCond .eq 38, 3) := by decide +kernel
theorem dX12_palletOf_48 : decode cX12_palletOf 48 = .ok (.aload_n 0, 1) := by decide +kernel
theorem dX12_palletOf_49 : decode cX12_palletOf 49 = .ok (.bipush 103, 2) := by decide +kernel
theorem dX12_palletOf_51 : decode cX12_palletOf 51 = .ok (.bipush 8, 2) := by decide +kernel
theorem dX12_palletOf_53 : decode cX12_palletOf 53 = .ok (.iload 4, 2) := by decide +kernel
theorem dX12_palletOf_55 : decode cX12_palletOf 55 = .ok (.imul, 1) := by decide +kernel
theorem dX12_palletOf_56 : decode cX12_palletOf 56 = .ok (.iadd, 1) := by decide +kernel
theorem dX12_palletOf_57 : decode cX12_palletOf 57 = .ok (.iload 6, 2) := by decide +kernel
theorem dX12_palletOf_59 : decode cX12_palletOf 59 = .ok (.iadd, 1) := by decide +kernel
theorem dX12_palletOf_60 : decode cX12_palletOf 60 = .ok (.iaload, 1) := by decide +kernel
theorem dX12_palletOf_61 : decode cX12_palletOf 61 = .ok (.aload_n 1, 1) := by decide +kernel
theorem dX12_palletOf_62 : decode cX12_palletOf 62 = .ok (.iload_n 2, 1) := by decide +kernel
theorem dX12_palletOf_63 : decode cX12_palletOf 63 = .ok (.iload 6, 2) := by decide +kernel
theorem dX12_palletOf_65 : decode cX12_palletOf 65 = .ok (.iadd, 1) := by decide +kernel
theorem dX12_palletOf_66 : decode cX12_palletOf 66 = .ok (.baload, 1) := by decide +kernel
theorem dX12_palletOf_67 : decode cX12_palletOf 67 = .ok (.if_icmp .ne 7, 3) := by decide +kernel
theorem dX12_palletOf_70 : decode cX12_palletOf 70 = .ok (.iconst 1, 1) := by decide +kernel
theorem dX12_palletOf_71 : decode cX12_palletOf 71 = .ok (.goto 4, 3) := by decide +kernel
theorem dX12_palletOf_74 : decode cX12_palletOf 74 = .ok (.iconst 0, 1) := by decide +kernel
theorem dX12_palletOf_75 : decode cX12_palletOf 75 = .ok (.istore 5, 2) := by decide +kernel
theorem dX12_palletOf_77 : decode cX12_palletOf 77 = .ok (.iinc 6 1, 3) := by decide +kernel
theorem dX12_palletOf_80 : decode cX12_palletOf 80 = .ok (.goto (-43), 3) := by decide +kernel
theorem dX12_palletOf_83 : decode cX12_palletOf 83 = .ok (.iload 5, 2) := by decide +kernel
theorem dX12_palletOf_85 : decode cX12_palletOf 85 = .ok (.ifCond .eq 6, 3) := by decide +kernel
theorem dX12_palletOf_88 : decode cX12_palletOf 88 = .ok (.iload 4, 2) := by decide +kernel
theorem dX12_palletOf_90 : decode cX12_palletOf 90 = .ok (.ireturn, 1) := by decide +kernel
theorem dX12_palletOf_91 : decode cX12_palletOf 91 = .ok (.iinc 4 1, 3) := by decide +kernel
theorem dX12_palletOf_94 : decode cX12_palletOf 94 = .ok (.goto (-91), 3) := by decide +kernel
theorem dX12_palletOf_97 : decode cX12_palletOf 97 = .ok (.iconst (-1), 1) := by decide +kernel
theorem dX12_palletOf_98 : decode cX12_palletOf 98 = .ok (.ireturn, 1) := by decide +kernel
theorem dX12_bulkLine_0 : decode cX12_bulkLine 0 = .ok (.aload_n 0, 1) := by decide +kernel
theorem dX12_bulkLine_1 : decode cX12_bulkLine 1 = .ok (.getfield 198, 3) := by decide +kernel
theorem dX12_bulkLine_4 : decode cX12_bulkLine 4 = .ok (.ifCond .eq 9, 3) := by decide +kernel
theorem dX12_bulkLine_7 : decode cX12_bulkLine 7 = .ok (.aload_n 0, 1) := by decide +kernel
theorem dX12_bulkLine_8 : decode cX12_bulkLine 8 = .ok (.iconst 3, 1) := by decide +kernel
theorem dX12_bulkLine_9 : decode cX12_bulkLine 9 = .ok (.invokevirtual 116, 3) := by decide +kernel
theorem dX12_bulkLine_12 : decode cX12_bulkLine 12 = .ok (.ireturn, 1) := by decide +kernel
theorem dX12_bulkLine_13 : decode cX12_bulkLine 13 = .ok (.aload_n 0, 1) := by decide +kernel
theorem dX12_bulkLine_14 : decode cX12_bulkLine 14 = .ok (.iconst 1, 1) := by decide +kernel
theorem dX12_bulkLine_15 : decode cX12_bulkLine 15 = .ok (.putfield 198, 3) := by decide +kernel
theorem dX12_bulkLine_18 : decode cX12_bulkLine 18 = .ok (.aload_n 0, 1) := by decide +kernel
theorem dX12_bulkLine_19 : decode cX12_bulkLine 19 = .ok (.invokevirtual 121, 3) := by decide +kernel
theorem dX12_bulkLine_22 : decode cX12_bulkLine 22 = .ok (.aload_n 0, 1) := by decide +kernel
theorem dX12_bulkLine_23 : decode cX12_bulkLine 23 = .ok (.bipush 12, 2) := by decide +kernel
theorem dX12_bulkLine_25 : decode cX12_bulkLine 25 = .ok (.iconst 0, 1) := by decide +kernel
theorem dX12_bulkLine_26 : decode cX12_bulkLine 26 = .ok (.sipush 198, 3) := by decide +kernel
theorem dX12_bulkLine_29 : decode cX12_bulkLine 29 = .ok (.invokevirtual 135, 3) := by decide +kernel
theorem dX12_bulkLine_32 : decode cX12_bulkLine 32 = .ok (.ireturn, 1) := by decide +kernel
theorem dX12_readsCargo_0 : decode cX12_readsCargo 0 = .ok (.aload_n 0, 1) := by decide +kernel
theorem dX12_readsCargo_1 : decode cX12_readsCargo 1 = .ok (.sipush 300, 3) := by decide +kernel
theorem dX12_readsCargo_4 : decode cX12_readsCargo 4 = .ok (.invokevirtual 162, 3) := by decide +kernel
theorem dX12_readsCargo_7 : decode cX12_readsCargo 7 = .ok (.ifCond .ne 5, 3) := by decide +kernel
theorem dX12_readsCargo_10 : decode cX12_readsCargo 10 = .ok (.iconst 0, 1) := by decide +kernel
theorem dX12_readsCargo_11 : decode cX12_readsCargo 11 = .ok (.ireturn, 1) := by decide +kernel
theorem dX12_readsCargo_12 : decode cX12_readsCargo 12 = .ok (.aload_n 0, 1) := by decide +kernel
theorem dX12_readsCargo_13 : decode cX12_readsCargo 13 = .ok (.getfield 7, 3) := by decide +kernel
theorem dX12_readsCargo_16 : decode cX12_readsCargo 16 = .ok (.iconst 0, 1) := by decide +kernel
theorem dX12_readsCargo_17 : decode cX12_readsCargo 17 = .ok (.aload_n 0, 1) := by decide +kernel
theorem dX12_readsCargo_18 : decode cX12_readsCargo 18 = .ok (.getfield 13, 3) := by decide +kernel
theorem dX12_readsCargo_21 : decode cX12_readsCargo 21 = .ok (.iconst 0, 1) := by decide +kernel
theorem dX12_readsCargo_22 : decode cX12_readsCargo 22 = .ok (.invokestatic 187, 3) := by decide +kernel
theorem dX12_readsCargo_25 : decode cX12_readsCargo 25 = .ok (.bipush 83, 2) := by decide +kernel
theorem dX12_readsCargo_27 : decode cX12_readsCargo 27 = .ok (.istore_n 1, 1) := by decide +kernel
theorem dX12_readsCargo_28 : decode cX12_readsCargo 28 = .ok (.iload_n 1, 1) := by decide +kernel
theorem dX12_readsCargo_29 : decode cX12_readsCargo 29 = .ok (.sipush 143, 3) := by decide +kernel
theorem dX12_readsCargo_32 : decode cX12_readsCargo 32 = .ok (.if_icmp .ge 16, 3) := by decide +kernel
theorem dX12_readsCargo_35 : decode cX12_readsCargo 35 = .ok (.aload_n 0, 1) := by decide +kernel
theorem dX12_readsCargo_36 : decode cX12_readsCargo 36 = .ok (.getfield 13, 3) := by decide +kernel
theorem dX12_readsCargo_39 : decode cX12_readsCargo 39 = .ok (.iload_n 1, 1) := by decide +kernel
theorem dX12_readsCargo_40 : decode cX12_readsCargo 40 = .ok (.iconst 0, 1) := by decide +kernel
theorem dX12_readsCargo_41 : decode cX12_readsCargo 41 = .ok (.iastore, 1) := by decide +kernel
theorem dX12_readsCargo_42 : decode cX12_readsCargo 42 = .ok (.iinc 1 1, 3) := by decide +kernel
theorem dX12_readsCargo_45 : decode cX12_readsCargo 45 = .ok (.goto (-17), 3) := by decide +kernel
theorem dX12_readsCargo_48 : decode cX12_readsCargo 48 = .ok (.aload_n 0, 1) := by decide +kernel
theorem dX12_readsCargo_49 : decode cX12_readsCargo 49 = .ok (.getfield 13, 3) := by decide +kernel
theorem dX12_readsCargo_52 : decode cX12_readsCargo 52 = .ok (.bipush 11, 2) := by decide +kernel
theorem dX12_readsCargo_54 : decode cX12_readsCargo 54 = .ok (.iconst 0, 1) := by decide +kernel
theorem dX12_readsCargo_55 : decode cX12_readsCargo 55 = .ok (.iastore, 1) := by decide +kernel
theorem dX12_readsCargo_56 : decode cX12_readsCargo 56 = .ok (.aload_n 0, 1) := by decide +kernel
theorem dX12_readsCargo_57 : decode cX12_readsCargo 57 = .ok (.getfield 13, 3) := by decide +kernel
theorem dX12_readsCargo_60 : decode cX12_readsCargo 60 = .ok (.bipush 12, 2) := by decide +kernel
theorem dX12_readsCargo_62 : decode cX12_readsCargo 62 = .ok (.iconst 0, 1) := by decide +kernel
theorem dX12_readsCargo_63 : decode cX12_readsCargo 63 = .ok (.iastore, 1) := by decide +kernel
theorem dX12_readsCargo_64 : decode cX12_readsCargo 64 = .ok (.aload_n 0, 1) := by decide +kernel
theorem dX12_readsCargo_65 : decode cX12_readsCargo 65 = .ok (.iconst 0, 1) := by decide +kernel
theorem dX12_readsCargo_66 : decode cX12_readsCargo 66 = .ok (.putfield 198, 3) := by decide +kernel
theorem dX12_readsCargo_69 : decode cX12_readsCargo 69 = .ok (.aload_n 0, 1) := by decide +kernel
theorem dX12_readsCargo_70 : decode cX12_readsCargo 70 = .ok (.getfield 94, 3) := by decide +kernel
theorem dX12_readsCargo_73 : decode cX12_readsCargo 73 = .ok (.ifCond .eq 72, 3) := by decide +kernel
theorem dX12_readsCargo_76 : decode cX12_readsCargo 76 = .ok (.aload_n 0, 1) := by decide +kernel
theorem dX12_readsCargo_77 : decode cX12_readsCargo 77 = .ok (.invokevirtual 113, 3) := by decide +kernel
theorem dX12_readsCargo_80 : decode cX12_readsCargo 80 = .ok (.istore_n 1, 1) := by decide +kernel
theorem dX12_readsCargo_81 : decode cX12_readsCargo 81 = .ok (.iload_n 1, 1) := by decide +kernel
theorem dX12_readsCargo_82 : decode cX12_readsCargo 82 = .ok (.bipush 9, 2) := by decide +kernel
theorem dX12_readsCargo_84 : decode cX12_readsCargo 84 = .ok (.if_icmp .eq 15, 3) := by decide +kernel
theorem dX12_readsCargo_87 : decode cX12_readsCargo 87 = .ok (.iload_n 1, 1) := by decide +kernel
theorem dX12_readsCargo_88 : decode cX12_readsCargo 88 = .ok (.bipush 10, 2) := by decide +kernel
theorem dX12_readsCargo_90 : decode cX12_readsCargo 90 = .ok (.if_icmp .eq 9, 3) := by decide +kernel
theorem dX12_readsCargo_93 : decode cX12_readsCargo 93 = .ok (.aload_n 0, 1) := by decide +kernel
theorem dX12_readsCargo_94 : decode cX12_readsCargo 94 = .ok (.iconst 1, 1) := by decide +kernel
theorem dX12_readsCargo_95 : decode cX12_readsCargo 95 = .ok (.invokevirtual 116, 3) := by decide +kernel
theorem dX12_readsCargo_98 : decode cX12_readsCargo 98 = .ok (.ireturn, 1) := by decide +kernel
theorem dX12_readsCargo_99 : decode cX12_readsCargo 99 = .ok (.iload_n 1, 1) := by decide +kernel
theorem dX12_readsCargo_100 : decode cX12_readsCargo 100 = .ok (.bipush 9, 2) := by decide +kernel
theorem dX12_readsCargo_102 : decode cX12_readsCargo 102 = .ok (.if_icmp .ne 13, 3) := by decide +kernel
theorem dX12_readsCargo_105 : decode cX12_readsCargo 105 = .ok (.aload_n 0, 1) := by decide +kernel
theorem dX12_readsCargo_106 : decode cX12_readsCargo 106 = .ok (.invokevirtual 201, 3) := by decide +kernel
theorem dX12_readsCargo_109 : decode cX12_readsCargo 109 = .ok (.ifCond .eq 13, 3) := by decide +kernel
theorem dX12_readsCargo_112 : decode cX12_readsCargo 112 = .ok (.goto 12, 3) := by decide +kernel
theorem dX12_readsCargo_115 : decode cX12_readsCargo 115 = .ok (.aload_n 0, 1) := by decide +kernel
theorem dX12_readsCargo_116 : decode cX12_readsCargo 116 = .ok (.invokevirtual 204, 3) := by decide +kernel
theorem dX12_readsCargo_119 : decode cX12_readsCargo 119 = .ok (.ifCond .ne 5, 3) := by decide +kernel
theorem dX12_readsCargo_122 : decode cX12_readsCargo 122 = .ok (.iconst 0, 1) := by decide +kernel
theorem dX12_readsCargo_123 : decode cX12_readsCargo 123 = .ok (.ireturn, 1) := by decide +kernel
theorem dX12_readsCargo_124 : decode cX12_readsCargo 124 = .ok (.aload_n 0, 1) := by decide +kernel
theorem dX12_readsCargo_125 : decode cX12_readsCargo 125 = .ok (.getfield 94, 3) := by decide +kernel
theorem dX12_readsCargo_128 : decode cX12_readsCargo 128 = .ok (.iconst 3, 1) := by decide +kernel
theorem dX12_readsCargo_129 : decode cX12_readsCargo 129 = .ok (.if_icmp .eq 9, 3) := by decide +kernel
theorem dX12_readsCargo_132 : decode cX12_readsCargo 132 = .ok (.aload_n 0, 1) := by decide +kernel
theorem dX12_readsCargo_133 : decode cX12_readsCargo 133 = .ok (.iconst 1, 1) := by decide +kernel
theorem dX12_readsCargo_134 : decode cX12_readsCargo 134 = .ok (.invokevirtual 116, 3) := by decide +kernel
theorem dX12_readsCargo_137 : decode cX12_readsCargo 137 = .ok (.ireturn, 1) := by decide +kernel
theorem dX12_readsCargo_138 : decode cX12_readsCargo 138 = .ok (.aload_n 0, 1) := by decide +kernel
theorem dX12_readsCargo_139 : decode cX12_readsCargo 139 = .ok (.invokevirtual 121, 3) := by decide +kernel
theorem dX12_readsCargo_142 : decode cX12_readsCargo 142 = .ok (.goto (-73), 3) := by decide +kernel
theorem dX12_readsCargo_145 : decode cX12_readsCargo 145 = .ok (.iconst 1, 1) := by decide +kernel
theorem dX12_readsCargo_146 : decode cX12_readsCargo 146 = .ok (.ireturn, 1) := by decide +kernel
theorem dX12_cargo_0 : decode cX12_cargo 0 = .ok (.aload_n 0, 1) := by decide +kernel
theorem dX12_cargo_1 : decode cX12_cargo 1 = .ok (.invokevirtual 207, 3) := by decide +kernel
theorem dX12_cargo_4 : decode cX12_cargo 4 = .ok (.ifCond .ne 12, 3) := by decide +kernel
theorem dX12_cargo_7 : decode cX12_cargo 7 = .ok (.sipush (-1000), 3) := by decide +kernel
theorem dX12_cargo_10 : decode cX12_cargo 10 = .ok (.aload_n 0, 1) := by decide +kernel
theorem dX12_cargo_11 : decode cX12_cargo 11 = .ok (.getfield 80, 3) := by decide +kernel
theorem dX12_cargo_14 : decode cX12_cargo 14 = .ok (.isub, 1) := by decide +kernel
theorem dX12_cargo_15 : decode cX12_cargo 15 = .ok (.ireturn, 1) := by decide +kernel
theorem dX12_cargo_16 : decode cX12_cargo 16 = .ok (.aload_n 0, 1) := by decide +kernel
theorem dX12_cargo_17 : decode cX12_cargo 17 = .ok (.invokevirtual 184, 3) := by decide +kernel
theorem dX12_cargo_20 : decode cX12_cargo 20 = .ok (.aload_n 0, 1) := by decide +kernel
theorem dX12_cargo_21 : decode cX12_cargo 21 = .ok (.getfield 7, 3) := by decide +kernel
theorem dX12_cargo_24 : decode cX12_cargo 24 = .ok (.bipush 11, 2) := by decide +kernel
theorem dX12_cargo_26 : decode cX12_cargo 26 = .ok (.iaload, 1) := by decide +kernel
theorem dX12_cargo_27 : decode cX12_cargo 27 = .ok (.ireturn, 1) := by decide +kernel
theorem dX12_fault_0 : decode cX12_fault 0 = .ok (.aload_n 0, 1) := by decide +kernel
theorem dX12_fault_1 : decode cX12_fault 1 = .ok (.getfield 77, 3) := by decide +kernel
theorem dX12_fault_4 : decode cX12_fault 4 = .ok (.ireturn, 1) := by decide +kernel
theorem dX12_isPallet_0 : decode cX12_isPallet 0 = .ok (.iload_n 1, 1) := by decide +kernel
theorem dX12_isPallet_1 : decode cX12_isPallet 1 = .ok (.iconst 0, 1) := by decide +kernel
theorem dX12_isPallet_2 : decode cX12_isPallet 2 = .ok (.aload_n 0, 1) := by decide +kernel
theorem dX12_isPallet_3 : decode cX12_isPallet 3 = .ok (.getfield 7, 3) := by decide +kernel
theorem dX12_isPallet_6 : decode cX12_isPallet 6 = .ok (.bipush 11, 2) := by decide +kernel
theorem dX12_isPallet_8 : decode cX12_isPallet 8 = .ok (.iaload, 1) := by decide +kernel
theorem dX12_isPallet_9 : decode cX12_isPallet 9 = .ok (.iconst 1, 1) := by decide +kernel
theorem dX12_isPallet_10 : decode cX12_isPallet 10 = .ok (.isub, 1) := by decide +kernel
theorem dX12_isPallet_11 : decode cX12_isPallet 11 = .ok (.invokestatic 73, 3) := by decide +kernel
theorem dX12_isPallet_14 : decode cX12_isPallet 14 = .ok (.ireturn, 1) := by decide +kernel
theorem dX12_isSpot_0 : decode cX12_isSpot 0 = .ok (.iload_n 1, 1) := by decide +kernel
theorem dX12_isSpot_1 : decode cX12_isSpot 1 = .ok (.iconst 0, 1) := by decide +kernel
theorem dX12_isSpot_2 : decode cX12_isSpot 2 = .ok (.aload_n 0, 1) := by decide +kernel
theorem dX12_isSpot_3 : decode cX12_isSpot 3 = .ok (.getfield 7, 3) := by decide +kernel
theorem dX12_isSpot_6 : decode cX12_isSpot 6 = .ok (.iconst 5, 1) := by decide +kernel
theorem dX12_isSpot_7 : decode cX12_isSpot 7 = .ok (.iaload, 1) := by decide +kernel
theorem dX12_isSpot_8 : decode cX12_isSpot 8 = .ok (.iconst 1, 1) := by decide +kernel
theorem dX12_isSpot_9 : decode cX12_isSpot 9 = .ok (.isub, 1) := by decide +kernel
theorem dX12_isSpot_10 : decode cX12_isSpot 10 = .ok (.invokestatic 73, 3) := by decide +kernel
theorem dX12_isSpot_13 : decode cX12_isSpot 13 = .ok (.ireturn, 1) := by decide +kernel
theorem dX12_on_0 : decode cX12_on 0 = .ok (.iconst 0, 1) := by decide +kernel
theorem dX12_on_1 : decode cX12_on 1 = .ok (.istore_n 2, 1) := by decide +kernel
theorem dX12_on_2 : decode cX12_on 2 = .ok (.iload_n 2, 1) := by decide +kernel
theorem dX12_on_3 : decode cX12_on 3 = .ok (.aload_n 0, 1) := by decide +kernel
theorem dX12_on_4 : decode cX12_on 4 = .ok (.getfield 7, 3) := by decide +kernel
theorem dX12_on_7 : decode cX12_on 7 = .ok (.bipush 11, 2) := by decide +kernel
theorem dX12_on_9 : decode cX12_on 9 = .ok (.iaload, 1) := by decide +kernel
theorem dX12_on_10 : decode cX12_on 10 = .ok (.if_icmp .ge 24, 3) := by decide +kernel
theorem dX12_on_13 : decode cX12_on 13 = .ok (.aload_n 0, 1) := by decide +kernel
theorem dX12_on_14 : decode cX12_on 14 = .ok (.getfield 7, 3) := by decide +kernel
theorem dX12_on_17 : decode cX12_on 17 = .ok (.bipush 93, 2) := by decide +kernel
theorem dX12_on_19 : decode cX12_on 19 = .ok (.iload_n 2, 1) := by decide +kernel
theorem dX12_on_20 : decode cX12_on 20 = .ok (.iadd, 1) := by decide +kernel
theorem dX12_on_21 : decode cX12_on 21 = .ok (.iaload, 1) := by decide +kernel
theorem dX12_on_22 : decode cX12_on 22 = .ok (.iload_n 1, 1) := by decide +kernel
theorem dX12_on_23 : decode cX12_on 23 = .ok (.if_icmp .ne 5, 3) := by decide +kernel
theorem dX12_on_26 : decode cX12_on 26 = .ok (.iload_n 2, 1) := by decide +kernel
theorem dX12_on_27 : decode cX12_on 27 = .ok (.ireturn, 1) := by decide +kernel
theorem dX12_on_28 : decode cX12_on 28 = .ok (.iinc 2 1, 3) := by decide +kernel
theorem dX12_on_31 : decode cX12_on 31 = .ok (.goto (-29), 3) := by decide +kernel
theorem dX12_on_34 : decode cX12_on 34 = .ok (.iconst (-1), 1) := by decide +kernel
theorem dX12_on_35 : decode cX12_on 35 = .ok (.ireturn, 1) := by decide +kernel
theorem dX12_wayOf_0 : decode cX12_wayOf 0 = .ok (.iconst 0, 1) := by decide +kernel
theorem dX12_wayOf_1 : decode cX12_wayOf 1 = .ok (.istore_n 2, 1) := by decide +kernel
theorem dX12_wayOf_2 : decode cX12_wayOf 2 = .ok (.aload_n 0, 1) := by decide +kernel
theorem dX12_wayOf_3 : decode cX12_wayOf 3 = .ok (.getfield 7, 3) := by decide +kernel
theorem dX12_wayOf_6 : decode cX12_wayOf 6 = .ok (.bipush 16, 2) := by decide +kernel
theorem dX12_wayOf_8 : decode cX12_wayOf 8 = .ok (.aload_n 0, 1) := by decide +kernel
theorem dX12_wayOf_9 : decode cX12_wayOf 9 = .ok (.getfield 7, 3) := by decide +kernel
theorem dX12_wayOf_12 : decode cX12_wayOf 12 = .ok (.bipush 19, 2) := by decide +kernel
theorem dX12_wayOf_14 : decode cX12_wayOf 14 = .ok (.iload_n 1, 1) := by decide +kernel
theorem dX12_wayOf_15 : decode cX12_wayOf 15 = .ok (.iadd, 1) := by decide +kernel
theorem dX12_wayOf_16 : decode cX12_wayOf 16 = .ok (.iaload, 1) := by decide +kernel
theorem dX12_wayOf_17 : decode cX12_wayOf 17 = .ok (.iadd, 1) := by decide +kernel
theorem dX12_wayOf_18 : decode cX12_wayOf 18 = .ok (.iaload, 1) := by decide +kernel
theorem dX12_wayOf_19 : decode cX12_wayOf 19 = .ok (.iconst 1, 1) := by decide +kernel
theorem dX12_wayOf_20 : decode cX12_wayOf 20 = .ok (.if_icmp .ne 7, 3) := by decide +kernel
theorem dX12_wayOf_23 : decode cX12_wayOf 23 = .ok (.iconst 1, 1) := by decide +kernel
theorem dX12_wayOf_24 : decode cX12_wayOf 24 = .ok (.goto 4, 3) := by decide +kernel
theorem dX12_wayOf_27 : decode cX12_wayOf 27 = .ok (.iconst 0, 1) := by decide +kernel
theorem dX12_wayOf_28 : decode cX12_wayOf 28 = .ok (.istore_n 3, 1) := by decide +kernel
theorem dX12_wayOf_29 : decode cX12_wayOf 29 = .ok (.iconst 0, 1) := by decide +kernel
theorem dX12_wayOf_30 : decode cX12_wayOf 30 = .ok (.istore 4, 2) := by decide +kernel
theorem dX12_wayOf_32 : decode cX12_wayOf 32 = .ok (.iload 4, 2) := by decide +kernel
theorem dX12_wayOf_34 : decode cX12_wayOf 34 = .ok (.aload_n 0, 1) := by decide +kernel
theorem dX12_wayOf_35 : decode cX12_wayOf 35 = .ok (.getfield 7, 3) := by decide +kernel
theorem dX12_wayOf_38 : decode cX12_wayOf 38 = .ok (.iconst 5, 1) := by decide +kernel
theorem dX12_wayOf_39 : decode cX12_wayOf 39 = .ok (.iaload, 1) := by decide +kernel
theorem dX12_wayOf_40 : decode cX12_wayOf 40 = .ok (.if_icmp .ge 57, 3) := by decide +kernel
theorem dX12_wayOf_43 : decode cX12_wayOf 43 = .ok (.aload_n 0, 1) := by decide +kernel
theorem dX12_wayOf_44 : decode cX12_wayOf 44 = .ok (.getfield 7, 3) := by decide +kernel
theorem dX12_wayOf_47 : decode cX12_wayOf 47 = .ok (.bipush 19, 2) := by decide +kernel
theorem dX12_wayOf_49 : decode cX12_wayOf 49 = .ok (.iload 4, 2) := by decide +kernel
theorem dX12_wayOf_51 : decode cX12_wayOf 51 = .ok (.iadd, 1) := by decide +kernel
theorem dX12_wayOf_52 : decode cX12_wayOf 52 = .ok (.iaload, 1) := by decide +kernel
theorem dX12_wayOf_53 : decode cX12_wayOf 53 = .ok (.aload_n 0, 1) := by decide +kernel
theorem dX12_wayOf_54 : decode cX12_wayOf 54 = .ok (.getfield 7, 3) := by decide +kernel
theorem dX12_wayOf_57 : decode cX12_wayOf 57 = .ok (.bipush 19, 2) := by decide +kernel
theorem dX12_wayOf_59 : decode cX12_wayOf 59 = .ok (.iload_n 1, 1) := by decide +kernel
theorem dX12_wayOf_60 : decode cX12_wayOf 60 = .ok (.iadd, 1) := by decide +kernel
theorem dX12_wayOf_61 : decode cX12_wayOf 61 = .ok (.iaload, 1) := by decide +kernel
theorem dX12_wayOf_62 : decode cX12_wayOf 62 = .ok (.if_icmp .ne 29, 3) := by decide +kernel
theorem dX12_wayOf_65 : decode cX12_wayOf 65 = .ok (.iload_n 3, 1) := by decide +kernel
theorem dX12_wayOf_66 : decode cX12_wayOf 66 = .ok (.ifCond .eq 12, 3) := by decide +kernel
theorem dX12_wayOf_69 : decode cX12_wayOf 69 = .ok (.iload 4, 2) := by decide +kernel
theorem dX12_wayOf_71 : decode cX12_wayOf 71 = .ok (.iload_n 1, 1) := by decide +kernel
theorem dX12_wayOf_72 : decode cX12_wayOf 72 = .ok (.if_icmp .le 19, 3) := by decide +kernel
theorem dX12_wayOf_75 : decode cX12_wayOf 75 = .ok (.goto 9, 3) := by decide +kernel
theorem dX12_wayOf_78 : decode cX12_wayOf 78 = .ok (.iload 4, 2) := by decide +kernel
theorem dX12_wayOf_80 : decode cX12_wayOf 80 = .ok (.iload_n 1, 1) := by decide +kernel
theorem dX12_wayOf_81 : decode cX12_wayOf 81 = .ok (.if_icmp .ge 10, 3) := by decide +kernel
theorem dX12_wayOf_84 : decode cX12_wayOf 84 = .ok (.iload_n 2, 1) := by decide +kernel
theorem dX12_wayOf_85 : decode cX12_wayOf 85 = .ok (.iconst 1, 1) := by decide +kernel
theorem dX12_wayOf_86 : decode cX12_wayOf 86 = .ok (.iload 4, 2) := by decide +kernel
theorem dX12_wayOf_88 : decode cX12_wayOf 88 = .ok (.ishl, 1) := by decide +kernel
theorem dX12_wayOf_89 : decode cX12_wayOf 89 = .ok (.ior, 1) := by decide +kernel
theorem dX12_wayOf_90 : decode cX12_wayOf 90 = .ok (.istore_n 2, 1) := by decide +kernel
theorem dX12_wayOf_91 : decode cX12_wayOf 91 = .ok (.iinc 4 1, 3) := by decide +kernel
theorem dX12_wayOf_94 : decode cX12_wayOf 94 = .ok (.goto (-62), 3) := by decide +kernel
theorem dX12_wayOf_97 : decode cX12_wayOf 97 = .ok (.iload_n 2, 1) := by decide +kernel
theorem dX12_wayOf_98 : decode cX12_wayOf 98 = .ok (.ireturn, 1) := by decide +kernel
theorem dX12_weightOn_0 : decode cX12_weightOn 0 = .ok (.aload_n 0, 1) := by decide +kernel
theorem dX12_weightOn_1 : decode cX12_weightOn 1 = .ok (.iload_n 1, 1) := by decide +kernel
theorem dX12_weightOn_2 : decode cX12_weightOn 2 = .ok (.invokevirtual 210, 3) := by decide +kernel
theorem dX12_weightOn_5 : decode cX12_weightOn 5 = .ok (.istore_n 2, 1) := by decide +kernel
theorem dX12_weightOn_6 : decode cX12_weightOn 6 = .ok (.iload_n 2, 1) := by decide +kernel
theorem dX12_weightOn_7 : decode cX12_weightOn 7 = .ok (.ifCond .ge 7, 3) := by decide +kernel
theorem dX12_weightOn_10 : decode cX12_weightOn 10 = .ok (.iconst 0, 1) := by decide +kernel
theorem dX12_weightOn_11 : decode cX12_weightOn 11 = .ok (.goto 12, 3) := by decide +kernel
theorem dX12_weightOn_14 : decode cX12_weightOn 14 = .ok (.aload_n 0, 1) := by decide +kernel
theorem dX12_weightOn_15 : decode cX12_weightOn 15 = .ok (.getfield 7, 3) := by decide +kernel
theorem dX12_weightOn_18 : decode cX12_weightOn 18 = .ok (.bipush 83, 2) := by decide +kernel
theorem dX12_weightOn_20 : decode cX12_weightOn 20 = .ok (.iload_n 2, 1) := by decide +kernel
theorem dX12_weightOn_21 : decode cX12_weightOn 21 = .ok (.iadd, 1) := by decide +kernel
theorem dX12_weightOn_22 : decode cX12_weightOn 22 = .ok (.iaload, 1) := by decide +kernel
theorem dX12_weightOn_23 : decode cX12_weightOn 23 = .ok (.ireturn, 1) := by decide +kernel
theorem dX12_inHold_0 : decode cX12_inHold 0 = .ok (.iconst 0, 1) := by decide +kernel
theorem dX12_inHold_1 : decode cX12_inHold 1 = .ok (.istore_n 2, 1) := by decide +kernel
theorem dX12_inHold_2 : decode cX12_inHold 2 = .ok (.iconst 0, 1) := by decide +kernel
theorem dX12_inHold_3 : decode cX12_inHold 3 = .ok (.istore_n 3, 1) := by decide +kernel
theorem dX12_inHold_4 : decode cX12_inHold 4 = .ok (.iload_n 3, 1) := by decide +kernel
theorem dX12_inHold_5 : decode cX12_inHold 5 = .ok (.aload_n 0, 1) := by decide +kernel
theorem dX12_inHold_6 : decode cX12_inHold 6 = .ok (.getfield 7, 3) := by decide +kernel
theorem dX12_inHold_9 : decode cX12_inHold 9 = .ok (.iconst 5, 1) := by decide +kernel
theorem dX12_inHold_10 : decode cX12_inHold 10 = .ok (.iaload, 1) := by decide +kernel
theorem dX12_inHold_11 : decode cX12_inHold 11 = .ok (.if_icmp .ge 34, 3) := by decide +kernel
theorem dX12_inHold_14 : decode cX12_inHold 14 = .ok (.iload_n 2, 1) := by decide +kernel
theorem dX12_inHold_15 : decode cX12_inHold 15 = .ok (.aload_n 0, 1) := by decide +kernel
theorem dX12_inHold_16 : decode cX12_inHold 16 = .ok (.getfield 7, 3) := by decide +kernel
theorem dX12_inHold_19 : decode cX12_inHold 19 = .ok (.bipush 19, 2) := by decide +kernel
theorem dX12_inHold_21 : decode cX12_inHold 21 = .ok (.iload_n 3, 1) := by decide +kernel
theorem dX12_inHold_22 : decode cX12_inHold 22 = .ok (.iadd, 1) := by decide +kernel
theorem dX12_inHold_23 : decode cX12_inHold 23 = .ok (.iaload, 1) := by decide +kernel
theorem dX12_inHold_24 : decode cX12_inHold 24 = .ok (.iload_n 1, 1) := by decide +kernel
theorem dX12_inHold_25 : decode cX12_inHold 25 = .ok (.if_icmp .ne 11, 3) := by decide +kernel
theorem dX12_inHold_28 : decode cX12_inHold 28 = .ok (.aload_n 0, 1) := by decide +kernel
theorem dX12_inHold_29 : decode cX12_inHold 29 = .ok (.iload_n 3, 1) := by decide +kernel
theorem dX12_inHold_30 : decode cX12_inHold 30 = .ok (.invokevirtual 213, 3) := by decide +kernel
theorem dX12_inHold_33 : decode cX12_inHold 33 = .ok (.goto 4, 3) := by decide +kernel
theorem dX12_inHold_36 : decode cX12_inHold 36 = .ok (.iconst 0, 1) := by decide +kernel
theorem dX12_inHold_37 : decode cX12_inHold 37 = .ok (.iadd, 1) := by decide +kernel
theorem dX12_inHold_38 : decode cX12_inHold 38 = .ok (.istore_n 2, 1) := by decide +kernel
theorem dX12_inHold_39 : decode cX12_inHold 39 = .ok (.iinc 3 1, 3) := by decide +kernel
theorem dX12_inHold_42 : decode cX12_inHold 42 = .ok (.goto (-38), 3) := by decide +kernel
theorem dX12_inHold_45 : decode cX12_inHold 45 = .ok (.iload_n 2, 1) := by decide +kernel
theorem dX12_inHold_46 : decode cX12_inHold 46 = .ok (.ireturn, 1) := by decide +kernel
theorem dX12_count_0 : decode cX12_count 0 = .ok (.iload_n 1, 1) := by decide +kernel
theorem dX12_count_1 : decode cX12_count 1 = .ok (.iconst 0, 1) := by decide +kernel
theorem dX12_count_2 : decode cX12_count 2 = .ok (.bipush 8, 2) := by decide +kernel
theorem dX12_count_4 : decode cX12_count 4 = .ok (.invokestatic 73, 3) := by decide +kernel
theorem dX12_count_7 : decode cX12_count 7 = .ok (.ifCond .eq 12, 3) := by decide +kernel
theorem dX12_count_10 : decode cX12_count 10 = .ok (.aload_n 0, 1) := by decide +kernel
theorem dX12_count_11 : decode cX12_count 11 = .ok (.getfield 7, 3) := by decide +kernel
theorem dX12_count_14 : decode cX12_count 14 = .ok (.iconst 4, 1) := by decide +kernel
theorem dX12_count_15 : decode cX12_count 15 = .ok (.iload_n 1, 1) := by decide +kernel
theorem dX12_count_16 : decode cX12_count 16 = .ok (.iadd, 1) := by decide +kernel
theorem dX12_count_17 : decode cX12_count 17 = .ok (.iaload, 1) := by decide +kernel
theorem dX12_count_18 : decode cX12_count 18 = .ok (.ireturn, 1) := by decide +kernel
theorem dX12_count_19 : decode cX12_count 19 = .ok (.iload_n 1, 1) := by decide +kernel
theorem dX12_count_20 : decode cX12_count 20 = .ok (.bipush 10, 2) := by decide +kernel
theorem dX12_count_22 : decode cX12_count 22 = .ok (.if_icmp .ne 8, 3) := by decide +kernel
theorem dX12_count_25 : decode cX12_count 25 = .ok (.aload_n 0, 1) := by decide +kernel
theorem dX12_count_26 : decode cX12_count 26 = .ok (.getfield 59, 3) := by decide +kernel
theorem dX12_count_29 : decode cX12_count 29 = .ok (.ireturn, 1) := by decide +kernel
theorem dX12_count_30 : decode cX12_count 30 = .ok (.iconst 0, 1) := by decide +kernel
theorem dX12_count_31 : decode cX12_count 31 = .ok (.istore_n 2, 1) := by decide +kernel
theorem dX12_count_32 : decode cX12_count 32 = .ok (.iconst 0, 1) := by decide +kernel
theorem dX12_count_33 : decode cX12_count 33 = .ok (.istore_n 3, 1) := by decide +kernel
theorem dX12_count_34 : decode cX12_count 34 = .ok (.iload_n 3, 1) := by decide +kernel
theorem dX12_count_35 : decode cX12_count 35 = .ok (.aload_n 0, 1) := by decide +kernel
theorem dX12_count_36 : decode cX12_count 36 = .ok (.getfield 7, 3) := by decide +kernel
theorem dX12_count_39 : decode cX12_count 39 = .ok (.bipush 11, 2) := by decide +kernel
theorem dX12_count_41 : decode cX12_count 41 = .ok (.iaload, 1) := by decide +kernel
theorem dX12_count_42 : decode cX12_count 42 = .ok (.if_icmp .ge 29, 3) := by decide +kernel
theorem dX12_count_45 : decode cX12_count 45 = .ok (.iload_n 2, 1) := by decide +kernel
theorem dX12_count_46 : decode cX12_count 46 = .ok (.aload_n 0, 1) := by decide +kernel
theorem dX12_count_47 : decode cX12_count 47 = .ok (.getfield 7, 3) := by decide +kernel
theorem dX12_count_50 : decode cX12_count 50 = .ok (.bipush 93, 2) := by decide +kernel
theorem dX12_count_52 : decode cX12_count 52 = .ok (.iload_n 3, 1) := by decide +kernel
theorem dX12_count_53 : decode cX12_count 53 = .ok (.iadd, 1) := by decide +kernel
theorem dX12_count_54 : decode cX12_count 54 = .ok (.iaload, 1) := by decide +kernel
theorem dX12_count_55 : decode cX12_count 55 = .ok (.ifCond .ge 7, 3) := by decide +kernel
theorem dX12_count_58 : decode cX12_count 58 = .ok (.iconst 1, 1) := by decide +kernel
theorem dX12_count_59 : decode cX12_count 59 = .ok (.goto 4, 3) := by decide +kernel
theorem dX12_count_62 : decode cX12_count 62 = .ok (.iconst 0, 1) := by decide +kernel
theorem dX12_count_63 : decode cX12_count 63 = .ok (.iadd, 1) := by decide +kernel
theorem dX12_count_64 : decode cX12_count 64 = .ok (.istore_n 2, 1) := by decide +kernel
theorem dX12_count_65 : decode cX12_count 65 = .ok (.iinc 3 1, 3) := by decide +kernel
theorem dX12_count_68 : decode cX12_count 68 = .ok (.goto (-34), 3) := by decide +kernel
theorem dX12_count_71 : decode cX12_count 71 = .ok (.iload_n 1, 1) := by decide +kernel
theorem dX12_count_72 : decode cX12_count 72 = .ok (.bipush 9, 2) := by decide +kernel
theorem dX12_count_74 : decode cX12_count 74 = .ok (.if_icmp .ne 7, 3) := by decide +kernel
theorem dX12_count_77 : decode cX12_count 77 = .ok (.iload_n 2, 1) := by decide +kernel
theorem dX12_count_78 : decode cX12_count 78 = .ok (.goto 4, 3) := by decide +kernel
theorem dX12_count_81 : decode cX12_count 81 = .ok (.iconst (-1), 1) := by decide +kernel
theorem dX12_count_82 : decode cX12_count 82 = .ok (.ireturn, 1) := by decide +kernel
theorem dX12_pallet_0 : decode cX12_pallet 0 = .ok (.aload_n 0, 1) := by decide +kernel
theorem dX12_pallet_1 : decode cX12_pallet 1 = .ok (.iload_n 1, 1) := by decide +kernel
theorem dX12_pallet_2 : decode cX12_pallet 2 = .ok (.invokevirtual 216, 3) := by decide +kernel
theorem dX12_pallet_5 : decode cX12_pallet 5 = .ok (.ifCond .ne 5, 3) := by decide +kernel
theorem dX12_pallet_8 : decode cX12_pallet 8 = .ok (.iconst (-1), 1) := by decide +kernel
theorem dX12_pallet_9 : decode cX12_pallet 9 = .ok (.ireturn, 1) := by decide +kernel
theorem dX12_pallet_10 : decode cX12_pallet 10 = .ok (.iload_n 2, 1) := by decide +kernel
theorem dX12_pallet_11 : decode cX12_pallet 11 = .ok (.tableswitch 69 0 3 #[29, 39, 49, 59], 29) := by decide +kernel
theorem dX12_pallet_40 : decode cX12_pallet 40 = .ok (.aload_n 0, 1) := by decide +kernel
theorem dX12_pallet_41 : decode cX12_pallet 41 = .ok (.getfield 7, 3) := by decide +kernel
theorem dX12_pallet_44 : decode cX12_pallet 44 = .ok (.bipush 83, 2) := by decide +kernel
theorem dX12_pallet_46 : decode cX12_pallet 46 = .ok (.iload_n 1, 1) := by decide +kernel
theorem dX12_pallet_47 : decode cX12_pallet 47 = .ok (.iadd, 1) := by decide +kernel
theorem dX12_pallet_48 : decode cX12_pallet 48 = .ok (.iaload, 1) := by decide +kernel
theorem dX12_pallet_49 : decode cX12_pallet 49 = .ok (.ireturn, 1) := by decide +kernel
theorem dX12_pallet_50 : decode cX12_pallet 50 = .ok (.aload_n 0, 1) := by decide +kernel
theorem dX12_pallet_51 : decode cX12_pallet 51 = .ok (.getfield 7, 3) := by decide +kernel
theorem dX12_pallet_54 : decode cX12_pallet 54 = .ok (.bipush 88, 2) := by decide +kernel
theorem dX12_pallet_56 : decode cX12_pallet 56 = .ok (.iload_n 1, 1) := by decide +kernel
theorem dX12_pallet_57 : decode cX12_pallet 57 = .ok (.iadd, 1) := by decide +kernel
theorem dX12_pallet_58 : decode cX12_pallet 58 = .ok (.iaload, 1) := by decide +kernel
theorem dX12_pallet_59 : decode cX12_pallet 59 = .ok (.ireturn, 1) := by decide +kernel
theorem dX12_pallet_60 : decode cX12_pallet 60 = .ok (.aload_n 0, 1) := by decide +kernel
theorem dX12_pallet_61 : decode cX12_pallet 61 = .ok (.getfield 7, 3) := by decide +kernel
theorem dX12_pallet_64 : decode cX12_pallet 64 = .ok (.bipush 93, 2) := by decide +kernel
theorem dX12_pallet_66 : decode cX12_pallet 66 = .ok (.iload_n 1, 1) := by decide +kernel
theorem dX12_pallet_67 : decode cX12_pallet 67 = .ok (.iadd, 1) := by decide +kernel
theorem dX12_pallet_68 : decode cX12_pallet 68 = .ok (.iaload, 1) := by decide +kernel
theorem dX12_pallet_69 : decode cX12_pallet 69 = .ok (.ireturn, 1) := by decide +kernel
theorem dX12_pallet_70 : decode cX12_pallet 70 = .ok (.aload_n 0, 1) := by decide +kernel
theorem dX12_pallet_71 : decode cX12_pallet 71 = .ok (.getfield 7, 3) := by decide +kernel
theorem dX12_pallet_74 : decode cX12_pallet 74 = .ok (.bipush 98, 2) := by decide +kernel
theorem dX12_pallet_76 : decode cX12_pallet 76 = .ok (.iload_n 1, 1) := by decide +kernel
theorem dX12_pallet_77 : decode cX12_pallet 77 = .ok (.iadd, 1) := by decide +kernel
theorem dX12_pallet_78 : decode cX12_pallet 78 = .ok (.iaload, 1) := by decide +kernel
theorem dX12_pallet_79 : decode cX12_pallet 79 = .ok (.ireturn, 1) := by decide +kernel
theorem dX12_pallet_80 : decode cX12_pallet 80 = .ok (.iconst (-1), 1) := by decide +kernel
theorem dX12_pallet_81 : decode cX12_pallet 81 = .ok (.ireturn, 1) := by decide +kernel
theorem dX12_named_0 : decode cX12_named 0 = .ok (.aload_n 0, 1) := by decide +kernel
theorem dX12_named_1 : decode cX12_named 1 = .ok (.aload_n 0, 1) := by decide +kernel
theorem dX12_named_2 : decode cX12_named 2 = .ok (.getfield 59, 3) := by decide +kernel
theorem dX12_named_5 : decode cX12_named 5 = .ok (.putfield 70, 3) := by decide +kernel
theorem dX12_named_8 : decode cX12_named 8 = .ok (.aload_n 0, 1) := by decide +kernel
theorem dX12_named_9 : decode cX12_named 9 = .ok (.iconst 0, 1) := by decide +kernel
theorem dX12_named_10 : decode cX12_named 10 = .ok (.putfield 59, 3) := by decide +kernel
theorem dX12_named_13 : decode cX12_named 13 = .ok (.aload_n 0, 1) := by decide +kernel
theorem dX12_named_14 : decode cX12_named 14 = .ok (.getfield 70, 3) := by decide +kernel
theorem dX12_named_17 : decode cX12_named 17 = .ok (.bipush 8, 2) := by decide +kernel
theorem dX12_named_19 : decode cX12_named 19 = .ok (.if_icmp .le 7, 3) := by decide +kernel
theorem dX12_named_22 : decode cX12_named 22 = .ok (.iconst (-1), 1) := by decide +kernel
theorem dX12_named_23 : decode cX12_named 23 = .ok (.goto 19, 3) := by decide +kernel
theorem dX12_named_26 : decode cX12_named 26 = .ok (.aload_n 0, 1) := by decide +kernel
theorem dX12_named_27 : decode cX12_named 27 = .ok (.getfield 7, 3) := by decide +kernel
theorem dX12_named_30 : decode cX12_named 30 = .ok (.aload_n 0, 1) := by decide +kernel
theorem dX12_named_31 : decode cX12_named 31 = .ok (.getfield 26, 3) := by decide +kernel
theorem dX12_named_34 : decode cX12_named 34 = .ok (.iconst 0, 1) := by decide +kernel
theorem dX12_named_35 : decode cX12_named 35 = .ok (.aload_n 0, 1) := by decide +kernel
theorem dX12_named_36 : decode cX12_named 36 = .ok (.getfield 70, 3) := by decide +kernel
theorem dX12_named_39 : decode cX12_named 39 = .ok (.invokestatic 194, 3) := by decide +kernel
theorem dX12_named_42 : decode cX12_named 42 = .ok (.ireturn, 1) := by decide +kernel
theorem dX12_spot_0 : decode cX12_spot 0 = .ok (.aload_n 0, 1) := by decide +kernel
theorem dX12_spot_1 : decode cX12_spot 1 = .ok (.iload_n 1, 1) := by decide +kernel
theorem dX12_spot_2 : decode cX12_spot 2 = .ok (.invokevirtual 219, 3) := by decide +kernel
theorem dX12_spot_5 : decode cX12_spot 5 = .ok (.ifCond .ne 5, 3) := by decide +kernel
theorem dX12_spot_8 : decode cX12_spot 8 = .ok (.iconst (-1), 1) := by decide +kernel
theorem dX12_spot_9 : decode cX12_spot 9 = .ok (.ireturn, 1) := by decide +kernel
theorem dX12_spot_10 : decode cX12_spot 10 = .ok (.iload_n 2, 1) := by decide +kernel
theorem dX12_spot_11 : decode cX12_spot 11 = .ok (.tableswitch 75 0 4 #[33, 43, 53, 63, 69], 33) := by decide +kernel
theorem dX12_spot_44 : decode cX12_spot 44 = .ok (.aload_n 0, 1) := by decide +kernel
theorem dX12_spot_45 : decode cX12_spot 45 = .ok (.getfield 7, 3) := by decide +kernel
theorem dX12_spot_48 : decode cX12_spot 48 = .ok (.bipush 19, 2) := by decide +kernel
theorem dX12_spot_50 : decode cX12_spot 50 = .ok (.iload_n 1, 1) := by decide +kernel
theorem dX12_spot_51 : decode cX12_spot 51 = .ok (.iadd, 1) := by decide +kernel
theorem dX12_spot_52 : decode cX12_spot 52 = .ok (.iaload, 1) := by decide +kernel
theorem dX12_spot_53 : decode cX12_spot 53 = .ok (.ireturn, 1) := by decide +kernel
theorem dX12_spot_54 : decode cX12_spot 54 = .ok (.aload_n 0, 1) := by decide +kernel
theorem dX12_spot_55 : decode cX12_spot 55 = .ok (.getfield 7, 3) := by decide +kernel
theorem dX12_spot_58 : decode cX12_spot 58 = .ok (.bipush 25, 2) := by decide +kernel
theorem dX12_spot_60 : decode cX12_spot 60 = .ok (.iload_n 1, 1) := by decide +kernel
theorem dX12_spot_61 : decode cX12_spot 61 = .ok (.iadd, 1) := by decide +kernel
theorem dX12_spot_62 : decode cX12_spot 62 = .ok (.iaload, 1) := by decide +kernel
theorem dX12_spot_63 : decode cX12_spot 63 = .ok (.ireturn, 1) := by decide +kernel
theorem dX12_spot_64 : decode cX12_spot 64 = .ok (.aload_n 0, 1) := by decide +kernel
theorem dX12_spot_65 : decode cX12_spot 65 = .ok (.getfield 7, 3) := by decide +kernel
theorem dX12_spot_68 : decode cX12_spot 68 = .ok (.bipush 31, 2) := by decide +kernel
theorem dX12_spot_70 : decode cX12_spot 70 = .ok (.iload_n 1, 1) := by decide +kernel
theorem dX12_spot_71 : decode cX12_spot 71 = .ok (.iadd, 1) := by decide +kernel
theorem dX12_spot_72 : decode cX12_spot 72 = .ok (.iaload, 1) := by decide +kernel
theorem dX12_spot_73 : decode cX12_spot 73 = .ok (.ireturn, 1) := by decide +kernel
theorem dX12_spot_74 : decode cX12_spot 74 = .ok (.aload_n 0, 1) := by decide +kernel
theorem dX12_spot_75 : decode cX12_spot 75 = .ok (.iload_n 1, 1) := by decide +kernel
theorem dX12_spot_76 : decode cX12_spot 76 = .ok (.invokevirtual 210, 3) := by decide +kernel
theorem dX12_spot_79 : decode cX12_spot 79 = .ok (.ireturn, 1) := by decide +kernel
theorem dX12_spot_80 : decode cX12_spot 80 = .ok (.aload_n 0, 1) := by decide +kernel
theorem dX12_spot_81 : decode cX12_spot 81 = .ok (.iload_n 1, 1) := by decide +kernel
theorem dX12_spot_82 : decode cX12_spot 82 = .ok (.invokevirtual 222, 3) := by decide +kernel
theorem dX12_spot_85 : decode cX12_spot 85 = .ok (.ireturn, 1) := by decide +kernel
theorem dX12_spot_86 : decode cX12_spot 86 = .ok (.iconst (-1), 1) := by decide +kernel
theorem dX12_spot_87 : decode cX12_spot 87 = .ok (.ireturn, 1) := by decide +kernel
theorem dX12_in_0 : decode cX12_in 0 = .ok (.iload_n 1, 1) := by decide +kernel
theorem dX12_in_1 : decode cX12_in 1 = .ok (.ifCond .ne 30, 3) := by decide +kernel
theorem dX12_in_4 : decode cX12_in 4 = .ok (.iload_n 2, 1) := by decide +kernel
theorem dX12_in_5 : decode cX12_in 5 = .ok (.iconst 0, 1) := by decide +kernel
theorem dX12_in_6 : decode cX12_in 6 = .ok (.aload_n 0, 1) := by decide +kernel
theorem dX12_in_7 : decode cX12_in 7 = .ok (.getfield 7, 3) := by decide +kernel
theorem dX12_in_10 : decode cX12_in 10 = .ok (.bipush 7, 2) := by decide +kernel
theorem dX12_in_12 : decode cX12_in 12 = .ok (.iaload, 1) := by decide +kernel
theorem dX12_in_13 : decode cX12_in 13 = .ok (.iconst 1, 1) := by decide +kernel
theorem dX12_in_14 : decode cX12_in 14 = .ok (.isub, 1) := by decide +kernel
theorem dX12_in_15 : decode cX12_in 15 = .ok (.invokestatic 73, 3) := by decide +kernel
theorem dX12_in_18 : decode cX12_in 18 = .ok (.ifCond .eq 13, 3) := by decide +kernel
theorem dX12_in_21 : decode cX12_in 21 = .ok (.aload_n 0, 1) := by decide +kernel
theorem dX12_in_22 : decode cX12_in 22 = .ok (.getfield 7, 3) := by decide +kernel
theorem dX12_in_25 : decode cX12_in 25 = .ok (.bipush 51, 2) := by decide +kernel
theorem dX12_in_27 : decode cX12_in 27 = .ok (.iload_n 2, 1) := by decide +kernel
theorem dX12_in_28 : decode cX12_in 28 = .ok (.iadd, 1) := by decide +kernel
theorem dX12_in_29 : decode cX12_in 29 = .ok (.iaload, 1) := by decide +kernel
theorem dX12_in_30 : decode cX12_in 30 = .ok (.ireturn, 1) := by decide +kernel
theorem dX12_in_31 : decode cX12_in 31 = .ok (.iload_n 1, 1) := by decide +kernel
theorem dX12_in_32 : decode cX12_in 32 = .ok (.iconst 1, 1) := by decide +kernel
theorem dX12_in_33 : decode cX12_in 33 = .ok (.if_icmp .ne 30, 3) := by decide +kernel
theorem dX12_in_36 : decode cX12_in 36 = .ok (.iload_n 2, 1) := by decide +kernel
theorem dX12_in_37 : decode cX12_in 37 = .ok (.iconst 0, 1) := by decide +kernel
theorem dX12_in_38 : decode cX12_in 38 = .ok (.aload_n 0, 1) := by decide +kernel
theorem dX12_in_39 : decode cX12_in 39 = .ok (.getfield 7, 3) := by decide +kernel
theorem dX12_in_42 : decode cX12_in 42 = .ok (.bipush 8, 2) := by decide +kernel
theorem dX12_in_44 : decode cX12_in 44 = .ok (.iaload, 1) := by decide +kernel
theorem dX12_in_45 : decode cX12_in 45 = .ok (.iconst 1, 1) := by decide +kernel
theorem dX12_in_46 : decode cX12_in 46 = .ok (.isub, 1) := by decide +kernel
theorem dX12_in_47 : decode cX12_in 47 = .ok (.invokestatic 73, 3) := by decide +kernel
theorem dX12_in_50 : decode cX12_in 50 = .ok (.ifCond .eq 13, 3) := by decide +kernel
theorem dX12_in_53 : decode cX12_in 53 = .ok (.aload_n 0, 1) := by decide +kernel
theorem dX12_in_54 : decode cX12_in 54 = .ok (.getfield 7, 3) := by decide +kernel
theorem dX12_in_57 : decode cX12_in 57 = .ok (.bipush 56, 2) := by decide +kernel
theorem dX12_in_59 : decode cX12_in 59 = .ok (.iload_n 2, 1) := by decide +kernel
theorem dX12_in_60 : decode cX12_in 60 = .ok (.iadd, 1) := by decide +kernel
theorem dX12_in_61 : decode cX12_in 61 = .ok (.iaload, 1) := by decide +kernel
theorem dX12_in_62 : decode cX12_in 62 = .ok (.ireturn, 1) := by decide +kernel
theorem dX12_in_63 : decode cX12_in 63 = .ok (.iload_n 1, 1) := by decide +kernel
theorem dX12_in_64 : decode cX12_in 64 = .ok (.iconst 2, 1) := by decide +kernel
theorem dX12_in_65 : decode cX12_in 65 = .ok (.if_icmp .ne 27, 3) := by decide +kernel
theorem dX12_in_68 : decode cX12_in 68 = .ok (.iload_n 2, 1) := by decide +kernel
theorem dX12_in_69 : decode cX12_in 69 = .ok (.iconst 0, 1) := by decide +kernel
theorem dX12_in_70 : decode cX12_in 70 = .ok (.aload_n 0, 1) := by decide +kernel
theorem dX12_in_71 : decode cX12_in 71 = .ok (.getfield 7, 3) := by decide +kernel
theorem dX12_in_74 : decode cX12_in 74 = .ok (.iconst 4, 1) := by decide +kernel
theorem dX12_in_75 : decode cX12_in 75 = .ok (.iaload, 1) := by decide +kernel
theorem dX12_in_76 : decode cX12_in 76 = .ok (.iconst 1, 1) := by decide +kernel
theorem dX12_in_77 : decode cX12_in 77 = .ok (.isub, 1) := by decide +kernel
theorem dX12_in_78 : decode cX12_in 78 = .ok (.invokestatic 73, 3) := by decide +kernel
theorem dX12_in_81 : decode cX12_in 81 = .ok (.ifCond .eq 11, 3) := by decide +kernel
theorem dX12_in_84 : decode cX12_in 84 = .ok (.aload_n 0, 1) := by decide +kernel
theorem dX12_in_85 : decode cX12_in 85 = .ok (.iload_n 2, 1) := by decide +kernel
theorem dX12_in_86 : decode cX12_in 86 = .ok (.invokevirtual 225, 3) := by decide +kernel
theorem dX12_in_89 : decode cX12_in 89 = .ok (.goto 4, 3) := by decide +kernel
theorem dX12_in_92 : decode cX12_in 92 = .ok (.iconst (-1), 1) := by decide +kernel
theorem dX12_in_93 : decode cX12_in 93 = .ok (.ireturn, 1) := by decide +kernel
theorem dX12_keeps_0 : decode cX12_keeps 0 = .ok (.aload_n 0, 1) := by decide +kernel
theorem dX12_keeps_1 : decode cX12_keeps 1 = .ok (.getfield 191, 3) := by decide +kernel
theorem dX12_keeps_4 : decode cX12_keeps 4 = .ok (.bipush 8, 2) := by decide +kernel
theorem dX12_keeps_6 : decode cX12_keeps 6 = .ok (.if_icmp .ne 44, 3) := by decide +kernel
theorem dX12_keeps_9 : decode cX12_keeps 9 = .ok (.iconst 0, 1) := by decide +kernel
theorem dX12_keeps_10 : decode cX12_keeps 10 = .ok (.istore_n 1, 1) := by decide +kernel
theorem dX12_keeps_11 : decode cX12_keeps 11 = .ok (.iload_n 1, 1) := by decide +kernel
theorem dX12_keeps_12 : decode cX12_keeps 12 = .ok (.sipush 1001, 3) := by decide +kernel
theorem dX12_keeps_15 : decode cX12_keeps 15 = .ok (.if_icmp .ge 25, 3) := by decide +kernel
theorem dX12_keeps_18 : decode cX12_keeps 18 = .ok (.aload_n 0, 1) := by decide +kernel
theorem dX12_keeps_19 : decode cX12_keeps 19 = .ok (.getfield 19, 3) := by decide +kernel
theorem dX12_keeps_22 : decode cX12_keeps 22 = .ok (.iload_n 1, 1) := by decide +kernel
theorem dX12_keeps_23 : decode cX12_keeps 23 = .ok (.aload_n 0, 1) := by decide +kernel
theorem dX12_keeps_24 : decode cX12_keeps 24 = .ok (.getfield 19, 3) := by decide +kernel
theorem dX12_keeps_27 : decode cX12_keeps 27 = .ok (.iload_n 1, 1) := by decide +kernel
theorem dX12_keeps_28 : decode cX12_keeps 28 = .ok (.sipush 143, 3) := by decide +kernel
theorem dX12_keeps_31 : decode cX12_keeps 31 = .ok (.iadd, 1) := by decide +kernel
theorem dX12_keeps_32 : decode cX12_keeps 32 = .ok (.iaload, 1) := by decide +kernel
theorem dX12_keeps_33 : decode cX12_keeps 33 = .ok (.iastore, 1) := by decide +kernel
theorem dX12_keeps_34 : decode cX12_keeps 34 = .ok (.iinc 1 1, 3) := by decide +kernel
theorem dX12_keeps_37 : decode cX12_keeps 37 = .ok (.goto (-26), 3) := by decide +kernel
theorem dX12_keeps_40 : decode cX12_keeps 40 = .ok (.aload_n 0, 1) := by decide +kernel
theorem dX12_keeps_41 : decode cX12_keeps 41 = .ok (.dup, 1) := by decide +kernel
theorem dX12_keeps_42 : decode cX12_keeps 42 = .ok (.getfield 191, 3) := by decide +kernel
theorem dX12_keeps_45 : decode cX12_keeps 45 = .ok (.iconst 1, 1) := by decide +kernel
theorem dX12_keeps_46 : decode cX12_keeps 46 = .ok (.isub, 1) := by decide +kernel
theorem dX12_keeps_47 : decode cX12_keeps 47 = .ok (.putfield 191, 3) := by decide +kernel
theorem dX12_keeps_50 : decode cX12_keeps 50 = .ok (.aload_n 0, 1) := by decide +kernel
theorem dX12_keeps_51 : decode cX12_keeps 51 = .ok (.getfield 7, 3) := by decide +kernel
theorem dX12_keeps_54 : decode cX12_keeps 54 = .ok (.iconst 0, 1) := by decide +kernel
theorem dX12_keeps_55 : decode cX12_keeps 55 = .ok (.aload_n 0, 1) := by decide +kernel
theorem dX12_keeps_56 : decode cX12_keeps 56 = .ok (.getfield 19, 3) := by decide +kernel
theorem dX12_keeps_59 : decode cX12_keeps 59 = .ok (.sipush 143, 3) := by decide +kernel
theorem dX12_keeps_62 : decode cX12_keeps 62 = .ok (.aload_n 0, 1) := by decide +kernel
theorem dX12_keeps_63 : decode cX12_keeps 63 = .ok (.getfield 191, 3) := by decide +kernel
theorem dX12_keeps_66 : decode cX12_keeps 66 = .ok (.imul, 1) := by decide +kernel
theorem dX12_keeps_67 : decode cX12_keeps 67 = .ok (.invokestatic 187, 3) := by decide +kernel
theorem dX12_keeps_70 : decode cX12_keeps 70 = .ok (.aload_n 0, 1) := by decide +kernel
theorem dX12_keeps_71 : decode cX12_keeps 71 = .ok (.dup, 1) := by decide +kernel
theorem dX12_keeps_72 : decode cX12_keeps 72 = .ok (.getfield 191, 3) := by decide +kernel
theorem dX12_keeps_75 : decode cX12_keeps 75 = .ok (.iconst 1, 1) := by decide +kernel
theorem dX12_keeps_76 : decode cX12_keeps 76 = .ok (.iadd, 1) := by decide +kernel
theorem dX12_keeps_77 : decode cX12_keeps 77 = .ok (.putfield 191, 3) := by decide +kernel
theorem dX12_keeps_80 : decode cX12_keeps 80 = .ok (.return_, 1) := by decide +kernel
theorem dX12_undo_0 : decode cX12_undo 0 = .ok (.aload_n 0, 1) := by decide +kernel
theorem dX12_undo_1 : decode cX12_undo 1 = .ok (.getfield 191, 3) := by decide +kernel
theorem dX12_undo_4 : decode cX12_undo 4 = .ok (.ifCond .ne 5, 3) := by decide +kernel
theorem dX12_undo_7 : decode cX12_undo 7 = .ok (.iconst (-1), 1) := by decide +kernel
theorem dX12_undo_8 : decode cX12_undo 8 = .ok (.ireturn, 1) := by decide +kernel
theorem dX12_undo_9 : decode cX12_undo 9 = .ok (.aload_n 0, 1) := by decide +kernel
theorem dX12_undo_10 : decode cX12_undo 10 = .ok (.dup, 1) := by decide +kernel
theorem dX12_undo_11 : decode cX12_undo 11 = .ok (.getfield 191, 3) := by decide +kernel
theorem dX12_undo_14 : decode cX12_undo 14 = .ok (.iconst 1, 1) := by decide +kernel
theorem dX12_undo_15 : decode cX12_undo 15 = .ok (.isub, 1) := by decide +kernel
theorem dX12_undo_16 : decode cX12_undo 16 = .ok (.putfield 191, 3) := by decide +kernel
theorem dX12_undo_19 : decode cX12_undo 19 = .ok (.aload_n 0, 1) := by decide +kernel
theorem dX12_undo_20 : decode cX12_undo 20 = .ok (.getfield 19, 3) := by decide +kernel
theorem dX12_undo_23 : decode cX12_undo 23 = .ok (.sipush 143, 3) := by decide +kernel
theorem dX12_undo_26 : decode cX12_undo 26 = .ok (.aload_n 0, 1) := by decide +kernel
theorem dX12_undo_27 : decode cX12_undo 27 = .ok (.getfield 191, 3) := by decide +kernel
theorem dX12_undo_30 : decode cX12_undo 30 = .ok (.imul, 1) := by decide +kernel
theorem dX12_undo_31 : decode cX12_undo 31 = .ok (.aload_n 0, 1) := by decide +kernel
theorem dX12_undo_32 : decode cX12_undo 32 = .ok (.getfield 7, 3) := by decide +kernel
theorem dX12_undo_35 : decode cX12_undo 35 = .ok (.iconst 0, 1) := by decide +kernel
theorem dX12_undo_36 : decode cX12_undo 36 = .ok (.invokestatic 187, 3) := by decide +kernel
theorem dX12_undo_39 : decode cX12_undo 39 = .ok (.aload_n 0, 1) := by decide +kernel
theorem dX12_undo_40 : decode cX12_undo 40 = .ok (.getfield 191, 3) := by decide +kernel
theorem dX12_undo_43 : decode cX12_undo 43 = .ok (.ireturn, 1) := by decide +kernel
theorem dX12_image_0 : decode cX12_image 0 = .ok (.iload_n 1, 1) := by decide +kernel
theorem dX12_image_1 : decode cX12_image 1 = .ok (.iconst 0, 1) := by decide +kernel
theorem dX12_image_2 : decode cX12_image 2 = .ok (.iconst 1, 1) := by decide +kernel
theorem dX12_image_3 : decode cX12_image 3 = .ok (.invokestatic 73, 3) := by decide +kernel
theorem dX12_image_6 : decode cX12_image 6 = .ok (.ifCond .ne 5, 3) := by decide +kernel
theorem dX12_image_9 : decode cX12_image 9 = .ok (.iconst 0, 1) := by decide +kernel
theorem dX12_image_10 : decode cX12_image 10 = .ok (.ireturn, 1) := by decide +kernel
theorem dX12_image_11 : decode cX12_image 11 = .ok (.aload_n 0, 1) := by decide +kernel
theorem dX12_image_12 : decode cX12_image 12 = .ok (.getfield 7, 3) := by decide +kernel
theorem dX12_image_15 : decode cX12_image 15 = .ok (.iconst 0, 1) := by decide +kernel
theorem dX12_image_16 : decode cX12_image 16 = .ok (.aload_n 0, 1) := by decide +kernel
theorem dX12_image_17 : decode cX12_image 17 = .ok (.getfield 16, 3) := by decide +kernel
theorem dX12_image_20 : decode cX12_image 20 = .ok (.sipush 143, 3) := by decide +kernel
theorem dX12_image_23 : decode cX12_image 23 = .ok (.iload_n 1, 1) := by decide +kernel
theorem dX12_image_24 : decode cX12_image 24 = .ok (.imul, 1) := by decide +kernel
theorem dX12_image_25 : decode cX12_image 25 = .ok (.invokestatic 187, 3) := by decide +kernel
theorem dX12_image_28 : decode cX12_image 28 = .ok (.aload_n 0, 1) := by decide +kernel
theorem dX12_image_29 : decode cX12_image 29 = .ok (.getfield 22, 3) := by decide +kernel
theorem dX12_image_32 : decode cX12_image 32 = .ok (.iload_n 1, 1) := by decide +kernel
theorem dX12_image_33 : decode cX12_image 33 = .ok (.iconst 1, 1) := by decide +kernel
theorem dX12_image_34 : decode cX12_image 34 = .ok (.bastore, 1) := by decide +kernel
theorem dX12_image_35 : decode cX12_image 35 = .ok (.iconst 1, 1) := by decide +kernel
theorem dX12_image_36 : decode cX12_image 36 = .ok (.ireturn, 1) := by decide +kernel
theorem dX12_restore_0 : decode cX12_restore 0 = .ok (.iload_n 1, 1) := by decide +kernel
theorem dX12_restore_1 : decode cX12_restore 1 = .ok (.iconst 0, 1) := by decide +kernel
theorem dX12_restore_2 : decode cX12_restore 2 = .ok (.iconst 1, 1) := by decide +kernel
theorem dX12_restore_3 : decode cX12_restore 3 = .ok (.invokestatic 73, 3) := by decide +kernel
theorem dX12_restore_6 : decode cX12_restore 6 = .ok (.ifCond .eq 12, 3) := by decide +kernel
theorem dX12_restore_9 : decode cX12_restore 9 = .ok (.aload_n 0, 1) := by decide +kernel
theorem dX12_restore_10 : decode cX12_restore 10 = .ok (.getfield 22, 3) := by decide +kernel
theorem dX12_restore_13 : decode cX12_restore 13 = .ok (.iload_n 1, 1) := by decide +kernel
theorem dX12_restore_14 : decode cX12_restore 14 = .ok (.baload, 1) := by decide +kernel
theorem dX12_restore_15 : decode cX12_restore 15 = .ok (.ifCond .ne 5, 3) := by decide +kernel
theorem dX12_restore_18 : decode cX12_restore 18 = .ok (.iconst 0, 1) := by decide +kernel
theorem dX12_restore_19 : decode cX12_restore 19 = .ok (.ireturn, 1) := by decide +kernel
theorem dX12_restore_20 : decode cX12_restore 20 = .ok (.aload_n 0, 1) := by decide +kernel
theorem dX12_restore_21 : decode cX12_restore 21 = .ok (.getfield 16, 3) := by decide +kernel
theorem dX12_restore_24 : decode cX12_restore 24 = .ok (.sipush 143, 3) := by decide +kernel
theorem dX12_restore_27 : decode cX12_restore 27 = .ok (.iload_n 1, 1) := by decide +kernel
theorem dX12_restore_28 : decode cX12_restore 28 = .ok (.imul, 1) := by decide +kernel
theorem dX12_restore_29 : decode cX12_restore 29 = .ok (.aload_n 0, 1) := by decide +kernel
theorem dX12_restore_30 : decode cX12_restore 30 = .ok (.getfield 7, 3) := by decide +kernel
theorem dX12_restore_33 : decode cX12_restore 33 = .ok (.iconst 0, 1) := by decide +kernel
theorem dX12_restore_34 : decode cX12_restore 34 = .ok (.invokestatic 187, 3) := by decide +kernel
theorem dX12_restore_37 : decode cX12_restore 37 = .ok (.aload_n 0, 1) := by decide +kernel
theorem dX12_restore_38 : decode cX12_restore 38 = .ok (.iconst 0, 1) := by decide +kernel
theorem dX12_restore_39 : decode cX12_restore 39 = .ok (.putfield 191, 3) := by decide +kernel
theorem dX12_restore_42 : decode cX12_restore 42 = .ok (.iconst 1, 1) := by decide +kernel
theorem dX12_restore_43 : decode cX12_restore 43 = .ok (.ireturn, 1) := by decide +kernel
theorem dX12_sets0_0 : decode cX12_sets0 0 = .ok (.aload_n 0, 1) := by decide +kernel
theorem dX12_sets0_1 : decode cX12_sets0 1 = .ok (.getfield 7, 3) := by decide +kernel
theorem dX12_sets0_4 : decode cX12_sets0 4 = .ok (.iload_n 1, 1) := by decide +kernel
theorem dX12_sets0_5 : decode cX12_sets0 5 = .ok (.iaload, 1) := by decide +kernel
theorem dX12_sets0_6 : decode cX12_sets0 6 = .ok (.iload_n 2, 1) := by decide +kernel
theorem dX12_sets0_7 : decode cX12_sets0 7 = .ok (.if_icmp .ne 5, 3) := by decide +kernel
theorem dX12_sets0_10 : decode cX12_sets0 10 = .ok (.iconst 1, 1) := by decide +kernel
theorem dX12_sets0_11 : decode cX12_sets0 11 = .ok (.ireturn, 1) := by decide +kernel
theorem dX12_sets0_12 : decode cX12_sets0 12 = .ok (.aload_n 0, 1) := by decide +kernel
theorem dX12_sets0_13 : decode cX12_sets0 13 = .ok (.invokevirtual 228, 3) := by decide +kernel
theorem dX12_sets0_16 : decode cX12_sets0 16 = .ok (.aload_n 0, 1) := by decide +kernel
theorem dX12_sets0_17 : decode cX12_sets0 17 = .ok (.getfield 7, 3) := by decide +kernel
theorem dX12_sets0_20 : decode cX12_sets0 20 = .ok (.iload_n 1, 1) := by decide +kernel
theorem dX12_sets0_21 : decode cX12_sets0 21 = .ok (.iload_n 2, 1) := by decide +kernel
theorem dX12_sets0_22 : decode cX12_sets0 22 = .ok (.iastore, 1) := by decide +kernel
theorem dX12_sets0_23 : decode cX12_sets0 23 = .ok (.iconst 0, 1) := by decide +kernel
theorem dX12_sets0_24 : decode cX12_sets0 24 = .ok (.ireturn, 1) := by decide +kernel
theorem dX12_put_0 : decode cX12_put 0 = .ok (.aload_n 0, 1) := by decide +kernel
theorem dX12_put_1 : decode cX12_put 1 = .ok (.iload_n 1, 1) := by decide +kernel
theorem dX12_put_2 : decode cX12_put 2 = .ok (.invokevirtual 216, 3) := by decide +kernel
theorem dX12_put_5 : decode cX12_put 5 = .ok (.ifCond .eq 11, 3) := by decide +kernel
theorem dX12_put_8 : decode cX12_put 8 = .ok (.aload_n 0, 1) := by decide +kernel
theorem dX12_put_9 : decode cX12_put 9 = .ok (.iload_n 2, 1) := by decide +kernel
theorem dX12_put_10 : decode cX12_put 10 = .ok (.invokevirtual 219, 3) := by decide +kernel
theorem dX12_put_13 : decode cX12_put 13 = .ok (.ifCond .ne 5, 3) := by decide +kernel
theorem dX12_put_16 : decode cX12_put 16 = .ok (.iconst (-1), 1) := by decide +kernel
theorem dX12_put_17 : decode cX12_put 17 = .ok (.ireturn, 1) := by decide +kernel
theorem dX12_put_18 : decode cX12_put 18 = .ok (.aload_n 0, 1) := by decide +kernel
theorem dX12_put_19 : decode cX12_put 19 = .ok (.iload_n 2, 1) := by decide +kernel
theorem dX12_put_20 : decode cX12_put 20 = .ok (.invokevirtual 210, 3) := by decide +kernel
theorem dX12_put_23 : decode cX12_put 23 = .ok (.ifCond .lt 18, 3) := by decide +kernel
theorem dX12_put_26 : decode cX12_put 26 = .ok (.aload_n 0, 1) := by decide +kernel
theorem dX12_put_27 : decode cX12_put 27 = .ok (.iload_n 2, 1) := by decide +kernel
theorem dX12_put_28 : decode cX12_put 28 = .ok (.invokevirtual 210, 3) := by decide +kernel
theorem dX12_put_31 : decode cX12_put 31 = .ok (.iload_n 1, 1) := by decide +kernel
theorem dX12_put_32 : decode cX12_put 32 = .ok (.if_icmp .ne 7, 3) := by decide +kernel
theorem dX12_put_35 : decode cX12_put 35 = .ok (.iconst 2, 1) := by decide +kernel
theorem dX12_put_36 : decode cX12_put 36 = .ok (.goto 4, 3) := by decide +kernel
theorem dX12_put_39 : decode cX12_put 39 = .ok (.iconst 1, 1) := by decide +kernel
theorem dX12_put_40 : decode cX12_put 40 = .ok (.ireturn, 1) := by decide +kernel
theorem dX12_put_41 : decode cX12_put 41 = .ok (.aload_n 0, 1) := by decide +kernel
theorem dX12_put_42 : decode cX12_put 42 = .ok (.bipush 93, 2) := by decide +kernel
theorem dX12_put_44 : decode cX12_put 44 = .ok (.iload_n 1, 1) := by decide +kernel
theorem dX12_put_45 : decode cX12_put 45 = .ok (.iadd, 1) := by decide +kernel
theorem dX12_put_46 : decode cX12_put 46 = .ok (.iload_n 2, 1) := by decide +kernel
theorem dX12_put_47 : decode cX12_put 47 = .ok (.invokevirtual 231, 3) := by decide +kernel
theorem dX12_put_50 : decode cX12_put 50 = .ok (.ireturn, 1) := by decide +kernel
theorem dX12_off_0 : decode cX12_off 0 = .ok (.aload_n 0, 1) := by decide +kernel
theorem dX12_off_1 : decode cX12_off 1 = .ok (.iload_n 1, 1) := by decide +kernel
theorem dX12_off_2 : decode cX12_off 2 = .ok (.invokevirtual 216, 3) := by decide +kernel
theorem dX12_off_5 : decode cX12_off 5 = .ok (.ifCond .eq 15, 3) := by decide +kernel
theorem dX12_off_8 : decode cX12_off 8 = .ok (.aload_n 0, 1) := by decide +kernel
theorem dX12_off_9 : decode cX12_off 9 = .ok (.getfield 7, 3) := by decide +kernel
theorem dX12_off_12 : decode cX12_off 12 = .ok (.bipush 93, 2) := by decide +kernel
theorem dX12_off_14 : decode cX12_off 14 = .ok (.iload_n 1, 1) := by decide +kernel
theorem dX12_off_15 : decode cX12_off 15 = .ok (.iadd, 1) := by decide +kernel
theorem dX12_off_16 : decode cX12_off 16 = .ok (.iaload, 1) := by decide +kernel
theorem dX12_off_17 : decode cX12_off 17 = .ok (.ifCond .ge 5, 3) := by decide +kernel
theorem dX12_off_20 : decode cX12_off 20 = .ok (.iconst (-1), 1) := by decide +kernel
theorem dX12_off_21 : decode cX12_off 21 = .ok (.ireturn, 1) := by decide +kernel
theorem dX12_off_22 : decode cX12_off 22 = .ok (.aload_n 0, 1) := by decide +kernel
theorem dX12_off_23 : decode cX12_off 23 = .ok (.invokevirtual 228, 3) := by decide +kernel
theorem dX12_off_26 : decode cX12_off 26 = .ok (.aload_n 0, 1) := by decide +kernel
theorem dX12_off_27 : decode cX12_off 27 = .ok (.getfield 7, 3) := by decide +kernel
theorem dX12_off_30 : decode cX12_off 30 = .ok (.bipush 93, 2) := by decide +kernel
theorem dX12_off_32 : decode cX12_off 32 = .ok (.iload_n 1, 1) := by decide +kernel
theorem dX12_off_33 : decode cX12_off 33 = .ok (.iadd, 1) := by decide +kernel
theorem dX12_off_34 : decode cX12_off 34 = .ok (.iaload, 1) := by decide +kernel
theorem dX12_off_35 : decode cX12_off 35 = .ok (.istore_n 2, 1) := by decide +kernel
theorem dX12_off_36 : decode cX12_off 36 = .ok (.aload_n 0, 1) := by decide +kernel
theorem dX12_off_37 : decode cX12_off 37 = .ok (.getfield 7, 3) := by decide +kernel
theorem dX12_off_40 : decode cX12_off 40 = .ok (.bipush 93, 2) := by decide +kernel
theorem dX12_off_42 : decode cX12_off 42 = .ok (.iload_n 1, 1) := by decide +kernel
theorem dX12_off_43 : decode cX12_off 43 = .ok (.iadd, 1) := by decide +kernel
theorem dX12_off_44 : decode cX12_off 44 = .ok (.iconst (-1), 1) := by decide +kernel
theorem dX12_off_45 : decode cX12_off 45 = .ok (.iastore, 1) := by decide +kernel
theorem dX12_off_46 : decode cX12_off 46 = .ok (.iload_n 2, 1) := by decide +kernel
theorem dX12_off_47 : decode cX12_off 47 = .ok (.ireturn, 1) := by decide +kernel
theorem dX12_pour_0 : decode cX12_pour 0 = .ok (.iload_n 1, 1) := by decide +kernel
theorem dX12_pour_1 : decode cX12_pour 1 = .ok (.iconst 0, 1) := by decide +kernel
theorem dX12_pour_2 : decode cX12_pour 2 = .ok (.aload_n 0, 1) := by decide +kernel
theorem dX12_pour_3 : decode cX12_pour 3 = .ok (.getfield 7, 3) := by decide +kernel
theorem dX12_pour_6 : decode cX12_pour 6 = .ok (.bipush 7, 2) := by decide +kernel
theorem dX12_pour_8 : decode cX12_pour 8 = .ok (.iaload, 1) := by decide +kernel
theorem dX12_pour_9 : decode cX12_pour 9 = .ok (.iconst 1, 1) := by decide +kernel
theorem dX12_pour_10 : decode cX12_pour 10 = .ok (.isub, 1) := by decide +kernel
theorem dX12_pour_11 : decode cX12_pour 11 = .ok (.invokestatic 73, 3) := by decide +kernel
theorem dX12_pour_14 : decode cX12_pour 14 = .ok (.ifCond .eq 32, 3) := by decide +kernel
theorem dX12_pour_17 : decode cX12_pour 17 = .ok (.iload_n 2, 1) := by decide +kernel
theorem dX12_pour_18 : decode cX12_pour 18 = .ok (.iconst 0, 1) := by decide +kernel
theorem dX12_pour_19 : decode cX12_pour 19 = .ok (.aload_n 0, 1) := by decide +kernel
theorem dX12_pour_20 : decode cX12_pour 20 = .ok (.getfield 7, 3) := by decide +kernel
theorem dX12_pour_23 : decode cX12_pour 23 = .ok (.bipush 49, 2) := by decide +kernel
theorem dX12_pour_25 : decode cX12_pour 25 = .ok (.iload_n 1, 1) := by decide +kernel
theorem dX12_pour_26 : decode cX12_pour 26 = .ok (.iadd, 1) := by decide +kernel
theorem dX12_pour_27 : decode cX12_pour 27 = .ok (.iaload, 1) := by decide +kernel
theorem dX12_pour_28 : decode cX12_pour 28 = .ok (.invokestatic 73, 3) := by decide +kernel
theorem dX12_pour_31 : decode cX12_pour 31 = .ok (.ifCond .eq 15, 3) := by decide +kernel
theorem dX12_pour_34 : decode cX12_pour 34 = .ok (.aload_n 0, 1) := by decide +kernel
theorem dX12_pour_35 : decode cX12_pour 35 = .ok (.bipush 51, 2) := by decide +kernel
theorem dX12_pour_37 : decode cX12_pour 37 = .ok (.iload_n 1, 1) := by decide +kernel
theorem dX12_pour_38 : decode cX12_pour 38 = .ok (.iadd, 1) := by decide +kernel
theorem dX12_pour_39 : decode cX12_pour 39 = .ok (.iload_n 2, 1) := by decide +kernel
theorem dX12_pour_40 : decode cX12_pour 40 = .ok (.invokevirtual 231, 3) := by decide +kernel
theorem dX12_pour_43 : decode cX12_pour 43 = .ok (.goto 4, 3) := by decide +kernel
theorem dX12_pour_46 : decode cX12_pour 46 = .ok (.iconst (-1), 1) := by decide +kernel
theorem dX12_pour_47 : decode cX12_pour 47 = .ok (.ireturn, 1) := by decide +kernel
theorem dX12_weigh_0 : decode cX12_weigh 0 = .ok (.aload_n 0, 1) := by decide +kernel
theorem dX12_weigh_1 : decode cX12_weigh 1 = .ok (.iload_n 1, 1) := by decide +kernel
theorem dX12_weigh_2 : decode cX12_weigh 2 = .ok (.invokevirtual 216, 3) := by decide +kernel
theorem dX12_weigh_5 : decode cX12_weigh 5 = .ok (.ifCond .eq 25, 3) := by decide +kernel
theorem dX12_weigh_8 : decode cX12_weigh 8 = .ok (.iload_n 2, 1) := by decide +kernel
theorem dX12_weigh_9 : decode cX12_weigh 9 = .ok (.iconst 1, 1) := by decide +kernel
theorem dX12_weigh_10 : decode cX12_weigh 10 = .ok (.bipush 99, 2) := by decide +kernel
theorem dX12_weigh_12 : decode cX12_weigh 12 = .ok (.invokestatic 73, 3) := by decide +kernel
theorem dX12_weigh_15 : decode cX12_weigh 15 = .ok (.ifCond .eq 15, 3) := by decide +kernel
theorem dX12_weigh_18 : decode cX12_weigh 18 = .ok (.aload_n 0, 1) := by decide +kernel
theorem dX12_weigh_19 : decode cX12_weigh 19 = .ok (.bipush 83, 2) := by decide +kernel
theorem dX12_weigh_21 : decode cX12_weigh 21 = .ok (.iload_n 1, 1) := by decide +kernel
theorem dX12_weigh_22 : decode cX12_weigh 22 = .ok (.iadd, 1) := by decide +kernel
theorem dX12_weigh_23 : decode cX12_weigh 23 = .ok (.iload_n 2, 1) := by decide +kernel
theorem dX12_weigh_24 : decode cX12_weigh 24 = .ok (.invokevirtual 231, 3) := by decide +kernel
theorem dX12_weigh_27 : decode cX12_weigh 27 = .ok (.goto 4, 3) := by decide +kernel
theorem dX12_weigh_30 : decode cX12_weigh 30 = .ok (.iconst (-1), 1) := by decide +kernel
theorem dX12_weigh_31 : decode cX12_weigh 31 = .ok (.ireturn, 1) := by decide +kernel
theorem dX12_movesPallet_0 : decode cX12_movesPallet 0 = .ok (.aload_n 0, 1) := by decide +kernel
theorem dX12_movesPallet_1 : decode cX12_movesPallet 1 = .ok (.getfield 7, 3) := by decide +kernel
theorem dX12_movesPallet_4 : decode cX12_movesPallet 4 = .ok (.bipush 83, 2) := by decide +kernel
theorem dX12_movesPallet_6 : decode cX12_movesPallet 6 = .ok (.iload_n 3, 1) := by decide +kernel
theorem dX12_movesPallet_7 : decode cX12_movesPallet 7 = .ok (.iadd, 1) := by decide +kernel
theorem dX12_movesPallet_8 : decode cX12_movesPallet 8 = .ok (.aload_n 1, 1) := by decide +kernel
theorem dX12_movesPallet_9 : decode cX12_movesPallet 9 = .ok (.bipush 83, 2) := by decide +kernel
theorem dX12_movesPallet_11 : decode cX12_movesPallet 11 = .ok (.iload_n 2, 1) := by decide +kernel
theorem dX12_movesPallet_12 : decode cX12_movesPallet 12 = .ok (.iadd, 1) := by decide +kernel
theorem dX12_movesPallet_13 : decode cX12_movesPallet 13 = .ok (.iaload, 1) := by decide +kernel
theorem dX12_movesPallet_14 : decode cX12_movesPallet 14 = .ok (.iastore, 1) := by decide +kernel
theorem dX12_movesPallet_15 : decode cX12_movesPallet 15 = .ok (.aload_n 0, 1) := by decide +kernel
theorem dX12_movesPallet_16 : decode cX12_movesPallet 16 = .ok (.getfield 7, 3) := by decide +kernel
theorem dX12_movesPallet_19 : decode cX12_movesPallet 19 = .ok (.bipush 88, 2) := by decide +kernel
theorem dX12_movesPallet_21 : decode cX12_movesPallet 21 = .ok (.iload_n 3, 1) := by decide +kernel
theorem dX12_movesPallet_22 : decode cX12_movesPallet 22 = .ok (.iadd, 1) := by decide +kernel
theorem dX12_movesPallet_23 : decode cX12_movesPallet 23 = .ok (.aload_n 1, 1) := by decide +kernel
theorem dX12_movesPallet_24 : decode cX12_movesPallet 24 = .ok (.bipush 88, 2) := by decide +kernel
theorem dX12_movesPallet_26 : decode cX12_movesPallet 26 = .ok (.iload_n 2, 1) := by decide +kernel
theorem dX12_movesPallet_27 : decode cX12_movesPallet 27 = .ok (.iadd, 1) := by decide +kernel
theorem dX12_movesPallet_28 : decode cX12_movesPallet 28 = .ok (.iaload, 1) := by decide +kernel
theorem dX12_movesPallet_29 : decode cX12_movesPallet 29 = .ok (.iastore, 1) := by decide +kernel
theorem dX12_movesPallet_30 : decode cX12_movesPallet 30 = .ok (.aload_n 0, 1) := by decide +kernel
theorem dX12_movesPallet_31 : decode cX12_movesPallet 31 = .ok (.getfield 7, 3) := by decide +kernel
theorem dX12_movesPallet_34 : decode cX12_movesPallet 34 = .ok (.bipush 93, 2) := by decide +kernel
theorem dX12_movesPallet_36 : decode cX12_movesPallet 36 = .ok (.iload_n 3, 1) := by decide +kernel
theorem dX12_movesPallet_37 : decode cX12_movesPallet 37 = .ok (.iadd, 1) := by decide +kernel
theorem dX12_movesPallet_38 : decode cX12_movesPallet 38 = .ok (.aload_n 1, 1) := by decide +kernel
theorem dX12_movesPallet_39 : decode cX12_movesPallet 39 = .ok (.bipush 93, 2) := by decide +kernel
theorem dX12_movesPallet_41 : decode cX12_movesPallet 41 = .ok (.iload_n 2, 1) := by decide +kernel
theorem dX12_movesPallet_42 : decode cX12_movesPallet 42 = .ok (.iadd, 1) := by decide +kernel
theorem dX12_movesPallet_43 : decode cX12_movesPallet 43 = .ok (.iaload, 1) := by decide +kernel
theorem dX12_movesPallet_44 : decode cX12_movesPallet 44 = .ok (.iastore, 1) := by decide +kernel
theorem dX12_movesPallet_45 : decode cX12_movesPallet 45 = .ok (.aload_n 0, 1) := by decide +kernel
theorem dX12_movesPallet_46 : decode cX12_movesPallet 46 = .ok (.getfield 7, 3) := by decide +kernel
theorem dX12_movesPallet_49 : decode cX12_movesPallet 49 = .ok (.bipush 98, 2) := by decide +kernel
theorem dX12_movesPallet_51 : decode cX12_movesPallet 51 = .ok (.iload_n 3, 1) := by decide +kernel
theorem dX12_movesPallet_52 : decode cX12_movesPallet 52 = .ok (.iadd, 1) := by decide +kernel
theorem dX12_movesPallet_53 : decode cX12_movesPallet 53 = .ok (.aload_n 1, 1) := by decide +kernel
theorem dX12_movesPallet_54 : decode cX12_movesPallet 54 = .ok (.bipush 98, 2) := by decide +kernel
theorem dX12_movesPallet_56 : decode cX12_movesPallet 56 = .ok (.iload_n 2, 1) := by decide +kernel
theorem dX12_movesPallet_57 : decode cX12_movesPallet 57 = .ok (.iadd, 1) := by decide +kernel
theorem dX12_movesPallet_58 : decode cX12_movesPallet 58 = .ok (.iaload, 1) := by decide +kernel
theorem dX12_movesPallet_59 : decode cX12_movesPallet 59 = .ok (.iastore, 1) := by decide +kernel
theorem dX12_movesPallet_60 : decode cX12_movesPallet 60 = .ok (.iconst 0, 1) := by decide +kernel
theorem dX12_movesPallet_61 : decode cX12_movesPallet 61 = .ok (.istore 4, 2) := by decide +kernel
theorem dX12_movesPallet_63 : decode cX12_movesPallet 63 = .ok (.iload 4, 2) := by decide +kernel
theorem dX12_movesPallet_65 : decode cX12_movesPallet 65 = .ok (.bipush 8, 2) := by decide +kernel
theorem dX12_movesPallet_67 : decode cX12_movesPallet 67 = .ok (.if_icmp .ge 36, 3) := by decide +kernel
theorem dX12_movesPallet_70 : decode cX12_movesPallet 70 = .ok (.aload_n 0, 1) := by decide +kernel
theorem dX12_movesPallet_71 : decode cX12_movesPallet 71 = .ok (.getfield 7, 3) := by decide +kernel
theorem dX12_movesPallet_74 : decode cX12_movesPallet 74 = .ok (.bipush 103, 2) := by decide +kernel
theorem dX12_movesPallet_76 : decode cX12_movesPallet 76 = .ok (.bipush 8, 2) := by decide +kernel
theorem dX12_movesPallet_78 : decode cX12_movesPallet 78 = .ok (.iload_n 3, 1) := by decide +kernel
theorem dX12_movesPallet_79 : decode cX12_movesPallet 79 = .ok (.imul, 1) := by decide +kernel
theorem dX12_movesPallet_80 : decode cX12_movesPallet 80 = .ok (.iadd, 1) := by decide +kernel
theorem dX12_movesPallet_81 : decode cX12_movesPallet 81 = .ok (.iload 4, 2) := by decide +kernel
theorem dX12_movesPallet_83 : decode cX12_movesPallet 83 = .ok (.iadd, 1) := by decide +kernel
theorem dX12_movesPallet_84 : decode cX12_movesPallet 84 = .ok (.aload_n 1, 1) := by decide +kernel
theorem dX12_movesPallet_85 : decode cX12_movesPallet 85 = .ok (.bipush 103, 2) := by decide +kernel
theorem dX12_movesPallet_87 : decode cX12_movesPallet 87 = .ok (.bipush 8, 2) := by decide +kernel
theorem dX12_movesPallet_89 : decode cX12_movesPallet 89 = .ok (.iload_n 2, 1) := by decide +kernel
theorem dX12_movesPallet_90 : decode cX12_movesPallet 90 = .ok (.imul, 1) := by decide +kernel
theorem dX12_movesPallet_91 : decode cX12_movesPallet 91 = .ok (.iadd, 1) := by decide +kernel
theorem dX12_movesPallet_92 : decode cX12_movesPallet 92 = .ok (.iload 4, 2) := by decide +kernel
theorem dX12_movesPallet_94 : decode cX12_movesPallet 94 = .ok (.iadd, 1) := by decide +kernel
theorem dX12_movesPallet_95 : decode cX12_movesPallet 95 = .ok (.iaload, 1) := by decide +kernel
theorem dX12_movesPallet_96 : decode cX12_movesPallet 96 = .ok (.iastore, 1) := by decide +kernel
theorem dX12_movesPallet_97 : decode cX12_movesPallet 97 = .ok (.iinc 4 1, 3) := by decide +kernel
theorem dX12_movesPallet_100 : decode cX12_movesPallet 100 = .ok (.goto (-37), 3) := by decide +kernel
theorem dX12_movesPallet_103 : decode cX12_movesPallet 103 = .ok (.return_, 1) := by decide +kernel
theorem dX12_come_0 : decode cX12_come 0 = .ok (.aload_n 0, 1) := by decide +kernel
theorem dX12_come_1 : decode cX12_come 1 = .ok (.getfield 7, 3) := by decide +kernel
theorem dX12_come_4 : decode cX12_come 4 = .ok (.bipush 11, 2) := by decide +kernel
theorem dX12_come_6 : decode cX12_come 6 = .ok (.iaload, 1) := by decide +kernel
theorem dX12_come_7 : decode cX12_come 7 = .ok (.istore_n 3, 1) := by decide +kernel
theorem dX12_come_8 : decode cX12_come 8 = .ok (.iload_n 3, 1) := by decide +kernel
theorem dX12_come_9 : decode cX12_come 9 = .ok (.iconst 5, 1) := by decide +kernel
theorem dX12_come_10 : decode cX12_come 10 = .ok (.if_icmp .eq 23, 3) := by decide +kernel
theorem dX12_come_13 : decode cX12_come 13 = .ok (.iload_n 1, 1) := by decide +kernel
theorem dX12_come_14 : decode cX12_come 14 = .ok (.iconst 1, 1) := by decide +kernel
theorem dX12_come_15 : decode cX12_come 15 = .ok (.bipush 99, 2) := by decide +kernel
theorem dX12_come_17 : decode cX12_come 17 = .ok (.invokestatic 73, 3) := by decide +kernel
theorem dX12_come_20 : decode cX12_come 20 = .ok (.ifCond .eq 13, 3) := by decide +kernel
theorem dX12_come_23 : decode cX12_come 23 = .ok (.iload_n 2, 1) := by decide +kernel
theorem dX12_come_24 : decode cX12_come 24 = .ok (.iconst 1, 1) := by decide +kernel
theorem dX12_come_25 : decode cX12_come 25 = .ok (.bipush 9, 2) := by decide +kernel
theorem dX12_come_27 : decode cX12_come 27 = .ok (.invokestatic 73, 3) := by decide +kernel
theorem dX12_come_30 : decode cX12_come 30 = .ok (.ifCond .ne 5, 3) := by decide +kernel
theorem dX12_come_33 : decode cX12_come 33 = .ok (.iconst (-1), 1) := by decide +kernel
theorem dX12_come_34 : decode cX12_come 34 = .ok (.ireturn, 1) := by decide +kernel
theorem dX12_come_35 : decode cX12_come 35 = .ok (.aload_n 0, 1) := by decide +kernel
theorem dX12_come_36 : decode cX12_come 36 = .ok (.invokevirtual 228, 3) := by decide +kernel
theorem dX12_come_39 : decode cX12_come 39 = .ok (.aload_n 0, 1) := by decide +kernel
theorem dX12_come_40 : decode cX12_come 40 = .ok (.getfield 7, 3) := by decide +kernel
theorem dX12_come_43 : decode cX12_come 43 = .ok (.bipush 83, 2) := by decide +kernel
theorem dX12_come_45 : decode cX12_come 45 = .ok (.iload_n 3, 1) := by decide +kernel
theorem dX12_come_46 : decode cX12_come 46 = .ok (.iadd, 1) := by decide +kernel
theorem dX12_come_47 : decode cX12_come 47 = .ok (.iload_n 1, 1) := by decide +kernel
theorem dX12_come_48 : decode cX12_come 48 = .ok (.iastore, 1) := by decide +kernel
theorem dX12_come_49 : decode cX12_come 49 = .ok (.aload_n 0, 1) := by decide +kernel
theorem dX12_come_50 : decode cX12_come 50 = .ok (.getfield 7, 3) := by decide +kernel
theorem dX12_come_53 : decode cX12_come 53 = .ok (.bipush 88, 2) := by decide +kernel
theorem dX12_come_55 : decode cX12_come 55 = .ok (.iload_n 3, 1) := by decide +kernel
theorem dX12_come_56 : decode cX12_come 56 = .ok (.iadd, 1) := by decide +kernel
theorem dX12_come_57 : decode cX12_come 57 = .ok (.iload_n 2, 1) := by decide +kernel
theorem dX12_come_58 : decode cX12_come 58 = .ok (.iastore, 1) := by decide +kernel
theorem dX12_come_59 : decode cX12_come 59 = .ok (.aload_n 0, 1) := by decide +kernel
theorem dX12_come_60 : decode cX12_come 60 = .ok (.getfield 7, 3) := by decide +kernel
theorem dX12_come_63 : decode cX12_come 63 = .ok (.bipush 93, 2) := by decide +kernel
theorem dX12_come_65 : decode cX12_come 65 = .ok (.iload_n 3, 1) := by decide +kernel
theorem dX12_come_66 : decode cX12_come 66 = .ok (.iadd, 1) := by decide +kernel
theorem dX12_come_67 : decode cX12_come 67 = .ok (.iconst (-1), 1) := by decide +kernel
theorem dX12_come_68 : decode cX12_come 68 = .ok (.iastore, 1) := by decide +kernel
theorem dX12_come_69 : decode cX12_come 69 = .ok (.aload_n 0, 1) := by decide +kernel
theorem dX12_come_70 : decode cX12_come 70 = .ok (.getfield 7, 3) := by decide +kernel
theorem dX12_come_73 : decode cX12_come 73 = .ok (.bipush 98, 2) := by decide +kernel
theorem dX12_come_75 : decode cX12_come 75 = .ok (.iload_n 3, 1) := by decide +kernel
theorem dX12_come_76 : decode cX12_come 76 = .ok (.iadd, 1) := by decide +kernel
theorem dX12_come_77 : decode cX12_come 77 = .ok (.iconst 0, 1) := by decide +kernel
theorem dX12_come_78 : decode cX12_come 78 = .ok (.iastore, 1) := by decide +kernel
theorem dX12_come_79 : decode cX12_come 79 = .ok (.iconst 0, 1) := by decide +kernel
theorem dX12_come_80 : decode cX12_come 80 = .ok (.istore 4, 2) := by decide +kernel
theorem dX12_come_82 : decode cX12_come 82 = .ok (.iload 4, 2) := by decide +kernel
theorem dX12_come_84 : decode cX12_come 84 = .ok (.bipush 8, 2) := by decide +kernel
theorem dX12_come_86 : decode cX12_come 86 = .ok (.if_icmp .ge 25, 3) := by decide +kernel
theorem dX12_come_89 : decode cX12_come 89 = .ok (.aload_n 0, 1) := by decide +kernel
theorem dX12_come_90 : decode cX12_come 90 = .ok (.getfield 7, 3) := by decide +kernel
theorem dX12_come_93 : decode cX12_come 93 = .ok (.bipush 103, 2) := by decide +kernel
theorem dX12_come_95 : decode cX12_come 95 = .ok (.bipush 8, 2) := by decide +kernel
theorem dX12_come_97 : decode cX12_come 97 = .ok (.iload_n 3, 1) := by decide +kernel
theorem dX12_come_98 : decode cX12_come 98 = .ok (.imul, 1) := by decide +kernel
theorem dX12_come_99 : decode cX12_come 99 = .ok (.iadd, 1) := by decide +kernel
theorem dX12_come_100 : decode cX12_come 100 = .ok (.iload 4, 2) := by decide +kernel
theorem dX12_come_102 : decode cX12_come 102 = .ok (.iadd, 1) := by decide +kernel
theorem dX12_come_103 : decode cX12_come 103 = .ok (.iconst 0, 1) := by decide +kernel
theorem dX12_come_104 : decode cX12_come 104 = .ok (.iastore, 1) := by decide +kernel
theorem dX12_come_105 : decode cX12_come 105 = .ok (.iinc 4 1, 3) := by decide +kernel
theorem dX12_come_108 : decode cX12_come 108 = .ok (.goto (-26), 3) := by decide +kernel
theorem dX12_come_111 : decode cX12_come 111 = .ok (.aload_n 0, 1) := by decide +kernel
theorem dX12_come_112 : decode cX12_come 112 = .ok (.getfield 7, 3) := by decide +kernel
theorem dX12_come_115 : decode cX12_come 115 = .ok (.bipush 11, 2) := by decide +kernel
theorem dX12_come_117 : decode cX12_come 117 = .ok (.dup2, 1) := by decide +kernel
theorem dX12_come_118 : decode cX12_come 118 = .ok (.iaload, 1) := by decide +kernel
theorem dX12_come_119 : decode cX12_come 119 = .ok (.iconst 1, 1) := by decide +kernel
theorem dX12_come_120 : decode cX12_come 120 = .ok (.iadd, 1) := by decide +kernel
theorem dX12_come_121 : decode cX12_come 121 = .ok (.iastore, 1) := by decide +kernel
theorem dX12_come_122 : decode cX12_come 122 = .ok (.iload_n 3, 1) := by decide +kernel
theorem dX12_come_123 : decode cX12_come 123 = .ok (.ireturn, 1) := by decide +kernel
theorem dX12_goes_0 : decode cX12_goes 0 = .ok (.iload_n 1, 1) := by decide +kernel
theorem dX12_goes_1 : decode cX12_goes 1 = .ok (.istore_n 2, 1) := by decide +kernel
theorem dX12_goes_2 : decode cX12_goes 2 = .ok (.iload_n 2, 1) := by decide +kernel
theorem dX12_goes_3 : decode cX12_goes 3 = .ok (.aload_n 0, 1) := by decide +kernel
theorem dX12_goes_4 : decode cX12_goes 4 = .ok (.getfield 7, 3) := by decide +kernel
theorem dX12_goes_7 : decode cX12_goes 7 = .ok (.bipush 11, 2) := by decide +kernel
theorem dX12_goes_9 : decode cX12_goes 9 = .ok (.iaload, 1) := by decide +kernel
theorem dX12_goes_10 : decode cX12_goes 10 = .ok (.iconst 1, 1) := by decide +kernel
theorem dX12_goes_11 : decode cX12_goes 11 = .ok (.isub, 1) := by decide +kernel
theorem dX12_goes_12 : decode cX12_goes 12 = .ok (.if_icmp .ge 21, 3) := by decide +kernel
theorem dX12_goes_15 : decode cX12_goes 15 = .ok (.aload_n 0, 1) := by decide +kernel
theorem dX12_goes_16 : decode cX12_goes 16 = .ok (.aload_n 0, 1) := by decide +kernel
theorem dX12_goes_17 : decode cX12_goes 17 = .ok (.getfield 7, 3) := by decide +kernel
theorem dX12_goes_20 : decode cX12_goes 20 = .ok (.iload_n 2, 1) := by decide +kernel
theorem dX12_goes_21 : decode cX12_goes 21 = .ok (.iconst 1, 1) := by decide +kernel
theorem dX12_goes_22 : decode cX12_goes 22 = .ok (.iadd, 1) := by decide +kernel
theorem dX12_goes_23 : decode cX12_goes 23 = .ok (.iload_n 2, 1) := by decide +kernel
theorem dX12_goes_24 : decode cX12_goes 24 = .ok (.invokevirtual 235, 3) := by decide +kernel
theorem dX12_goes_27 : decode cX12_goes 27 = .ok (.iinc 2 1, 3) := by decide +kernel
theorem dX12_goes_30 : decode cX12_goes 30 = .ok (.goto (-28), 3) := by decide +kernel
theorem dX12_goes_33 : decode cX12_goes 33 = .ok (.return_, 1) := by decide +kernel
theorem dX12_drop_0 : decode cX12_drop 0 = .ok (.aload_n 0, 1) := by decide +kernel
theorem dX12_drop_1 : decode cX12_drop 1 = .ok (.iload_n 1, 1) := by decide +kernel
theorem dX12_drop_2 : decode cX12_drop 2 = .ok (.invokevirtual 216, 3) := by decide +kernel
theorem dX12_drop_5 : decode cX12_drop 5 = .ok (.ifCond .ne 5, 3) := by decide +kernel
theorem dX12_drop_8 : decode cX12_drop 8 = .ok (.iconst (-1), 1) := by decide +kernel
theorem dX12_drop_9 : decode cX12_drop 9 = .ok (.ireturn, 1) := by decide +kernel
theorem dX12_drop_10 : decode cX12_drop 10 = .ok (.aload_n 0, 1) := by decide +kernel
theorem dX12_drop_11 : decode cX12_drop 11 = .ok (.invokevirtual 228, 3) := by decide +kernel
theorem dX12_drop_14 : decode cX12_drop 14 = .ok (.aload_n 0, 1) := by decide +kernel
theorem dX12_drop_15 : decode cX12_drop 15 = .ok (.iload_n 1, 1) := by decide +kernel
theorem dX12_drop_16 : decode cX12_drop 16 = .ok (.invokevirtual 239, 3) := by decide +kernel
theorem dX12_drop_19 : decode cX12_drop 19 = .ok (.aload_n 0, 1) := by decide +kernel
theorem dX12_drop_20 : decode cX12_drop 20 = .ok (.getfield 7, 3) := by decide +kernel
theorem dX12_drop_23 : decode cX12_drop 23 = .ok (.bipush 11, 2) := by decide +kernel
theorem dX12_drop_25 : decode cX12_drop 25 = .ok (.dup2, 1) := by decide +kernel
theorem dX12_drop_26 : decode cX12_drop 26 = .ok (.iaload, 1) := by decide +kernel
theorem dX12_drop_27 : decode cX12_drop 27 = .ok (.iconst 1, 1) := by decide +kernel
theorem dX12_drop_28 : decode cX12_drop 28 = .ok (.isub, 1) := by decide +kernel
theorem dX12_drop_29 : decode cX12_drop 29 = .ok (.iastore, 1) := by decide +kernel
theorem dX12_drop_30 : decode cX12_drop 30 = .ok (.aload_n 0, 1) := by decide +kernel
theorem dX12_drop_31 : decode cX12_drop 31 = .ok (.getfield 7, 3) := by decide +kernel
theorem dX12_drop_34 : decode cX12_drop 34 = .ok (.bipush 11, 2) := by decide +kernel
theorem dX12_drop_36 : decode cX12_drop 36 = .ok (.iaload, 1) := by decide +kernel
theorem dX12_drop_37 : decode cX12_drop 37 = .ok (.ireturn, 1) := by decide +kernel
theorem dX12_again_0 : decode cX12_again 0 = .ok (.aload_n 0, 1) := by decide +kernel
theorem dX12_again_1 : decode cX12_again 1 = .ok (.iload_n 1, 1) := by decide +kernel
theorem dX12_again_2 : decode cX12_again 2 = .ok (.invokevirtual 216, 3) := by decide +kernel
theorem dX12_again_5 : decode cX12_again 5 = .ok (.ifCond .ne 5, 3) := by decide +kernel
theorem dX12_again_8 : decode cX12_again 8 = .ok (.iconst (-1), 1) := by decide +kernel
theorem dX12_again_9 : decode cX12_again 9 = .ok (.ireturn, 1) := by decide +kernel
theorem dX12_again_10 : decode cX12_again 10 = .ok (.aload_n 0, 1) := by decide +kernel
theorem dX12_again_11 : decode cX12_again 11 = .ok (.invokevirtual 228, 3) := by decide +kernel
theorem dX12_again_14 : decode cX12_again 14 = .ok (.aload_n 0, 1) := by decide +kernel
theorem dX12_again_15 : decode cX12_again 15 = .ok (.getfield 7, 3) := by decide +kernel
theorem dX12_again_18 : decode cX12_again 18 = .ok (.iconst 0, 1) := by decide +kernel
theorem dX12_again_19 : decode cX12_again 19 = .ok (.aload_n 0, 1) := by decide +kernel
theorem dX12_again_20 : decode cX12_again 20 = .ok (.getfield 13, 3) := by decide +kernel
theorem dX12_again_23 : decode cX12_again 23 = .ok (.iconst 0, 1) := by decide +kernel
theorem dX12_again_24 : decode cX12_again 24 = .ok (.invokestatic 187, 3) := by decide +kernel
theorem dX12_again_27 : decode cX12_again 27 = .ok (.aload_n 0, 1) := by decide +kernel
theorem dX12_again_28 : decode cX12_again 28 = .ok (.iload_n 1, 1) := by decide +kernel
theorem dX12_again_29 : decode cX12_again 29 = .ok (.invokevirtual 239, 3) := by decide +kernel
theorem dX12_again_32 : decode cX12_again 32 = .ok (.aload_n 0, 1) := by decide +kernel
theorem dX12_again_33 : decode cX12_again 33 = .ok (.aload_n 0, 1) := by decide +kernel
theorem dX12_again_34 : decode cX12_again 34 = .ok (.getfield 13, 3) := by decide +kernel
theorem dX12_again_37 : decode cX12_again 37 = .ok (.iload_n 1, 1) := by decide +kernel
theorem dX12_again_38 : decode cX12_again 38 = .ok (.aload_n 0, 1) := by decide +kernel
theorem dX12_again_39 : decode cX12_again 39 = .ok (.getfield 7, 3) := by decide +kernel
theorem dX12_again_42 : decode cX12_again 42 = .ok (.bipush 11, 2) := by decide +kernel
theorem dX12_again_44 : decode cX12_again 44 = .ok (.iaload, 1) := by decide +kernel
theorem dX12_again_45 : decode cX12_again 45 = .ok (.iconst 1, 1) := by decide +kernel
theorem dX12_again_46 : decode cX12_again 46 = .ok (.isub, 1) := by decide +kernel
theorem dX12_again_47 : decode cX12_again 47 = .ok (.invokevirtual 235, 3) := by decide +kernel
theorem dX12_again_50 : decode cX12_again 50 = .ok (.aload_n 0, 1) := by decide +kernel
theorem dX12_again_51 : decode cX12_again 51 = .ok (.getfield 7, 3) := by decide +kernel
theorem dX12_again_54 : decode cX12_again 54 = .ok (.bipush 11, 2) := by decide +kernel
theorem dX12_again_56 : decode cX12_again 56 = .ok (.iaload, 1) := by decide +kernel
theorem dX12_again_57 : decode cX12_again 57 = .ok (.iconst 1, 1) := by decide +kernel
theorem dX12_again_58 : decode cX12_again 58 = .ok (.isub, 1) := by decide +kernel
theorem dX12_again_59 : decode cX12_again 59 = .ok (.ireturn, 1) := by decide +kernel
theorem dX12_adds_0 : decode cX12_adds 0 = .ok (.aload_n 0, 1) := by decide +kernel
theorem dX12_adds_1 : decode cX12_adds 1 = .ok (.dup, 1) := by decide +kernel
theorem dX12_adds_2 : decode cX12_adds 2 = .ok (.getfield 242, 3) := by decide +kernel
theorem dX12_adds_5 : decode cX12_adds 5 = .ok (.iload_n 1, 1) := by decide +kernel
theorem dX12_adds_6 : decode cX12_adds 6 = .ok (.iadd, 1) := by decide +kernel
theorem dX12_adds_7 : decode cX12_adds 7 = .ok (.putfield 242, 3) := by decide +kernel
theorem dX12_adds_10 : decode cX12_adds 10 = .ok (.aload_n 0, 1) := by decide +kernel
theorem dX12_adds_11 : decode cX12_adds 11 = .ok (.dup, 1) := by decide +kernel
theorem dX12_adds_12 : decode cX12_adds 12 = .ok (.getfield 245, 3) := by decide +kernel
theorem dX12_adds_15 : decode cX12_adds 15 = .ok (.iload_n 1, 1) := by decide +kernel
theorem dX12_adds_16 : decode cX12_adds 16 = .ok (.iload_n 2, 1) := by decide +kernel
theorem dX12_adds_17 : decode cX12_adds 17 = .ok (.imul, 1) := by decide +kernel
theorem dX12_adds_18 : decode cX12_adds 18 = .ok (.iadd, 1) := by decide +kernel
theorem dX12_adds_19 : decode cX12_adds 19 = .ok (.putfield 245, 3) := by decide +kernel
theorem dX12_adds_22 : decode cX12_adds 22 = .ok (.return_, 1) := by decide +kernel
theorem dX12_stageAt_0 : decode cX12_stageAt 0 = .ok (.aload_n 0, 1) := by decide +kernel
theorem dX12_stageAt_1 : decode cX12_stageAt 1 = .ok (.iconst 0, 1) := by decide +kernel
theorem dX12_stageAt_2 : decode cX12_stageAt 2 = .ok (.putfield 242, 3) := by decide +kernel
theorem dX12_stageAt_5 : decode cX12_stageAt 5 = .ok (.aload_n 0, 1) := by decide +kernel
theorem dX12_stageAt_6 : decode cX12_stageAt 6 = .ok (.iconst 0, 1) := by decide +kernel
theorem dX12_stageAt_7 : decode cX12_stageAt 7 = .ok (.putfield 245, 3) := by decide +kernel
theorem dX12_stageAt_10 : decode cX12_stageAt 10 = .ok (.aload_n 0, 1) := by decide +kernel
theorem dX12_stageAt_11 : decode cX12_stageAt 11 = .ok (.aload_n 0, 1) := by decide +kernel
theorem dX12_stageAt_12 : decode cX12_stageAt 12 = .ok (.getfield 7, 3) := by decide +kernel
theorem dX12_stageAt_15 : decode cX12_stageAt 15 = .ok (.iconst 0, 1) := by decide +kernel
theorem dX12_stageAt_16 : decode cX12_stageAt 16 = .ok (.iaload, 1) := by decide +kernel
theorem dX12_stageAt_17 : decode cX12_stageAt 17 = .ok (.aload_n 0, 1) := by decide +kernel
theorem dX12_stageAt_18 : decode cX12_stageAt 18 = .ok (.getfield 7, 3) := by decide +kernel
theorem dX12_stageAt_21 : decode cX12_stageAt 21 = .ok (.iconst 1, 1) := by decide +kernel
theorem dX12_stageAt_22 : decode cX12_stageAt 22 = .ok (.iaload, 1) := by decide +kernel
theorem dX12_stageAt_23 : decode cX12_stageAt 23 = .ok (.invokevirtual 248, 3) := by decide +kernel
theorem dX12_stageAt_26 : decode cX12_stageAt 26 = .ok (.iconst 0, 1) := by decide +kernel
theorem dX12_stageAt_27 : decode cX12_stageAt 27 = .ok (.istore_n 2, 1) := by decide +kernel
theorem dX12_stageAt_28 : decode cX12_stageAt 28 = .ok (.iconst 0, 1) := by decide +kernel
theorem dX12_stageAt_29 : decode cX12_stageAt 29 = .ok (.istore_n 3, 1) := by decide +kernel
theorem dX12_stageAt_30 : decode cX12_stageAt 30 = .ok (.iload_n 3, 1) := by decide +kernel
theorem dX12_stageAt_31 : decode cX12_stageAt 31 = .ok (.iload_n 1, 1) := by decide +kernel
theorem dX12_stageAt_32 : decode cX12_stageAt 32 = .ok (.if_icmp .ge 58, 3) := by decide +kernel
theorem dX12_stageAt_35 : decode cX12_stageAt 35 = .ok (.aload_n 0, 1) := by decide +kernel
theorem dX12_stageAt_36 : decode cX12_stageAt 36 = .ok (.getfield 7, 3) := by decide +kernel
theorem dX12_stageAt_39 : decode cX12_stageAt 39 = .ok (.bipush 59, 2) := by decide +kernel
theorem dX12_stageAt_41 : decode cX12_stageAt 41 = .ok (.iload_n 3, 1) := by decide +kernel
theorem dX12_stageAt_42 : decode cX12_stageAt 42 = .ok (.iadd, 1) := by decide +kernel
theorem dX12_stageAt_43 : decode cX12_stageAt 43 = .ok (.iaload, 1) := by decide +kernel
theorem dX12_stageAt_44 : decode cX12_stageAt 44 = .ok (.ifCond .ge 9, 3) := by decide +kernel
theorem dX12_stageAt_47 : decode cX12_stageAt 47 = .ok (.iinc 2 1, 3) := by decide +kernel
theorem dX12_stageAt_50 : decode cX12_stageAt 50 = .ok (.goto 34, 3) := by decide +kernel
theorem dX12_stageAt_53 : decode cX12_stageAt 53 = .ok (.aload_n 0, 1) := by decide +kernel
theorem dX12_stageAt_54 : decode cX12_stageAt 54 = .ok (.aload_n 0, 1) := by decide +kernel
theorem dX12_stageAt_55 : decode cX12_stageAt 55 = .ok (.getfield 7, 3) := by decide +kernel
theorem dX12_stageAt_58 : decode cX12_stageAt 58 = .ok (.bipush 71, 2) := by decide +kernel
theorem dX12_stageAt_60 : decode cX12_stageAt 60 = .ok (.iload_n 3, 1) := by decide +kernel
theorem dX12_stageAt_61 : decode cX12_stageAt 61 = .ok (.iadd, 1) := by decide +kernel
theorem dX12_stageAt_62 : decode cX12_stageAt 62 = .ok (.iaload, 1) := by decide +kernel
theorem dX12_stageAt_63 : decode cX12_stageAt 63 = .ok (.ineg, 1) := by decide +kernel
theorem dX12_stageAt_64 : decode cX12_stageAt 64 = .ok (.aload_n 0, 1) := by decide +kernel
theorem dX12_stageAt_65 : decode cX12_stageAt 65 = .ok (.getfield 7, 3) := by decide +kernel
theorem dX12_stageAt_68 : decode cX12_stageAt 68 = .ok (.bipush 53, 2) := by decide +kernel
theorem dX12_stageAt_70 : decode cX12_stageAt 70 = .ok (.aload_n 0, 1) := by decide +kernel
theorem dX12_stageAt_71 : decode cX12_stageAt 71 = .ok (.getfield 7, 3) := by decide +kernel
theorem dX12_stageAt_74 : decode cX12_stageAt 74 = .ok (.bipush 59, 2) := by decide +kernel
theorem dX12_stageAt_76 : decode cX12_stageAt 76 = .ok (.iload_n 3, 1) := by decide +kernel
theorem dX12_stageAt_77 : decode cX12_stageAt 77 = .ok (.iadd, 1) := by decide +kernel
theorem dX12_stageAt_78 : decode cX12_stageAt 78 = .ok (.iaload, 1) := by decide +kernel
theorem dX12_stageAt_79 : decode cX12_stageAt 79 = .ok (.iadd, 1) := by decide +kernel
theorem dX12_stageAt_80 : decode cX12_stageAt 80 = .ok (.iaload, 1) := by decide +kernel
theorem dX12_stageAt_81 : decode cX12_stageAt 81 = .ok (.invokevirtual 248, 3) := by decide +kernel
theorem dX12_stageAt_84 : decode cX12_stageAt 84 = .ok (.iinc 3 1, 3) := by decide +kernel
theorem dX12_stageAt_87 : decode cX12_stageAt 87 = .ok (.goto (-57), 3) := by decide +kernel
theorem dX12_stageAt_90 : decode cX12_stageAt 90 = .ok (.iconst 0, 1) := by decide +kernel
theorem dX12_stageAt_91 : decode cX12_stageAt 91 = .ok (.istore_n 3, 1) := by decide +kernel
theorem dX12_stageAt_92 : decode cX12_stageAt 92 = .ok (.iload_n 3, 1) := by decide +kernel
theorem dX12_stageAt_93 : decode cX12_stageAt 93 = .ok (.aload_n 0, 1) := by decide +kernel
theorem dX12_stageAt_94 : decode cX12_stageAt 94 = .ok (.getfield 7, 3) := by decide +kernel
theorem dX12_stageAt_97 : decode cX12_stageAt 97 = .ok (.bipush 8, 2) := by decide +kernel
theorem dX12_stageAt_99 : decode cX12_stageAt 99 = .ok (.iaload, 1) := by decide +kernel
theorem dX12_stageAt_100 : decode cX12_stageAt 100 = .ok (.if_icmp .ge 31, 3) := by decide +kernel
theorem dX12_stageAt_103 : decode cX12_stageAt 103 = .ok (.aload_n 0, 1) := by decide +kernel
theorem dX12_stageAt_104 : decode cX12_stageAt 104 = .ok (.aload_n 0, 1) := by decide +kernel
theorem dX12_stageAt_105 : decode cX12_stageAt 105 = .ok (.getfield 7, 3) := by decide +kernel
theorem dX12_stageAt_108 : decode cX12_stageAt 108 = .ok (.bipush 56, 2) := by decide +kernel
theorem dX12_stageAt_110 : decode cX12_stageAt 110 = .ok (.iload_n 3, 1) := by decide +kernel
theorem dX12_stageAt_111 : decode cX12_stageAt 111 = .ok (.iadd, 1) := by decide +kernel
theorem dX12_stageAt_112 : decode cX12_stageAt 112 = .ok (.iaload, 1) := by decide +kernel
theorem dX12_stageAt_113 : decode cX12_stageAt 113 = .ok (.aload_n 0, 1) := by decide +kernel
theorem dX12_stageAt_114 : decode cX12_stageAt 114 = .ok (.getfield 7, 3) := by decide +kernel
theorem dX12_stageAt_117 : decode cX12_stageAt 117 = .ok (.bipush 53, 2) := by decide +kernel
theorem dX12_stageAt_119 : decode cX12_stageAt 119 = .ok (.iload_n 3, 1) := by decide +kernel
theorem dX12_stageAt_120 : decode cX12_stageAt 120 = .ok (.iadd, 1) := by decide +kernel
theorem dX12_stageAt_121 : decode cX12_stageAt 121 = .ok (.iaload, 1) := by decide +kernel
theorem dX12_stageAt_122 : decode cX12_stageAt 122 = .ok (.invokevirtual 248, 3) := by decide +kernel
theorem dX12_stageAt_125 : decode cX12_stageAt 125 = .ok (.iinc 3 1, 3) := by decide +kernel
theorem dX12_stageAt_128 : decode cX12_stageAt 128 = .ok (.goto (-36), 3) := by decide +kernel
theorem dX12_stageAt_131 : decode cX12_stageAt 131 = .ok (.iconst 0, 1) := by decide +kernel
theorem dX12_stageAt_132 : decode cX12_stageAt 132 = .ok (.istore_n 3, 1) := by decide +kernel
theorem dX12_stageAt_133 : decode cX12_stageAt 133 = .ok (.iload_n 3, 1) := by decide +kernel
theorem dX12_stageAt_134 : decode cX12_stageAt 134 = .ok (.aload_n 0, 1) := by decide +kernel
theorem dX12_stageAt_135 : decode cX12_stageAt 135 = .ok (.getfield 7, 3) := by decide +kernel
theorem dX12_stageAt_138 : decode cX12_stageAt 138 = .ok (.bipush 7, 2) := by decide +kernel
theorem dX12_stageAt_140 : decode cX12_stageAt 140 = .ok (.iaload, 1) := by decide +kernel
theorem dX12_stageAt_141 : decode cX12_stageAt 141 = .ok (.if_icmp .ge 31, 3) := by decide +kernel
theorem dX12_stageAt_144 : decode cX12_stageAt 144 = .ok (.aload_n 0, 1) := by decide +kernel
theorem dX12_stageAt_145 : decode cX12_stageAt 145 = .ok (.aload_n 0, 1) := by decide +kernel
theorem dX12_stageAt_146 : decode cX12_stageAt 146 = .ok (.getfield 7, 3) := by decide +kernel
theorem dX12_stageAt_149 : decode cX12_stageAt 149 = .ok (.bipush 51, 2) := by decide +kernel
theorem dX12_stageAt_151 : decode cX12_stageAt 151 = .ok (.iload_n 3, 1) := by decide +kernel
theorem dX12_stageAt_152 : decode cX12_stageAt 152 = .ok (.iadd, 1) := by decide +kernel
theorem dX12_stageAt_153 : decode cX12_stageAt 153 = .ok (.iaload, 1) := by decide +kernel
theorem dX12_stageAt_154 : decode cX12_stageAt 154 = .ok (.aload_n 0, 1) := by decide +kernel
theorem dX12_stageAt_155 : decode cX12_stageAt 155 = .ok (.getfield 7, 3) := by decide +kernel
theorem dX12_stageAt_158 : decode cX12_stageAt 158 = .ok (.bipush 47, 2) := by decide +kernel
theorem dX12_stageAt_160 : decode cX12_stageAt 160 = .ok (.iload_n 3, 1) := by decide +kernel
theorem dX12_stageAt_161 : decode cX12_stageAt 161 = .ok (.iadd, 1) := by decide +kernel
theorem dX12_stageAt_162 : decode cX12_stageAt 162 = .ok (.iaload, 1) := by decide +kernel
theorem dX12_stageAt_163 : decode cX12_stageAt 163 = .ok (.invokevirtual 248, 3) := by decide +kernel
theorem dX12_stageAt_166 : decode cX12_stageAt 166 = .ok (.iinc 3 1, 3) := by decide +kernel
theorem dX12_stageAt_169 : decode cX12_stageAt 169 = .ok (.goto (-36), 3) := by decide +kernel
theorem dX12_stageAt_172 : decode cX12_stageAt 172 = .ok (.iconst 0, 1) := by decide +kernel
theorem dX12_stageAt_173 : decode cX12_stageAt 173 = .ok (.istore_n 3, 1) := by decide +kernel
theorem dX12_stageAt_174 : decode cX12_stageAt 174 = .ok (.iload_n 3, 1) := by decide +kernel
theorem dX12_stageAt_175 : decode cX12_stageAt 175 = .ok (.aload_n 0, 1) := by decide +kernel
theorem dX12_stageAt_176 : decode cX12_stageAt 176 = .ok (.getfield 7, 3) := by decide +kernel
theorem dX12_stageAt_179 : decode cX12_stageAt 179 = .ok (.bipush 11, 2) := by decide +kernel
theorem dX12_stageAt_181 : decode cX12_stageAt 181 = .ok (.iaload, 1) := by decide +kernel
theorem dX12_stageAt_182 : decode cX12_stageAt 182 = .ok (.if_icmp .ge 64, 3) := by decide +kernel
theorem dX12_stageAt_185 : decode cX12_stageAt 185 = .ok (.aload_n 0, 1) := by decide +kernel
theorem dX12_stageAt_186 : decode cX12_stageAt 186 = .ok (.getfield 7, 3) := by decide +kernel
theorem dX12_stageAt_189 : decode cX12_stageAt 189 = .ok (.bipush 93, 2) := by decide +kernel
theorem dX12_stageAt_191 : decode cX12_stageAt 191 = .ok (.iload_n 3, 1) := by decide +kernel
theorem dX12_stageAt_192 : decode cX12_stageAt 192 = .ok (.iadd, 1) := by decide +kernel
theorem dX12_stageAt_193 : decode cX12_stageAt 193 = .ok (.iaload, 1) := by decide +kernel
theorem dX12_stageAt_194 : decode cX12_stageAt 194 = .ok (.ifCond .lt 46, 3) := by decide +kernel
theorem dX12_stageAt_197 : decode cX12_stageAt 197 = .ok (.aload_n 0, 1) := by decide +kernel
theorem dX12_stageAt_198 : decode cX12_stageAt 198 = .ok (.getfield 7, 3) := by decide +kernel
theorem dX12_stageAt_201 : decode cX12_stageAt 201 = .ok (.bipush 88, 2) := by decide +kernel
theorem dX12_stageAt_203 : decode cX12_stageAt 203 = .ok (.iload_n 3, 1) := by decide +kernel
theorem dX12_stageAt_204 : decode cX12_stageAt 204 = .ok (.iadd, 1) := by decide +kernel
theorem dX12_stageAt_205 : decode cX12_stageAt 205 = .ok (.iaload, 1) := by decide +kernel
theorem dX12_stageAt_206 : decode cX12_stageAt 206 = .ok (.iload_n 2, 1) := by decide +kernel
theorem dX12_stageAt_207 : decode cX12_stageAt 207 = .ok (.if_icmp .le 33, 3) := by decide +kernel
theorem dX12_stageAt_210 : decode cX12_stageAt 210 = .ok (.aload_n 0, 1) := by decide +kernel
theorem dX12_stageAt_211 : decode cX12_stageAt 211 = .ok (.aload_n 0, 1) := by decide +kernel
theorem dX12_stageAt_212 : decode cX12_stageAt 212 = .ok (.getfield 7, 3) := by decide +kernel
theorem dX12_stageAt_215 : decode cX12_stageAt 215 = .ok (.bipush 83, 2) := by decide +kernel
theorem dX12_stageAt_217 : decode cX12_stageAt 217 = .ok (.iload_n 3, 1) := by decide +kernel
theorem dX12_stageAt_218 : decode cX12_stageAt 218 = .ok (.iadd, 1) := by decide +kernel
theorem dX12_stageAt_219 : decode cX12_stageAt 219 = .ok (.iaload, 1) := by decide +kernel
theorem dX12_stageAt_220 : decode cX12_stageAt 220 = .ok (.aload_n 0, 1) := by decide +kernel
theorem dX12_stageAt_221 : decode cX12_stageAt 221 = .ok (.getfield 7, 3) := by decide +kernel
theorem dX12_stageAt_224 : decode cX12_stageAt 224 = .ok (.bipush 25, 2) := by decide +kernel
theorem dX12_stageAt_226 : decode cX12_stageAt 226 = .ok (.aload_n 0, 1) := by decide +kernel
theorem dX12_stageAt_227 : decode cX12_stageAt 227 = .ok (.getfield 7, 3) := by decide +kernel
theorem dX12_stageAt_230 : decode cX12_stageAt 230 = .ok (.bipush 93, 2) := by decide +kernel
theorem dX12_stageAt_232 : decode cX12_stageAt 232 = .ok (.iload_n 3, 1) := by decide +kernel
theorem dX12_stageAt_233 : decode cX12_stageAt 233 = .ok (.iadd, 1) := by decide +kernel
theorem dX12_stageAt_234 : decode cX12_stageAt 234 = .ok (.iaload, 1) := by decide +kernel
theorem dX12_stageAt_235 : decode cX12_stageAt 235 = .ok (.iadd, 1) := by decide +kernel
theorem dX12_stageAt_236 : decode cX12_stageAt 236 = .ok (.iaload, 1) := by decide +kernel
theorem dX12_stageAt_237 : decode cX12_stageAt 237 = .ok (.invokevirtual 248, 3) := by decide +kernel
theorem dX12_stageAt_240 : decode cX12_stageAt 240 = .ok (.iinc 3 1, 3) := by decide +kernel
theorem dX12_stageAt_243 : decode cX12_stageAt 243 = .ok (.goto (-69), 3) := by decide +kernel
theorem dX12_stageAt_246 : decode cX12_stageAt 246 = .ok (.return_, 1) := by decide +kernel
theorem dX12_isInSpan_0 : decode cX12_isInSpan 0 = .ok (.aload_n 0, 1) := by decide +kernel
theorem dX12_isInSpan_1 : decode cX12_isInSpan 1 = .ok (.iload_n 1, 1) := by decide +kernel
theorem dX12_isInSpan_2 : decode cX12_isInSpan 2 = .ok (.invokevirtual 252, 3) := by decide +kernel
theorem dX12_isInSpan_5 : decode cX12_isInSpan 5 = .ok (.aload_n 0, 1) := by decide +kernel
theorem dX12_isInSpan_6 : decode cX12_isInSpan 6 = .ok (.getfield 245, 3) := by decide +kernel
theorem dX12_isInSpan_9 : decode cX12_isInSpan 9 = .ok (.aload_n 0, 1) := by decide +kernel
theorem dX12_isInSpan_10 : decode cX12_isInSpan 10 = .ok (.getfield 242, 3) := by decide +kernel
theorem dX12_isInSpan_13 : decode cX12_isInSpan 13 = .ok (.aload_n 0, 1) := by decide +kernel
theorem dX12_isInSpan_14 : decode cX12_isInSpan 14 = .ok (.getfield 7, 3) := by decide +kernel
theorem dX12_isInSpan_17 : decode cX12_isInSpan 17 = .ok (.iconst 2, 1) := by decide +kernel
theorem dX12_isInSpan_18 : decode cX12_isInSpan 18 = .ok (.iaload, 1) := by decide +kernel
theorem dX12_isInSpan_19 : decode cX12_isInSpan 19 = .ok (.imul, 1) := by decide +kernel
theorem dX12_isInSpan_20 : decode cX12_isInSpan 20 = .ok (.if_icmp .lt 25, 3) := by decide +kernel
theorem dX12_isInSpan_23 : decode cX12_isInSpan 23 = .ok (.aload_n 0, 1) := by decide +kernel
theorem dX12_isInSpan_24 : decode cX12_isInSpan 24 = .ok (.getfield 245, 3) := by decide +kernel
theorem dX12_isInSpan_27 : decode cX12_isInSpan 27 = .ok (.aload_n 0, 1) := by decide +kernel
theorem dX12_isInSpan_28 : decode cX12_isInSpan 28 = .ok (.getfield 242, 3) := by decide +kernel
theorem dX12_isInSpan_31 : decode cX12_isInSpan 31 = .ok (.aload_n 0, 1) := by decide +kernel
theorem dX12_isInSpan_32 : decode cX12_isInSpan 32 = .ok (.getfield 7, 3) := by decide +kernel
theorem dX12_isInSpan_35 : decode cX12_isInSpan 35 = .ok (.iconst 3, 1) := by decide +kernel
theorem dX12_isInSpan_36 : decode cX12_isInSpan 36 = .ok (.iaload, 1) := by decide +kernel
theorem dX12_isInSpan_37 : decode cX12_isInSpan 37 = .ok (.imul, 1) := by decide +kernel
theorem dX12_isInSpan_38 : decode cX12_isInSpan 38 = .ok (.if_icmp .gt 7, 3) := by decide +kernel
theorem dX12_isInSpan_41 : decode cX12_isInSpan 41 = .ok (.iconst 1, 1) := by decide +kernel
theorem dX12_isInSpan_42 : decode cX12_isInSpan 42 = .ok (.goto 4, 3) := by decide +kernel
theorem dX12_isInSpan_45 : decode cX12_isInSpan 45 = .ok (.iconst 0, 1) := by decide +kernel
theorem dX12_isInSpan_46 : decode cX12_isInSpan 46 = .ok (.ireturn, 1) := by decide +kernel
theorem dX12_blockers_0 : decode cX12_blockers 0 = .ok (.iconst 0, 1) := by decide +kernel
theorem dX12_blockers_1 : decode cX12_blockers 1 = .ok (.istore_n 2, 1) := by decide +kernel
theorem dX12_blockers_2 : decode cX12_blockers 2 = .ok (.aload_n 0, 1) := by decide +kernel
theorem dX12_blockers_3 : decode cX12_blockers 3 = .ok (.getfield 7, 3) := by decide +kernel
theorem dX12_blockers_6 : decode cX12_blockers 6 = .ok (.bipush 93, 2) := by decide +kernel
theorem dX12_blockers_8 : decode cX12_blockers 8 = .ok (.iload_n 1, 1) := by decide +kernel
theorem dX12_blockers_9 : decode cX12_blockers 9 = .ok (.iadd, 1) := by decide +kernel
theorem dX12_blockers_10 : decode cX12_blockers 10 = .ok (.iaload, 1) := by decide +kernel
theorem dX12_blockers_11 : decode cX12_blockers 11 = .ok (.ifCond .ge 5, 3) := by decide +kernel
theorem dX12_blockers_14 : decode cX12_blockers 14 = .ok (.iconst 0, 1) := by decide +kernel
theorem dX12_blockers_15 : decode cX12_blockers 15 = .ok (.ireturn, 1) := by decide +kernel
theorem dX12_blockers_16 : decode cX12_blockers 16 = .ok (.aload_n 0, 1) := by decide +kernel
theorem dX12_blockers_17 : decode cX12_blockers 17 = .ok (.aload_n 0, 1) := by decide +kernel
theorem dX12_blockers_18 : decode cX12_blockers 18 = .ok (.getfield 7, 3) := by decide +kernel
theorem dX12_blockers_21 : decode cX12_blockers 21 = .ok (.bipush 93, 2) := by decide +kernel
theorem dX12_blockers_23 : decode cX12_blockers 23 = .ok (.iload_n 1, 1) := by decide +kernel
theorem dX12_blockers_24 : decode cX12_blockers 24 = .ok (.iadd, 1) := by decide +kernel
theorem dX12_blockers_25 : decode cX12_blockers 25 = .ok (.iaload, 1) := by decide +kernel
theorem dX12_blockers_26 : decode cX12_blockers 26 = .ok (.invokevirtual 222, 3) := by decide +kernel
theorem dX12_blockers_29 : decode cX12_blockers 29 = .ok (.istore_n 3, 1) := by decide +kernel
theorem dX12_blockers_30 : decode cX12_blockers 30 = .ok (.iconst 0, 1) := by decide +kernel
theorem dX12_blockers_31 : decode cX12_blockers 31 = .ok (.istore 4, 2) := by decide +kernel
theorem dX12_blockers_33 : decode cX12_blockers 33 = .ok (.iload 4, 2) := by decide +kernel
theorem dX12_blockers_35 : decode cX12_blockers 35 = .ok (.aload_n 0, 1) := by decide +kernel
theorem dX12_blockers_36 : decode cX12_blockers 36 = .ok (.getfield 7, 3) := by decide +kernel
theorem dX12_blockers_39 : decode cX12_blockers 39 = .ok (.bipush 11, 2) := by decide +kernel
theorem dX12_blockers_41 : decode cX12_blockers 41 = .ok (.iaload, 1) := by decide +kernel
theorem dX12_blockers_42 : decode cX12_blockers 42 = .ok (.if_icmp .ge 68, 3) := by decide +kernel
theorem dX12_blockers_45 : decode cX12_blockers 45 = .ok (.aload_n 0, 1) := by decide +kernel
theorem dX12_blockers_46 : decode cX12_blockers 46 = .ok (.getfield 7, 3) := by decide +kernel
theorem dX12_blockers_49 : decode cX12_blockers 49 = .ok (.bipush 93, 2) := by decide +kernel
theorem dX12_blockers_51 : decode cX12_blockers 51 = .ok (.iload 4, 2) := by decide +kernel
theorem dX12_blockers_53 : decode cX12_blockers 53 = .ok (.iadd, 1) := by decide +kernel
theorem dX12_blockers_54 : decode cX12_blockers 54 = .ok (.iaload, 1) := by decide +kernel
theorem dX12_blockers_55 : decode cX12_blockers 55 = .ok (.ifCond .lt 49, 3) := by decide +kernel
theorem dX12_blockers_58 : decode cX12_blockers 58 = .ok (.iload_n 3, 1) := by decide +kernel
theorem dX12_blockers_59 : decode cX12_blockers 59 = .ok (.aload_n 0, 1) := by decide +kernel
theorem dX12_blockers_60 : decode cX12_blockers 60 = .ok (.getfield 7, 3) := by decide +kernel
theorem dX12_blockers_63 : decode cX12_blockers 63 = .ok (.bipush 93, 2) := by decide +kernel
theorem dX12_blockers_65 : decode cX12_blockers 65 = .ok (.iload 4, 2) := by decide +kernel
theorem dX12_blockers_67 : decode cX12_blockers 67 = .ok (.iadd, 1) := by decide +kernel
theorem dX12_blockers_68 : decode cX12_blockers 68 = .ok (.iaload, 1) := by decide +kernel
theorem dX12_blockers_69 : decode cX12_blockers 69 = .ok (.invokestatic 255, 3) := by decide +kernel
theorem dX12_blockers_72 : decode cX12_blockers 72 = .ok (.ifCond .eq 32, 3) := by decide +kernel
theorem dX12_blockers_75 : decode cX12_blockers 75 = .ok (.aload_n 0, 1) := by decide +kernel
theorem dX12_blockers_76 : decode cX12_blockers 76 = .ok (.getfield 7, 3) := by decide +kernel
theorem dX12_blockers_79 : decode cX12_blockers 79 = .ok (.bipush 88, 2) := by decide +kernel
theorem dX12_blockers_81 : decode cX12_blockers 81 = .ok (.iload 4, 2) := by decide +kernel
theorem dX12_blockers_83 : decode cX12_blockers 83 = .ok (.iadd, 1) := by decide +kernel
theorem dX12_blockers_84 : decode cX12_blockers 84 = .ok (.iaload, 1) := by decide +kernel
theorem dX12_blockers_85 : decode cX12_blockers 85 = .ok (.aload_n 0, 1) := by decide +kernel
theorem dX12_blockers_86 : decode cX12_blockers 86 = .ok (.getfield 7, 3) := by decide +kernel
theorem dX12_blockers_89 : decode cX12_blockers 89 = .ok (.bipush 88, 2) := by decide +kernel
theorem dX12_blockers_91 : decode cX12_blockers 91 = .ok (.iload_n 1, 1) := by decide +kernel
theorem dX12_blockers_92 : decode cX12_blockers 92 = .ok (.iadd, 1) := by decide +kernel
theorem dX12_blockers_93 : decode cX12_blockers 93 = .ok (.iaload, 1) := by decide +kernel
theorem dX12_blockers_94 : decode cX12_blockers 94 = .ok (.if_icmp .le 10, 3) := by decide +kernel
theorem dX12_blockers_97 : decode cX12_blockers 97 = .ok (.iload_n 2, 1) := by decide +kernel
theorem dX12_blockers_98 : decode cX12_blockers 98 = .ok (.iconst 1, 1) := by decide +kernel
theorem dX12_blockers_99 : decode cX12_blockers 99 = .ok (.iload 4, 2) := by decide +kernel
theorem dX12_blockers_101 : decode cX12_blockers 101 = .ok (.ishl, 1) := by decide +kernel
theorem dX12_blockers_102 : decode cX12_blockers 102 = .ok (.ior, 1) := by decide +kernel
theorem dX12_blockers_103 : decode cX12_blockers 103 = .ok (.istore_n 2, 1) := by decide +kernel
theorem dX12_blockers_104 : decode cX12_blockers 104 = .ok (.iinc 4 1, 3) := by decide +kernel
theorem dX12_blockers_107 : decode cX12_blockers 107 = .ok (.goto (-74), 3) := by decide +kernel
theorem dX12_blockers_110 : decode cX12_blockers 110 = .ok (.iload_n 2, 1) := by decide +kernel
theorem dX12_blockers_111 : decode cX12_blockers 111 = .ok (.ireturn, 1) := by decide +kernel
theorem dX12_isBroken_0 : decode cX12_isBroken 0 = .ok (.iload_n 1, 1) := by decide +kernel
theorem dX12_isBroken_1 : decode cX12_isBroken 1 = .ok (.tableswitch 207 1 6 #[39, 57, 80, 127, 150, 181], 39) := by decide +kernel
theorem dX12_isBroken_40 : decode cX12_isBroken 40 = .ok (.aload_n 0, 1) := by decide +kernel
theorem dX12_isBroken_41 : decode cX12_isBroken 41 = .ok (.getfield 7, 3) := by decide +kernel
theorem dX12_isBroken_44 : decode cX12_isBroken 44 = .ok (.bipush 93, 2) := by decide +kernel
theorem dX12_isBroken_46 : decode cX12_isBroken 46 = .ok (.iload_n 2, 1) := by decide +kernel
theorem dX12_isBroken_47 : decode cX12_isBroken 47 = .ok (.iadd, 1) := by decide +kernel
theorem dX12_isBroken_48 : decode cX12_isBroken 48 = .ok (.iaload, 1) := by decide +kernel
theorem dX12_isBroken_49 : decode cX12_isBroken 49 = .ok (.ifCond .ge 7, 3) := by decide +kernel
theorem dX12_isBroken_52 : decode cX12_isBroken 52 = .ok (.iconst 1, 1) := by decide +kernel
theorem dX12_isBroken_53 : decode cX12_isBroken 53 = .ok (.goto 4, 3) := by decide +kernel
theorem dX12_isBroken_56 : decode cX12_isBroken 56 = .ok (.iconst 0, 1) := by decide +kernel
theorem dX12_isBroken_57 : decode cX12_isBroken 57 = .ok (.ireturn, 1) := by decide +kernel
theorem dX12_isBroken_58 : decode cX12_isBroken 58 = .ok (.aload_n 0, 1) := by decide +kernel
theorem dX12_isBroken_59 : decode cX12_isBroken 59 = .ok (.iload_n 2, 1) := by decide +kernel
theorem dX12_isBroken_60 : decode cX12_isBroken 60 = .ok (.invokevirtual 213, 3) := by decide +kernel
theorem dX12_isBroken_63 : decode cX12_isBroken 63 = .ok (.aload_n 0, 1) := by decide +kernel
theorem dX12_isBroken_64 : decode cX12_isBroken 64 = .ok (.getfield 7, 3) := by decide +kernel
theorem dX12_isBroken_67 : decode cX12_isBroken 67 = .ok (.bipush 31, 2) := by decide +kernel
theorem dX12_isBroken_69 : decode cX12_isBroken 69 = .ok (.iload_n 2, 1) := by decide +kernel
theorem dX12_isBroken_70 : decode cX12_isBroken 70 = .ok (.iadd, 1) := by decide +kernel
theorem dX12_isBroken_71 : decode cX12_isBroken 71 = .ok (.iaload, 1) := by decide +kernel
theorem dX12_isBroken_72 : decode cX12_isBroken 72 = .ok (.if_icmp .le 7, 3) := by decide +kernel
theorem dX12_isBroken_75 : decode cX12_isBroken 75 = .ok (.iconst 1, 1) := by decide +kernel
theorem dX12_isBroken_76 : decode cX12_isBroken 76 = .ok (.goto 4, 3) := by decide +kernel
theorem dX12_isBroken_79 : decode cX12_isBroken 79 = .ok (.iconst 0, 1) := by decide +kernel
theorem dX12_isBroken_80 : decode cX12_isBroken 80 = .ok (.ireturn, 1) := by decide +kernel
theorem dX12_isBroken_81 : decode cX12_isBroken 81 = .ok (.aload_n 0, 1) := by decide +kernel
theorem dX12_isBroken_82 : decode cX12_isBroken 82 = .ok (.aload_n 0, 1) := by decide +kernel
theorem dX12_isBroken_83 : decode cX12_isBroken 83 = .ok (.getfield 7, 3) := by decide +kernel
theorem dX12_isBroken_86 : decode cX12_isBroken 86 = .ok (.bipush 37, 2) := by decide +kernel
theorem dX12_isBroken_88 : decode cX12_isBroken 88 = .ok (.iload_n 2, 1) := by decide +kernel
theorem dX12_isBroken_89 : decode cX12_isBroken 89 = .ok (.iadd, 1) := by decide +kernel
theorem dX12_isBroken_90 : decode cX12_isBroken 90 = .ok (.iaload, 1) := by decide +kernel
theorem dX12_isBroken_91 : decode cX12_isBroken 91 = .ok (.invokevirtual 213, 3) := by decide +kernel
theorem dX12_isBroken_94 : decode cX12_isBroken 94 = .ok (.aload_n 0, 1) := by decide +kernel
theorem dX12_isBroken_95 : decode cX12_isBroken 95 = .ok (.aload_n 0, 1) := by decide +kernel
theorem dX12_isBroken_96 : decode cX12_isBroken 96 = .ok (.getfield 7, 3) := by decide +kernel
theorem dX12_isBroken_99 : decode cX12_isBroken 99 = .ok (.bipush 37, 2) := by decide +kernel
theorem dX12_isBroken_101 : decode cX12_isBroken 101 = .ok (.iload_n 2, 1) := by decide +kernel
theorem dX12_isBroken_102 : decode cX12_isBroken 102 = .ok (.iadd, 1) := by decide +kernel
theorem dX12_isBroken_103 : decode cX12_isBroken 103 = .ok (.iaload, 1) := by decide +kernel
theorem dX12_isBroken_104 : decode cX12_isBroken 104 = .ok (.iconst 1, 1) := by decide +kernel
theorem dX12_isBroken_105 : decode cX12_isBroken 105 = .ok (.iadd, 1) := by decide +kernel
theorem dX12_isBroken_106 : decode cX12_isBroken 106 = .ok (.invokevirtual 213, 3) := by decide +kernel
theorem dX12_isBroken_109 : decode cX12_isBroken 109 = .ok (.iadd, 1) := by decide +kernel
theorem dX12_isBroken_110 : decode cX12_isBroken 110 = .ok (.aload_n 0, 1) := by decide +kernel
theorem dX12_isBroken_111 : decode cX12_isBroken 111 = .ok (.getfield 7, 3) := by decide +kernel
theorem dX12_isBroken_114 : decode cX12_isBroken 114 = .ok (.bipush 42, 2) := by decide +kernel
theorem dX12_isBroken_116 : decode cX12_isBroken 116 = .ok (.iload_n 2, 1) := by decide +kernel
theorem dX12_isBroken_117 : decode cX12_isBroken 117 = .ok (.iadd, 1) := by decide +kernel
theorem dX12_isBroken_118 : decode cX12_isBroken 118 = .ok (.iaload, 1) := by decide +kernel
theorem dX12_isBroken_119 : decode cX12_isBroken 119 = .ok (.if_icmp .le 7, 3) := by decide +kernel
theorem dX12_isBroken_122 : decode cX12_isBroken 122 = .ok (.iconst 1, 1) := by decide +kernel
theorem dX12_isBroken_123 : decode cX12_isBroken 123 = .ok (.goto 4, 3) := by decide +kernel
theorem dX12_isBroken_126 : decode cX12_isBroken 126 = .ok (.iconst 0, 1) := by decide +kernel
theorem dX12_isBroken_127 : decode cX12_isBroken 127 = .ok (.ireturn, 1) := by decide +kernel
theorem dX12_isBroken_128 : decode cX12_isBroken 128 = .ok (.aload_n 0, 1) := by decide +kernel
theorem dX12_isBroken_129 : decode cX12_isBroken 129 = .ok (.iload_n 2, 1) := by decide +kernel
theorem dX12_isBroken_130 : decode cX12_isBroken 130 = .ok (.invokevirtual 225, 3) := by decide +kernel
theorem dX12_isBroken_133 : decode cX12_isBroken 133 = .ok (.aload_n 0, 1) := by decide +kernel
theorem dX12_isBroken_134 : decode cX12_isBroken 134 = .ok (.getfield 7, 3) := by decide +kernel
theorem dX12_isBroken_137 : decode cX12_isBroken 137 = .ok (.bipush 13, 2) := by decide +kernel
theorem dX12_isBroken_139 : decode cX12_isBroken 139 = .ok (.iload_n 2, 1) := by decide +kernel
theorem dX12_isBroken_140 : decode cX12_isBroken 140 = .ok (.iadd, 1) := by decide +kernel
theorem dX12_isBroken_141 : decode cX12_isBroken 141 = .ok (.iaload, 1) := by decide +kernel
theorem dX12_isBroken_142 : decode cX12_isBroken 142 = .ok (.if_icmp .le 7, 3) := by decide +kernel
theorem dX12_isBroken_145 : decode cX12_isBroken 145 = .ok (.iconst 1, 1) := by decide +kernel
theorem dX12_isBroken_146 : decode cX12_isBroken 146 = .ok (.goto 4, 3) := by decide +kernel
theorem dX12_isBroken_149 : decode cX12_isBroken 149 = .ok (.iconst 0, 1) := by decide +kernel
theorem dX12_isBroken_150 : decode cX12_isBroken 150 = .ok (.ireturn, 1) := by decide +kernel
theorem dX12_isBroken_151 : decode cX12_isBroken 151 = .ok (.aload_n 0, 1) := by decide +kernel
theorem dX12_isBroken_152 : decode cX12_isBroken 152 = .ok (.getfield 7, 3) := by decide +kernel
theorem dX12_isBroken_155 : decode cX12_isBroken 155 = .ok (.bipush 51, 2) := by decide +kernel
theorem dX12_isBroken_157 : decode cX12_isBroken 157 = .ok (.iaload, 1) := by decide +kernel
theorem dX12_isBroken_158 : decode cX12_isBroken 158 = .ok (.aload_n 0, 1) := by decide +kernel
theorem dX12_isBroken_159 : decode cX12_isBroken 159 = .ok (.getfield 7, 3) := by decide +kernel
theorem dX12_isBroken_162 : decode cX12_isBroken 162 = .ok (.bipush 52, 2) := by decide +kernel
theorem dX12_isBroken_164 : decode cX12_isBroken 164 = .ok (.iaload, 1) := by decide +kernel
theorem dX12_isBroken_165 : decode cX12_isBroken 165 = .ok (.iadd, 1) := by decide +kernel
theorem dX12_isBroken_166 : decode cX12_isBroken 166 = .ok (.aload_n 0, 1) := by decide +kernel
theorem dX12_isBroken_167 : decode cX12_isBroken 167 = .ok (.getfield 7, 3) := by decide +kernel
theorem dX12_isBroken_170 : decode cX12_isBroken 170 = .ok (.bipush 12, 2) := by decide +kernel
theorem dX12_isBroken_172 : decode cX12_isBroken 172 = .ok (.iaload, 1) := by decide +kernel
theorem dX12_isBroken_173 : decode cX12_isBroken 173 = .ok (.if_icmp .eq 7, 3) := by decide +kernel
theorem dX12_isBroken_176 : decode cX12_isBroken 176 = .ok (.iconst 1, 1) := by decide +kernel
theorem dX12_isBroken_177 : decode cX12_isBroken 177 = .ok (.goto 4, 3) := by decide +kernel
theorem dX12_isBroken_180 : decode cX12_isBroken 180 = .ok (.iconst 0, 1) := by decide +kernel
theorem dX12_isBroken_181 : decode cX12_isBroken 181 = .ok (.ireturn, 1) := by decide +kernel
theorem dX12_isBroken_182 : decode cX12_isBroken 182 = .ok (.aload_n 0, 1) := by decide +kernel
theorem dX12_isBroken_183 : decode cX12_isBroken 183 = .ok (.iload_n 2, 1) := by decide +kernel
theorem dX12_isBroken_184 : decode cX12_isBroken 184 = .ok (.invokevirtual 210, 3) := by decide +kernel
theorem dX12_isBroken_187 : decode cX12_isBroken 187 = .ok (.ifCond .lt 19, 3) := by decide +kernel
theorem dX12_isBroken_190 : decode cX12_isBroken 190 = .ok (.aload_n 0, 1) := by decide +kernel
theorem dX12_isBroken_191 : decode cX12_isBroken 191 = .ok (.aload_n 0, 1) := by decide +kernel
theorem dX12_isBroken_192 : decode cX12_isBroken 192 = .ok (.iload_n 2, 1) := by decide +kernel
theorem dX12_isBroken_193 : decode cX12_isBroken 193 = .ok (.invokevirtual 210, 3) := by decide +kernel
theorem dX12_isBroken_196 : decode cX12_isBroken 196 = .ok (.invokevirtual 258, 3) := by decide +kernel
theorem dX12_isBroken_199 : decode cX12_isBroken 199 = .ok (.ifCond .eq 7, 3) := by decide +kernel
theorem dX12_isBroken_202 : decode cX12_isBroken 202 = .ok (.iconst 1, 1) := by decide +kernel
theorem dX12_isBroken_203 : decode cX12_isBroken 203 = .ok (.goto 4, 3) := by decide +kernel
theorem dX12_isBroken_206 : decode cX12_isBroken 206 = .ok (.iconst 0, 1) := by decide +kernel
theorem dX12_isBroken_207 : decode cX12_isBroken 207 = .ok (.ireturn, 1) := by decide +kernel
theorem dX12_isBroken_208 : decode cX12_isBroken 208 = .ok (.aload_n 0, 1) := by decide +kernel
theorem dX12_isBroken_209 : decode cX12_isBroken 209 = .ok (.iload_n 2, 1) := by decide +kernel
theorem dX12_isBroken_210 : decode cX12_isBroken 210 = .ok (.invokevirtual 261, 3) := by decide +kernel
theorem dX12_isBroken_213 : decode cX12_isBroken 213 = .ok (.ifCond .ne 7, 3) := by decide +kernel
theorem dX12_isBroken_216 : decode cX12_isBroken 216 = .ok (.iconst 1, 1) := by decide +kernel
theorem dX12_isBroken_217 : decode cX12_isBroken 217 = .ok (.goto 4, 3) := by decide +kernel
theorem dX12_isBroken_220 : decode cX12_isBroken 220 = .ok (.iconst 0, 1) := by decide +kernel
theorem dX12_isBroken_221 : decode cX12_isBroken 221 = .ok (.ireturn, 1) := by decide +kernel
theorem dX12_places_0 : decode cX12_places 0 = .ok (.iload_n 1, 1) := by decide +kernel
theorem dX12_places_1 : decode cX12_places 1 = .ok (.tableswitch 71 1 6 #[39, 47, 54, 62, 69, 47], 39) := by decide +kernel
theorem dX12_places_40 : decode cX12_places 40 = .ok (.aload_n 0, 1) := by decide +kernel
theorem dX12_places_41 : decode cX12_places 41 = .ok (.getfield 7, 3) := by decide +kernel
theorem dX12_places_44 : decode cX12_places 44 = .ok (.bipush 11, 2) := by decide +kernel
theorem dX12_places_46 : decode cX12_places 46 = .ok (.iaload, 1) := by decide +kernel
theorem dX12_places_47 : decode cX12_places 47 = .ok (.ireturn, 1) := by decide +kernel
theorem dX12_places_48 : decode cX12_places 48 = .ok (.aload_n 0, 1) := by decide +kernel
theorem dX12_places_49 : decode cX12_places 49 = .ok (.getfield 7, 3) := by decide +kernel
theorem dX12_places_52 : decode cX12_places 52 = .ok (.iconst 5, 1) := by decide +kernel
theorem dX12_places_53 : decode cX12_places 53 = .ok (.iaload, 1) := by decide +kernel
theorem dX12_places_54 : decode cX12_places 54 = .ok (.ireturn, 1) := by decide +kernel
theorem dX12_places_55 : decode cX12_places 55 = .ok (.aload_n 0, 1) := by decide +kernel
theorem dX12_places_56 : decode cX12_places 56 = .ok (.getfield 7, 3) := by decide +kernel
theorem dX12_places_59 : decode cX12_places 59 = .ok (.bipush 6, 2) := by decide +kernel
theorem dX12_places_61 : decode cX12_places 61 = .ok (.iaload, 1) := by decide +kernel
theorem dX12_places_62 : decode cX12_places 62 = .ok (.ireturn, 1) := by decide +kernel
theorem dX12_places_63 : decode cX12_places 63 = .ok (.aload_n 0, 1) := by decide +kernel
theorem dX12_places_64 : decode cX12_places 64 = .ok (.getfield 7, 3) := by decide +kernel
theorem dX12_places_67 : decode cX12_places 67 = .ok (.iconst 4, 1) := by decide +kernel
theorem dX12_places_68 : decode cX12_places 68 = .ok (.iaload, 1) := by decide +kernel
theorem dX12_places_69 : decode cX12_places 69 = .ok (.ireturn, 1) := by decide +kernel
theorem dX12_places_70 : decode cX12_places 70 = .ok (.iconst 1, 1) := by decide +kernel
theorem dX12_places_71 : decode cX12_places 71 = .ok (.ireturn, 1) := by decide +kernel
theorem dX12_places_72 : decode cX12_places 72 = .ok (.aload_n 0, 1) := by decide +kernel
theorem dX12_places_73 : decode cX12_places 73 = .ok (.getfield 7, 3) := by decide +kernel
theorem dX12_places_76 : decode cX12_places 76 = .ok (.bipush 9, 2) := by decide +kernel
theorem dX12_places_78 : decode cX12_places 78 = .ok (.iaload, 1) := by decide +kernel
theorem dX12_places_79 : decode cX12_places 79 = .ok (.iconst 1, 1) := by decide +kernel
theorem dX12_places_80 : decode cX12_places 80 = .ok (.iadd, 1) := by decide +kernel
theorem dX12_places_81 : decode cX12_places 81 = .ok (.ireturn, 1) := by decide +kernel
theorem dX12_broken_0 : decode cX12_broken 0 = .ok (.iconst 1, 1) := by decide +kernel
theorem dX12_broken_1 : decode cX12_broken 1 = .ok (.istore_n 1, 1) := by decide +kernel
theorem dX12_broken_2 : decode cX12_broken 2 = .ok (.iload_n 1, 1) := by decide +kernel
theorem dX12_broken_3 : decode cX12_broken 3 = .ok (.bipush 8, 2) := by decide +kernel
theorem dX12_broken_5 : decode cX12_broken 5 = .ok (.if_icmp .ge 42, 3) := by decide +kernel
theorem dX12_broken_8 : decode cX12_broken 8 = .ok (.iconst 0, 1) := by decide +kernel
theorem dX12_broken_9 : decode cX12_broken 9 = .ok (.istore_n 2, 1) := by decide +kernel
theorem dX12_broken_10 : decode cX12_broken 10 = .ok (.iload_n 2, 1) := by decide +kernel
theorem dX12_broken_11 : decode cX12_broken 11 = .ok (.aload_n 0, 1) := by decide +kernel
theorem dX12_broken_12 : decode cX12_broken 12 = .ok (.iload_n 1, 1) := by decide +kernel
theorem dX12_broken_13 : decode cX12_broken 13 = .ok (.invokevirtual 264, 3) := by decide +kernel
theorem dX12_broken_16 : decode cX12_broken 16 = .ok (.if_icmp .ge 25, 3) := by decide +kernel
theorem dX12_broken_19 : decode cX12_broken 19 = .ok (.aload_n 0, 1) := by decide +kernel
theorem dX12_broken_20 : decode cX12_broken 20 = .ok (.iload_n 1, 1) := by decide +kernel
theorem dX12_broken_21 : decode cX12_broken 21 = .ok (.iload_n 2, 1) := by decide +kernel
theorem dX12_broken_22 : decode cX12_broken 22 = .ok (.invokevirtual 267, 3) := by decide +kernel
theorem dX12_broken_25 : decode cX12_broken 25 = .ok (.ifCond .eq 10, 3) := by decide +kernel
theorem dX12_broken_28 : decode cX12_broken 28 = .ok (.aload_n 0, 1) := by decide +kernel
theorem dX12_broken_29 : decode cX12_broken 29 = .ok (.iload_n 2, 1) := by decide +kernel
theorem dX12_broken_30 : decode cX12_broken 30 = .ok (.putfield 270, 3) := by decide +kernel
theorem dX12_broken_33 : decode cX12_broken 33 = .ok (.iload_n 1, 1) := by decide +kernel
theorem dX12_broken_34 : decode cX12_broken 34 = .ok (.ireturn, 1) := by decide +kernel
theorem dX12_broken_35 : decode cX12_broken 35 = .ok (.iinc 2 1, 3) := by decide +kernel
theorem dX12_broken_38 : decode cX12_broken 38 = .ok (.goto (-28), 3) := by decide +kernel
theorem dX12_broken_41 : decode cX12_broken 41 = .ok (.iinc 1 1, 3) := by decide +kernel
theorem dX12_broken_44 : decode cX12_broken 44 = .ok (.goto (-42), 3) := by decide +kernel
theorem dX12_broken_47 : decode cX12_broken 47 = .ok (.aload_n 0, 1) := by decide +kernel
theorem dX12_broken_48 : decode cX12_broken 48 = .ok (.iconst (-1), 1) := by decide +kernel
theorem dX12_broken_49 : decode cX12_broken 49 = .ok (.putfield 270, 3) := by decide +kernel
theorem dX12_broken_52 : decode cX12_broken 52 = .ok (.iconst 0, 1) := by decide +kernel
theorem dX12_broken_53 : decode cX12_broken 53 = .ok (.ireturn, 1) := by decide +kernel
theorem dX12_why_0 : decode cX12_why 0 = .ok (.aload_n 0, 1) := by decide +kernel
theorem dX12_why_1 : decode cX12_why 1 = .ok (.invokevirtual 273, 3) := by decide +kernel
theorem dX12_why_4 : decode cX12_why 4 = .ok (.ireturn, 1) := by decide +kernel
theorem dX12_where_0 : decode cX12_where 0 = .ok (.aload_n 0, 1) := by decide +kernel
theorem dX12_where_1 : decode cX12_where 1 = .ok (.invokevirtual 273, 3) := by decide +kernel
theorem dX12_where_4 : decode cX12_where 4 = .ok (.ifCond .ne 7, 3) := by decide +kernel
theorem dX12_where_7 : decode cX12_where 7 = .ok (.iconst (-1), 1) := by decide +kernel
theorem dX12_where_8 : decode cX12_where 8 = .ok (.goto 7, 3) := by decide +kernel
theorem dX12_where_11 : decode cX12_where 11 = .ok (.aload_n 0, 1) := by decide +kernel
theorem dX12_where_12 : decode cX12_where 12 = .ok (.getfield 270, 3) := by decide +kernel
theorem dX12_where_15 : decode cX12_where 15 = .ok (.ireturn, 1) := by decide +kernel
theorem dX12_stage_0 : decode cX12_stage 0 = .ok (.iload_n 1, 1) := by decide +kernel
theorem dX12_stage_1 : decode cX12_stage 1 = .ok (.iconst 0, 1) := by decide +kernel
theorem dX12_stage_2 : decode cX12_stage 2 = .ok (.aload_n 0, 1) := by decide +kernel
theorem dX12_stage_3 : decode cX12_stage 3 = .ok (.getfield 7, 3) := by decide +kernel
theorem dX12_stage_6 : decode cX12_stage 6 = .ok (.bipush 9, 2) := by decide +kernel
theorem dX12_stage_8 : decode cX12_stage 8 = .ok (.iaload, 1) := by decide +kernel
theorem dX12_stage_9 : decode cX12_stage 9 = .ok (.invokestatic 73, 3) := by decide +kernel
theorem dX12_stage_12 : decode cX12_stage 12 = .ok (.ifCond .eq 12, 3) := by decide +kernel
theorem dX12_stage_15 : decode cX12_stage 15 = .ok (.iload_n 2, 1) := by decide +kernel
theorem dX12_stage_16 : decode cX12_stage 16 = .ok (.iconst 0, 1) := by decide +kernel
theorem dX12_stage_17 : decode cX12_stage 17 = .ok (.iconst 3, 1) := by decide +kernel
theorem dX12_stage_18 : decode cX12_stage 18 = .ok (.invokestatic 73, 3) := by decide +kernel
theorem dX12_stage_21 : decode cX12_stage 21 = .ok (.ifCond .ne 7, 3) := by decide +kernel
theorem dX12_stage_24 : decode cX12_stage 24 = .ok (.ldc_w 276, 3) := by decide +kernel
theorem dX12_stage_27 : decode cX12_stage 27 = .ok (.ireturn, 1) := by decide +kernel
theorem dX12_stage_28 : decode cX12_stage 28 = .ok (.aload_n 0, 1) := by decide +kernel
theorem dX12_stage_29 : decode cX12_stage 29 = .ok (.iload_n 1, 1) := by decide +kernel
theorem dX12_stage_30 : decode cX12_stage 30 = .ok (.invokevirtual 252, 3) := by decide +kernel
theorem dX12_stage_33 : decode cX12_stage 33 = .ok (.iload_n 2, 1) := by decide +kernel
theorem dX12_stage_34 : decode cX12_stage 34 = .ok (.ifCond .ne 10, 3) := by decide +kernel
theorem dX12_stage_37 : decode cX12_stage 37 = .ok (.aload_n 0, 1) := by decide +kernel
theorem dX12_stage_38 : decode cX12_stage 38 = .ok (.getfield 242, 3) := by decide +kernel
theorem dX12_stage_41 : decode cX12_stage 41 = .ok (.goto 55, 3) := by decide +kernel
theorem dX12_stage_44 : decode cX12_stage 44 = .ok (.iload_n 2, 1) := by decide +kernel
theorem dX12_stage_45 : decode cX12_stage 45 = .ok (.iconst 1, 1) := by decide +kernel
theorem dX12_stage_46 : decode cX12_stage 46 = .ok (.if_icmp .ne 10, 3) := by decide +kernel
theorem dX12_stage_49 : decode cX12_stage 49 = .ok (.aload_n 0, 1) := by decide +kernel
theorem dX12_stage_50 : decode cX12_stage 50 = .ok (.getfield 245, 3) := by decide +kernel
theorem dX12_stage_53 : decode cX12_stage 53 = .ok (.goto 43, 3) := by decide +kernel
theorem dX12_stage_56 : decode cX12_stage 56 = .ok (.iload_n 2, 1) := by decide +kernel
theorem dX12_stage_57 : decode cX12_stage 57 = .ok (.iconst 2, 1) := by decide +kernel
theorem dX12_stage_58 : decode cX12_stage 58 = .ok (.if_icmp .ne 22, 3) := by decide +kernel
theorem dX12_stage_61 : decode cX12_stage 61 = .ok (.aload_n 0, 1) := by decide +kernel
theorem dX12_stage_62 : decode cX12_stage 62 = .ok (.getfield 245, 3) := by decide +kernel
theorem dX12_stage_65 : decode cX12_stage 65 = .ok (.aload_n 0, 1) := by decide +kernel
theorem dX12_stage_66 : decode cX12_stage 66 = .ok (.getfield 242, 3) := by decide +kernel
theorem dX12_stage_69 : decode cX12_stage 69 = .ok (.aload_n 0, 1) := by decide +kernel
theorem dX12_stage_70 : decode cX12_stage 70 = .ok (.getfield 7, 3) := by decide +kernel
theorem dX12_stage_73 : decode cX12_stage 73 = .ok (.iconst 2, 1) := by decide +kernel
theorem dX12_stage_74 : decode cX12_stage 74 = .ok (.iaload, 1) := by decide +kernel
theorem dX12_stage_75 : decode cX12_stage 75 = .ok (.imul, 1) := by decide +kernel
theorem dX12_stage_76 : decode cX12_stage 76 = .ok (.isub, 1) := by decide +kernel
theorem dX12_stage_77 : decode cX12_stage 77 = .ok (.goto 19, 3) := by decide +kernel
theorem dX12_stage_80 : decode cX12_stage 80 = .ok (.aload_n 0, 1) := by decide +kernel
theorem dX12_stage_81 : decode cX12_stage 81 = .ok (.getfield 242, 3) := by decide +kernel
theorem dX12_stage_84 : decode cX12_stage 84 = .ok (.aload_n 0, 1) := by decide +kernel
theorem dX12_stage_85 : decode cX12_stage 85 = .ok (.getfield 7, 3) := by decide +kernel
theorem dX12_stage_88 : decode cX12_stage 88 = .ok (.iconst 3, 1) := by decide +kernel
theorem dX12_stage_89 : decode cX12_stage 89 = .ok (.iaload, 1) := by decide +kernel
theorem dX12_stage_90 : decode cX12_stage 90 = .ok (.imul, 1) := by decide +kernel
theorem dX12_stage_91 : decode cX12_stage 91 = .ok (.aload_n 0, 1) := by decide +kernel
theorem dX12_stage_92 : decode cX12_stage 92 = .ok (.getfield 245, 3) := by decide +kernel
theorem dX12_stage_95 : decode cX12_stage 95 = .ok (.isub, 1) := by decide +kernel
theorem dX12_stage_96 : decode cX12_stage 96 = .ok (.ireturn, 1) := by decide +kernel
theorem dX12_blocks_0 : decode cX12_blocks 0 = .ok (.aload_n 0, 1) := by decide +kernel
theorem dX12_blocks_1 : decode cX12_blocks 1 = .ok (.iload_n 1, 1) := by decide +kernel
theorem dX12_blocks_2 : decode cX12_blocks 2 = .ok (.invokevirtual 216, 3) := by decide +kernel
theorem dX12_blocks_5 : decode cX12_blocks 5 = .ok (.ifCond .eq 11, 3) := by decide +kernel
theorem dX12_blocks_8 : decode cX12_blocks 8 = .ok (.aload_n 0, 1) := by decide +kernel
theorem dX12_blocks_9 : decode cX12_blocks 9 = .ok (.iload_n 1, 1) := by decide +kernel
theorem dX12_blocks_10 : decode cX12_blocks 10 = .ok (.invokevirtual 258, 3) := by decide +kernel
theorem dX12_blocks_13 : decode cX12_blocks 13 = .ok (.goto 4, 3) := by decide +kernel
theorem dX12_blocks_16 : decode cX12_blocks 16 = .ok (.iconst (-1), 1) := by decide +kernel
theorem dX12_blocks_17 : decode cX12_blocks 17 = .ok (.ireturn, 1) := by decide +kernel
theorem dX12_spare_0 : decode cX12_spare 0 = .ok (.aload_n 0, 1) := by decide +kernel
theorem dX12_spare_1 : decode cX12_spare 1 = .ok (.iload_n 1, 1) := by decide +kernel
theorem dX12_spare_2 : decode cX12_spare 2 = .ok (.invokevirtual 216, 3) := by decide +kernel
theorem dX12_spare_5 : decode cX12_spare 5 = .ok (.ifCond .eq 10, 3) := by decide +kernel
theorem dX12_spare_8 : decode cX12_spare 8 = .ok (.aload_n 0, 1) := by decide +kernel
theorem dX12_spare_9 : decode cX12_spare 9 = .ok (.invokevirtual 273, 3) := by decide +kernel
theorem dX12_spare_12 : decode cX12_spare 12 = .ok (.ifCond .eq 5, 3) := by decide +kernel
theorem dX12_spare_15 : decode cX12_spare 15 = .ok (.iconst (-1), 1) := by decide +kernel
theorem dX12_spare_16 : decode cX12_spare 16 = .ok (.ireturn, 1) := by decide +kernel
theorem dX12_spare_17 : decode cX12_spare 17 = .ok (.aload_n 0, 1) := by decide +kernel
theorem dX12_spare_18 : decode cX12_spare 18 = .ok (.getfield 7, 3) := by decide +kernel
theorem dX12_spare_21 : decode cX12_spare 21 = .ok (.bipush 83, 2) := by decide +kernel
theorem dX12_spare_23 : decode cX12_spare 23 = .ok (.iload_n 1, 1) := by decide +kernel
theorem dX12_spare_24 : decode cX12_spare 24 = .ok (.iadd, 1) := by decide +kernel
theorem dX12_spare_25 : decode cX12_spare 25 = .ok (.iaload, 1) := by decide +kernel
theorem dX12_spare_26 : decode cX12_spare 26 = .ok (.istore_n 2, 1) := by decide +kernel
theorem dX12_spare_27 : decode cX12_spare 27 = .ok (.iconst 0, 1) := by decide +kernel
theorem dX12_spare_28 : decode cX12_spare 28 = .ok (.istore_n 3, 1) := by decide +kernel
theorem dX12_spare_29 : decode cX12_spare 29 = .ok (.iload_n 3, 1) := by decide +kernel
theorem dX12_spare_30 : decode cX12_spare 30 = .ok (.bipush 99, 2) := by decide +kernel
theorem dX12_spare_32 : decode cX12_spare 32 = .ok (.if_icmp .ge 33, 3) := by decide +kernel
theorem dX12_spare_35 : decode cX12_spare 35 = .ok (.aload_n 0, 1) := by decide +kernel
theorem dX12_spare_36 : decode cX12_spare 36 = .ok (.getfield 7, 3) := by decide +kernel
theorem dX12_spare_39 : decode cX12_spare 39 = .ok (.bipush 83, 2) := by decide +kernel
theorem dX12_spare_41 : decode cX12_spare 41 = .ok (.iload_n 1, 1) := by decide +kernel
theorem dX12_spare_42 : decode cX12_spare 42 = .ok (.iadd, 1) := by decide +kernel
theorem dX12_spare_43 : decode cX12_spare 43 = .ok (.iload_n 2, 1) := by decide +kernel
theorem dX12_spare_44 : decode cX12_spare 44 = .ok (.iload_n 3, 1) := by decide +kernel
theorem dX12_spare_45 : decode cX12_spare 45 = .ok (.iadd, 1) := by decide +kernel
theorem dX12_spare_46 : decode cX12_spare 46 = .ok (.iconst 1, 1) := by decide +kernel
theorem dX12_spare_47 : decode cX12_spare 47 = .ok (.iadd, 1) := by decide +kernel
theorem dX12_spare_48 : decode cX12_spare 48 = .ok (.iastore, 1) := by decide +kernel
theorem dX12_spare_49 : decode cX12_spare 49 = .ok (.aload_n 0, 1) := by decide +kernel
theorem dX12_spare_50 : decode cX12_spare 50 = .ok (.invokevirtual 273, 3) := by decide +kernel
theorem dX12_spare_53 : decode cX12_spare 53 = .ok (.ifCond .eq 6, 3) := by decide +kernel
theorem dX12_spare_56 : decode cX12_spare 56 = .ok (.goto 9, 3) := by decide +kernel
theorem dX12_spare_59 : decode cX12_spare 59 = .ok (.iinc 3 1, 3) := by decide +kernel
theorem dX12_spare_62 : decode cX12_spare 62 = .ok (.goto (-33), 3) := by decide +kernel
theorem dX12_spare_65 : decode cX12_spare 65 = .ok (.aload_n 0, 1) := by decide +kernel
theorem dX12_spare_66 : decode cX12_spare 66 = .ok (.getfield 7, 3) := by decide +kernel
theorem dX12_spare_69 : decode cX12_spare 69 = .ok (.bipush 83, 2) := by decide +kernel
theorem dX12_spare_71 : decode cX12_spare 71 = .ok (.iload_n 1, 1) := by decide +kernel
theorem dX12_spare_72 : decode cX12_spare 72 = .ok (.iadd, 1) := by decide +kernel
theorem dX12_spare_73 : decode cX12_spare 73 = .ok (.iload_n 2, 1) := by decide +kernel
theorem dX12_spare_74 : decode cX12_spare 74 = .ok (.iastore, 1) := by decide +kernel
theorem dX12_spare_75 : decode cX12_spare 75 = .ok (.iload_n 3, 1) := by decide +kernel
theorem dX12_spare_76 : decode cX12_spare 76 = .ok (.ireturn, 1) := by decide +kernel
theorem dX12_changesPlaces_0 : decode cX12_changesPlaces 0 = .ok (.aload_n 0, 1) := by decide +kernel
theorem dX12_changesPlaces_1 : decode cX12_changesPlaces 1 = .ok (.getfield 7, 3) := by decide +kernel
theorem dX12_changesPlaces_4 : decode cX12_changesPlaces 4 = .ok (.bipush 93, 2) := by decide +kernel
theorem dX12_changesPlaces_6 : decode cX12_changesPlaces 6 = .ok (.iload_n 1, 1) := by decide +kernel
theorem dX12_changesPlaces_7 : decode cX12_changesPlaces 7 = .ok (.iadd, 1) := by decide +kernel
theorem dX12_changesPlaces_8 : decode cX12_changesPlaces 8 = .ok (.iaload, 1) := by decide +kernel
theorem dX12_changesPlaces_9 : decode cX12_changesPlaces 9 = .ok (.istore_n 3, 1) := by decide +kernel
theorem dX12_changesPlaces_10 : decode cX12_changesPlaces 10 = .ok (.aload_n 0, 1) := by decide +kernel
theorem dX12_changesPlaces_11 : decode cX12_changesPlaces 11 = .ok (.getfield 7, 3) := by decide +kernel
theorem dX12_changesPlaces_14 : decode cX12_changesPlaces 14 = .ok (.bipush 93, 2) := by decide +kernel
theorem dX12_changesPlaces_16 : decode cX12_changesPlaces 16 = .ok (.iload_n 1, 1) := by decide +kernel
theorem dX12_changesPlaces_17 : decode cX12_changesPlaces 17 = .ok (.iadd, 1) := by decide +kernel
theorem dX12_changesPlaces_18 : decode cX12_changesPlaces 18 = .ok (.aload_n 0, 1) := by decide +kernel
theorem dX12_changesPlaces_19 : decode cX12_changesPlaces 19 = .ok (.getfield 7, 3) := by decide +kernel
theorem dX12_changesPlaces_22 : decode cX12_changesPlaces 22 = .ok (.bipush 93, 2) := by decide +kernel
theorem dX12_changesPlaces_24 : decode cX12_changesPlaces 24 = .ok (.iload_n 2, 1) := by decide +kernel
theorem dX12_changesPlaces_25 : decode cX12_changesPlaces 25 = .ok (.iadd, 1) := by decide +kernel
theorem dX12_changesPlaces_26 : decode cX12_changesPlaces 26 = .ok (.iaload, 1) := by decide +kernel
theorem dX12_changesPlaces_27 : decode cX12_changesPlaces 27 = .ok (.iastore, 1) := by decide +kernel
theorem dX12_changesPlaces_28 : decode cX12_changesPlaces 28 = .ok (.aload_n 0, 1) := by decide +kernel
theorem dX12_changesPlaces_29 : decode cX12_changesPlaces 29 = .ok (.getfield 7, 3) := by decide +kernel
theorem dX12_changesPlaces_32 : decode cX12_changesPlaces 32 = .ok (.bipush 93, 2) := by decide +kernel
theorem dX12_changesPlaces_34 : decode cX12_changesPlaces 34 = .ok (.iload_n 2, 1) := by decide +kernel
theorem dX12_changesPlaces_35 : decode cX12_changesPlaces 35 = .ok (.iadd, 1) := by decide +kernel
theorem dX12_changesPlaces_36 : decode cX12_changesPlaces 36 = .ok (.iload_n 3, 1) := by decide +kernel
theorem dX12_changesPlaces_37 : decode cX12_changesPlaces 37 = .ok (.iastore, 1) := by decide +kernel
theorem dX12_changesPlaces_38 : decode cX12_changesPlaces 38 = .ok (.return_, 1) := by decide +kernel
theorem dX12_swaps_0 : decode cX12_swaps 0 = .ok (.iconst 0, 1) := by decide +kernel
theorem dX12_swaps_1 : decode cX12_swaps 1 = .ok (.istore_n 1, 1) := by decide +kernel
theorem dX12_swaps_2 : decode cX12_swaps 2 = .ok (.iconst 0, 1) := by decide +kernel
theorem dX12_swaps_3 : decode cX12_swaps 3 = .ok (.istore_n 2, 1) := by decide +kernel
theorem dX12_swaps_4 : decode cX12_swaps 4 = .ok (.iload_n 2, 1) := by decide +kernel
theorem dX12_swaps_5 : decode cX12_swaps 5 = .ok (.aload_n 0, 1) := by decide +kernel
theorem dX12_swaps_6 : decode cX12_swaps 6 = .ok (.getfield 7, 3) := by decide +kernel
theorem dX12_swaps_9 : decode cX12_swaps 9 = .ok (.bipush 11, 2) := by decide +kernel
theorem dX12_swaps_11 : decode cX12_swaps 11 = .ok (.iaload, 1) := by decide +kernel
theorem dX12_swaps_12 : decode cX12_swaps 12 = .ok (.if_icmp .ge 76, 3) := by decide +kernel
theorem dX12_swaps_15 : decode cX12_swaps 15 = .ok (.iconst 0, 1) := by decide +kernel
theorem dX12_swaps_16 : decode cX12_swaps 16 = .ok (.istore_n 3, 1) := by decide +kernel
theorem dX12_swaps_17 : decode cX12_swaps 17 = .ok (.iload_n 3, 1) := by decide +kernel
theorem dX12_swaps_18 : decode cX12_swaps 18 = .ok (.iload_n 2, 1) := by decide +kernel
theorem dX12_swaps_19 : decode cX12_swaps 19 = .ok (.if_icmp .ge 63, 3) := by decide +kernel
theorem dX12_swaps_22 : decode cX12_swaps 22 = .ok (.aload_n 0, 1) := by decide +kernel
theorem dX12_swaps_23 : decode cX12_swaps 23 = .ok (.getfield 7, 3) := by decide +kernel
theorem dX12_swaps_26 : decode cX12_swaps 26 = .ok (.bipush 93, 2) := by decide +kernel
theorem dX12_swaps_28 : decode cX12_swaps 28 = .ok (.iload_n 2, 1) := by decide +kernel
theorem dX12_swaps_29 : decode cX12_swaps 29 = .ok (.iadd, 1) := by decide +kernel
theorem dX12_swaps_30 : decode cX12_swaps 30 = .ok (.iaload, 1) := by decide +kernel
theorem dX12_swaps_31 : decode cX12_swaps 31 = .ok (.ifCond .lt 45, 3) := by decide +kernel
theorem dX12_swaps_34 : decode cX12_swaps 34 = .ok (.aload_n 0, 1) := by decide +kernel
theorem dX12_swaps_35 : decode cX12_swaps 35 = .ok (.getfield 7, 3) := by decide +kernel
theorem dX12_swaps_38 : decode cX12_swaps 38 = .ok (.bipush 93, 2) := by decide +kernel
theorem dX12_swaps_40 : decode cX12_swaps 40 = .ok (.iload_n 3, 1) := by decide +kernel
theorem dX12_swaps_41 : decode cX12_swaps 41 = .ok (.iadd, 1) := by decide +kernel
theorem dX12_swaps_42 : decode cX12_swaps 42 = .ok (.iaload, 1) := by decide +kernel
theorem dX12_swaps_43 : decode cX12_swaps 43 = .ok (.ifCond .ge 6, 3) := by decide +kernel
theorem dX12_swaps_46 : decode cX12_swaps 46 = .ok (.goto 30, 3) := by decide +kernel
theorem dX12_swaps_49 : decode cX12_swaps 49 = .ok (.aload_n 0, 1) := by decide +kernel
theorem dX12_swaps_50 : decode cX12_swaps 50 = .ok (.iload_n 2, 1) := by decide +kernel
theorem dX12_swaps_51 : decode cX12_swaps 51 = .ok (.iload_n 3, 1) := by decide +kernel
theorem dX12_swaps_52 : decode cX12_swaps 52 = .ok (.invokevirtual 277, 3) := by decide +kernel
theorem dX12_swaps_55 : decode cX12_swaps 55 = .ok (.iload_n 1, 1) := by decide +kernel
theorem dX12_swaps_56 : decode cX12_swaps 56 = .ok (.aload_n 0, 1) := by decide +kernel
theorem dX12_swaps_57 : decode cX12_swaps 57 = .ok (.invokevirtual 273, 3) := by decide +kernel
theorem dX12_swaps_60 : decode cX12_swaps 60 = .ok (.ifCond .ne 7, 3) := by decide +kernel
theorem dX12_swaps_63 : decode cX12_swaps 63 = .ok (.iconst 1, 1) := by decide +kernel
theorem dX12_swaps_64 : decode cX12_swaps 64 = .ok (.goto 4, 3) := by decide +kernel
theorem dX12_swaps_67 : decode cX12_swaps 67 = .ok (.iconst 0, 1) := by decide +kernel
theorem dX12_swaps_68 : decode cX12_swaps 68 = .ok (.iadd, 1) := by decide +kernel
theorem dX12_swaps_69 : decode cX12_swaps 69 = .ok (.istore_n 1, 1) := by decide +kernel
theorem dX12_swaps_70 : decode cX12_swaps 70 = .ok (.aload_n 0, 1) := by decide +kernel
theorem dX12_swaps_71 : decode cX12_swaps 71 = .ok (.iload_n 2, 1) := by decide +kernel
theorem dX12_swaps_72 : decode cX12_swaps 72 = .ok (.iload_n 3, 1) := by decide +kernel
theorem dX12_swaps_73 : decode cX12_swaps 73 = .ok (.invokevirtual 277, 3) := by decide +kernel
theorem dX12_swaps_76 : decode cX12_swaps 76 = .ok (.iinc 3 1, 3) := by decide +kernel
theorem dX12_swaps_79 : decode cX12_swaps 79 = .ok (.goto (-62), 3) := by decide +kernel
theorem dX12_swaps_82 : decode cX12_swaps 82 = .ok (.iinc 2 1, 3) := by decide +kernel
theorem dX12_swaps_85 : decode cX12_swaps 85 = .ok (.goto (-81), 3) := by decide +kernel
theorem dX12_swaps_88 : decode cX12_swaps 88 = .ok (.iload_n 1, 1) := by decide +kernel
theorem dX12_swaps_89 : decode cX12_swaps 89 = .ok (.ireturn, 1) := by decide +kernel
theorem dX12_code_0 : decode cX12_code 0 = .ok (.iconst 0, 1) := by decide +kernel
theorem dX12_code_1 : decode cX12_code 1 = .ok (.istore_n 1, 1) := by decide +kernel
theorem dX12_code_2 : decode cX12_code 2 = .ok (.iconst 0, 1) := by decide +kernel
theorem dX12_code_3 : decode cX12_code 3 = .ok (.istore_n 2, 1) := by decide +kernel
theorem dX12_code_4 : decode cX12_code 4 = .ok (.iload_n 2, 1) := by decide +kernel
theorem dX12_code_5 : decode cX12_code 5 = .ok (.aload_n 0, 1) := by decide +kernel
theorem dX12_code_6 : decode cX12_code 6 = .ok (.getfield 7, 3) := by decide +kernel
theorem dX12_code_9 : decode cX12_code 9 = .ok (.bipush 11, 2) := by decide +kernel
theorem dX12_code_11 : decode cX12_code 11 = .ok (.iaload, 1) := by decide +kernel
theorem dX12_code_12 : decode cX12_code 12 = .ok (.if_icmp .ge 26, 3) := by decide +kernel
theorem dX12_code_15 : decode cX12_code 15 = .ok (.bipush 7, 2) := by decide +kernel
theorem dX12_code_17 : decode cX12_code 17 = .ok (.iload_n 1, 1) := by decide +kernel
theorem dX12_code_18 : decode cX12_code 18 = .ok (.imul, 1) := by decide +kernel
theorem dX12_code_19 : decode cX12_code 19 = .ok (.aload_n 0, 1) := by decide +kernel
theorem dX12_code_20 : decode cX12_code 20 = .ok (.getfield 7, 3) := by decide +kernel
theorem dX12_code_23 : decode cX12_code 23 = .ok (.bipush 93, 2) := by decide +kernel
theorem dX12_code_25 : decode cX12_code 25 = .ok (.iload_n 2, 1) := by decide +kernel
theorem dX12_code_26 : decode cX12_code 26 = .ok (.iadd, 1) := by decide +kernel
theorem dX12_code_27 : decode cX12_code 27 = .ok (.iaload, 1) := by decide +kernel
theorem dX12_code_28 : decode cX12_code 28 = .ok (.iadd, 1) := by decide +kernel
theorem dX12_code_29 : decode cX12_code 29 = .ok (.iconst 1, 1) := by decide +kernel
theorem dX12_code_30 : decode cX12_code 30 = .ok (.iadd, 1) := by decide +kernel
theorem dX12_code_31 : decode cX12_code 31 = .ok (.istore_n 1, 1) := by decide +kernel
theorem dX12_code_32 : decode cX12_code 32 = .ok (.iinc 2 1, 3) := by decide +kernel
theorem dX12_code_35 : decode cX12_code 35 = .ok (.goto (-31), 3) := by decide +kernel
theorem dX12_code_38 : decode cX12_code 38 = .ok (.iload_n 1, 1) := by decide +kernel
theorem dX12_code_39 : decode cX12_code 39 = .ok (.ireturn, 1) := by decide +kernel
theorem dX12_lays_0 : decode cX12_lays 0 = .ok (.iload_n 1, 1) := by decide +kernel
theorem dX12_lays_1 : decode cX12_lays 1 = .ok (.istore_n 2, 1) := by decide +kernel
theorem dX12_lays_2 : decode cX12_lays 2 = .ok (.aload_n 0, 1) := by decide +kernel
theorem dX12_lays_3 : decode cX12_lays 3 = .ok (.getfield 7, 3) := by decide +kernel
theorem dX12_lays_6 : decode cX12_lays 6 = .ok (.bipush 11, 2) := by decide +kernel
theorem dX12_lays_8 : decode cX12_lays 8 = .ok (.iaload, 1) := by decide +kernel
theorem dX12_lays_9 : decode cX12_lays 9 = .ok (.iconst 1, 1) := by decide +kernel
theorem dX12_lays_10 : decode cX12_lays 10 = .ok (.isub, 1) := by decide +kernel
theorem dX12_lays_11 : decode cX12_lays 11 = .ok (.istore_n 3, 1) := by decide +kernel
theorem dX12_lays_12 : decode cX12_lays 12 = .ok (.iload_n 3, 1) := by decide +kernel
theorem dX12_lays_13 : decode cX12_lays 13 = .ok (.ifCond .lt 29, 3) := by decide +kernel
theorem dX12_lays_16 : decode cX12_lays 16 = .ok (.aload_n 0, 1) := by decide +kernel
theorem dX12_lays_17 : decode cX12_lays 17 = .ok (.getfield 7, 3) := by decide +kernel
theorem dX12_lays_20 : decode cX12_lays 20 = .ok (.bipush 93, 2) := by decide +kernel
theorem dX12_lays_22 : decode cX12_lays 22 = .ok (.iload_n 3, 1) := by decide +kernel
theorem dX12_lays_23 : decode cX12_lays 23 = .ok (.iadd, 1) := by decide +kernel
theorem dX12_lays_24 : decode cX12_lays 24 = .ok (.iload_n 2, 1) := by decide +kernel
theorem dX12_lays_25 : decode cX12_lays 25 = .ok (.bipush 7, 2) := by decide +kernel
theorem dX12_lays_27 : decode cX12_lays 27 = .ok (.irem, 1) := by decide +kernel
theorem dX12_lays_28 : decode cX12_lays 28 = .ok (.iconst 1, 1) := by decide +kernel
theorem dX12_lays_29 : decode cX12_lays 29 = .ok (.isub, 1) := by decide +kernel
theorem dX12_lays_30 : decode cX12_lays 30 = .ok (.iastore, 1) := by decide +kernel
theorem dX12_lays_31 : decode cX12_lays 31 = .ok (.iload_n 2, 1) := by decide +kernel
theorem dX12_lays_32 : decode cX12_lays 32 = .ok (.bipush 7, 2) := by decide +kernel
theorem dX12_lays_34 : decode cX12_lays 34 = .ok (.idiv, 1) := by decide +kernel
theorem dX12_lays_35 : decode cX12_lays 35 = .ok (.istore_n 2, 1) := by decide +kernel
theorem dX12_lays_36 : decode cX12_lays 36 = .ok (.iinc 3 (-1), 3) := by decide +kernel
theorem dX12_lays_39 : decode cX12_lays 39 = .ok (.goto (-27), 3) := by decide +kernel
theorem dX12_lays_42 : decode cX12_lays 42 = .ok (.return_, 1) := by decide +kernel
theorem dX12_codes_0 : decode cX12_codes 0 = .ok (.iconst 1, 1) := by decide +kernel
theorem dX12_codes_1 : decode cX12_codes 1 = .ok (.istore_n 1, 1) := by decide +kernel
theorem dX12_codes_2 : decode cX12_codes 2 = .ok (.iconst 0, 1) := by decide +kernel
theorem dX12_codes_3 : decode cX12_codes 3 = .ok (.istore_n 2, 1) := by decide +kernel
theorem dX12_codes_4 : decode cX12_codes 4 = .ok (.iload_n 2, 1) := by decide +kernel
theorem dX12_codes_5 : decode cX12_codes 5 = .ok (.aload_n 0, 1) := by decide +kernel
theorem dX12_codes_6 : decode cX12_codes 6 = .ok (.getfield 7, 3) := by decide +kernel
theorem dX12_codes_9 : decode cX12_codes 9 = .ok (.bipush 11, 2) := by decide +kernel
theorem dX12_codes_11 : decode cX12_codes 11 = .ok (.iaload, 1) := by decide +kernel
theorem dX12_codes_12 : decode cX12_codes 12 = .ok (.if_icmp .ge 14, 3) := by decide +kernel
theorem dX12_codes_15 : decode cX12_codes 15 = .ok (.iload_n 1, 1) := by decide +kernel
theorem dX12_codes_16 : decode cX12_codes 16 = .ok (.bipush 7, 2) := by decide +kernel
theorem dX12_codes_18 : decode cX12_codes 18 = .ok (.imul, 1) := by decide +kernel
theorem dX12_codes_19 : decode cX12_codes 19 = .ok (.istore_n 1, 1) := by decide +kernel
theorem dX12_codes_20 : decode cX12_codes 20 = .ok (.iinc 2 1, 3) := by decide +kernel
theorem dX12_codes_23 : decode cX12_codes 23 = .ok (.goto (-19), 3) := by decide +kernel
theorem dX12_codes_26 : decode cX12_codes 26 = .ok (.iload_n 1, 1) := by decide +kernel
theorem dX12_codes_27 : decode cX12_codes 27 = .ok (.ireturn, 1) := by decide +kernel
theorem dX12_isWhole_0 : decode cX12_isWhole 0 = .ok (.iconst 0, 1) := by decide +kernel
theorem dX12_isWhole_1 : decode cX12_isWhole 1 = .ok (.istore_n 1, 1) := by decide +kernel
theorem dX12_isWhole_2 : decode cX12_isWhole 2 = .ok (.iconst 0, 1) := by decide +kernel
theorem dX12_isWhole_3 : decode cX12_isWhole 3 = .ok (.istore_n 2, 1) := by decide +kernel
theorem dX12_isWhole_4 : decode cX12_isWhole 4 = .ok (.iload_n 2, 1) := by decide +kernel
theorem dX12_isWhole_5 : decode cX12_isWhole 5 = .ok (.aload_n 0, 1) := by decide +kernel
theorem dX12_isWhole_6 : decode cX12_isWhole 6 = .ok (.getfield 7, 3) := by decide +kernel
theorem dX12_isWhole_9 : decode cX12_isWhole 9 = .ok (.bipush 11, 2) := by decide +kernel
theorem dX12_isWhole_11 : decode cX12_isWhole 11 = .ok (.iaload, 1) := by decide +kernel
theorem dX12_isWhole_12 : decode cX12_isWhole 12 = .ok (.if_icmp .ge 49, 3) := by decide +kernel
theorem dX12_isWhole_15 : decode cX12_isWhole 15 = .ok (.aload_n 0, 1) := by decide +kernel
theorem dX12_isWhole_16 : decode cX12_isWhole 16 = .ok (.getfield 7, 3) := by decide +kernel
theorem dX12_isWhole_19 : decode cX12_isWhole 19 = .ok (.bipush 93, 2) := by decide +kernel
theorem dX12_isWhole_21 : decode cX12_isWhole 21 = .ok (.iload_n 2, 1) := by decide +kernel
theorem dX12_isWhole_22 : decode cX12_isWhole 22 = .ok (.iadd, 1) := by decide +kernel
theorem dX12_isWhole_23 : decode cX12_isWhole 23 = .ok (.iaload, 1) := by decide +kernel
theorem dX12_isWhole_24 : decode cX12_isWhole 24 = .ok (.istore_n 3, 1) := by decide +kernel
theorem dX12_isWhole_25 : decode cX12_isWhole 25 = .ok (.iload_n 3, 1) := by decide +kernel
theorem dX12_isWhole_26 : decode cX12_isWhole 26 = .ok (.ifCond .lt 21, 3) := by decide +kernel
theorem dX12_isWhole_29 : decode cX12_isWhole 29 = .ok (.iload_n 3, 1) := by decide +kernel
theorem dX12_isWhole_30 : decode cX12_isWhole 30 = .ok (.aload_n 0, 1) := by decide +kernel
theorem dX12_isWhole_31 : decode cX12_isWhole 31 = .ok (.getfield 7, 3) := by decide +kernel
theorem dX12_isWhole_34 : decode cX12_isWhole 34 = .ok (.iconst 5, 1) := by decide +kernel
theorem dX12_isWhole_35 : decode cX12_isWhole 35 = .ok (.iaload, 1) := by decide +kernel
theorem dX12_isWhole_36 : decode cX12_isWhole 36 = .ok (.if_icmp .ge 11, 3) := by decide +kernel
theorem dX12_isWhole_39 : decode cX12_isWhole 39 = .ok (.iload_n 1, 1) := by decide +kernel
theorem dX12_isWhole_40 : decode cX12_isWhole 40 = .ok (.iload_n 3, 1) := by decide +kernel
theorem dX12_isWhole_41 : decode cX12_isWhole 41 = .ok (.invokestatic 255, 3) := by decide +kernel
theorem dX12_isWhole_44 : decode cX12_isWhole 44 = .ok (.ifCond .eq 5, 3) := by decide +kernel
theorem dX12_isWhole_47 : decode cX12_isWhole 47 = .ok (.iconst 0, 1) := by decide +kernel
theorem dX12_isWhole_48 : decode cX12_isWhole 48 = .ok (.ireturn, 1) := by decide +kernel
theorem dX12_isWhole_49 : decode cX12_isWhole 49 = .ok (.iload_n 1, 1) := by decide +kernel
theorem dX12_isWhole_50 : decode cX12_isWhole 50 = .ok (.iconst 1, 1) := by decide +kernel
theorem dX12_isWhole_51 : decode cX12_isWhole 51 = .ok (.iload_n 3, 1) := by decide +kernel
theorem dX12_isWhole_52 : decode cX12_isWhole 52 = .ok (.ishl, 1) := by decide +kernel
theorem dX12_isWhole_53 : decode cX12_isWhole 53 = .ok (.ior, 1) := by decide +kernel
theorem dX12_isWhole_54 : decode cX12_isWhole 54 = .ok (.istore_n 1, 1) := by decide +kernel
theorem dX12_isWhole_55 : decode cX12_isWhole 55 = .ok (.iinc 2 1, 3) := by decide +kernel
theorem dX12_isWhole_58 : decode cX12_isWhole 58 = .ok (.goto (-54), 3) := by decide +kernel
theorem dX12_isWhole_61 : decode cX12_isWhole 61 = .ok (.iconst 1, 1) := by decide +kernel
theorem dX12_isWhole_62 : decode cX12_isWhole 62 = .ok (.ireturn, 1) := by decide +kernel
theorem dX12_keepsLaid_0 : decode cX12_keepsLaid 0 = .ok (.iconst 0, 1) := by decide +kernel
theorem dX12_keepsLaid_1 : decode cX12_keepsLaid 1 = .ok (.istore_n 1, 1) := by decide +kernel
theorem dX12_keepsLaid_2 : decode cX12_keepsLaid 2 = .ok (.iload_n 1, 1) := by decide +kernel
theorem dX12_keepsLaid_3 : decode cX12_keepsLaid 3 = .ok (.iconst 5, 1) := by decide +kernel
theorem dX12_keepsLaid_4 : decode cX12_keepsLaid 4 = .ok (.if_icmp .ge 24, 3) := by decide +kernel
theorem dX12_keepsLaid_7 : decode cX12_keepsLaid 7 = .ok (.aload_n 0, 1) := by decide +kernel
theorem dX12_keepsLaid_8 : decode cX12_keepsLaid 8 = .ok (.getfield 36, 3) := by decide +kernel
theorem dX12_keepsLaid_11 : decode cX12_keepsLaid 11 = .ok (.iload_n 1, 1) := by decide +kernel
theorem dX12_keepsLaid_12 : decode cX12_keepsLaid 12 = .ok (.aload_n 0, 1) := by decide +kernel
theorem dX12_keepsLaid_13 : decode cX12_keepsLaid 13 = .ok (.getfield 7, 3) := by decide +kernel
theorem dX12_keepsLaid_16 : decode cX12_keepsLaid 16 = .ok (.bipush 93, 2) := by decide +kernel
theorem dX12_keepsLaid_18 : decode cX12_keepsLaid 18 = .ok (.iload_n 1, 1) := by decide +kernel
theorem dX12_keepsLaid_19 : decode cX12_keepsLaid 19 = .ok (.iadd, 1) := by decide +kernel
theorem dX12_keepsLaid_20 : decode cX12_keepsLaid 20 = .ok (.iaload, 1) := by decide +kernel
theorem dX12_keepsLaid_21 : decode cX12_keepsLaid 21 = .ok (.iastore, 1) := by decide +kernel
theorem dX12_keepsLaid_22 : decode cX12_keepsLaid 22 = .ok (.iinc 1 1, 3) := by decide +kernel
theorem dX12_keepsLaid_25 : decode cX12_keepsLaid 25 = .ok (.goto (-23), 3) := by decide +kernel
theorem dX12_keepsLaid_28 : decode cX12_keepsLaid 28 = .ok (.aload_n 0, 1) := by decide +kernel
theorem dX12_keepsLaid_29 : decode cX12_keepsLaid 29 = .ok (.getfield 36, 3) := by decide +kernel
theorem dX12_keepsLaid_32 : decode cX12_keepsLaid 32 = .ok (.iconst 5, 1) := by decide +kernel
theorem dX12_keepsLaid_33 : decode cX12_keepsLaid 33 = .ok (.aload_n 0, 1) := by decide +kernel
theorem dX12_keepsLaid_34 : decode cX12_keepsLaid 34 = .ok (.getfield 7, 3) := by decide +kernel
theorem dX12_keepsLaid_37 : decode cX12_keepsLaid 37 = .ok (.bipush 51, 2) := by decide +kernel
theorem dX12_keepsLaid_39 : decode cX12_keepsLaid 39 = .ok (.iaload, 1) := by decide +kernel
theorem dX12_keepsLaid_40 : decode cX12_keepsLaid 40 = .ok (.iastore, 1) := by decide +kernel
theorem dX12_keepsLaid_41 : decode cX12_keepsLaid 41 = .ok (.aload_n 0, 1) := by decide +kernel
theorem dX12_keepsLaid_42 : decode cX12_keepsLaid 42 = .ok (.getfield 36, 3) := by decide +kernel
theorem dX12_keepsLaid_45 : decode cX12_keepsLaid 45 = .ok (.bipush 6, 2) := by decide +kernel
theorem dX12_keepsLaid_47 : decode cX12_keepsLaid 47 = .ok (.aload_n 0, 1) := by decide +kernel
theorem dX12_keepsLaid_48 : decode cX12_keepsLaid 48 = .ok (.getfield 7, 3) := by decide +kernel
theorem dX12_keepsLaid_51 : decode cX12_keepsLaid 51 = .ok (.bipush 52, 2) := by decide +kernel
theorem dX12_keepsLaid_53 : decode cX12_keepsLaid 53 = .ok (.iaload, 1) := by decide +kernel
theorem dX12_keepsLaid_54 : decode cX12_keepsLaid 54 = .ok (.iastore, 1) := by decide +kernel
theorem dX12_keepsLaid_55 : decode cX12_keepsLaid 55 = .ok (.return_, 1) := by decide +kernel
theorem dX12_laysBack_0 : decode cX12_laysBack 0 = .ok (.iconst 0, 1) := by decide +kernel
theorem dX12_laysBack_1 : decode cX12_laysBack 1 = .ok (.istore_n 1, 1) := by decide +kernel
theorem dX12_laysBack_2 : decode cX12_laysBack 2 = .ok (.iload_n 1, 1) := by decide +kernel
theorem dX12_laysBack_3 : decode cX12_laysBack 3 = .ok (.iconst 5, 1) := by decide +kernel
theorem dX12_laysBack_4 : decode cX12_laysBack 4 = .ok (.if_icmp .ge 24, 3) := by decide +kernel
theorem dX12_laysBack_7 : decode cX12_laysBack 7 = .ok (.aload_n 0, 1) := by decide +kernel
theorem dX12_laysBack_8 : decode cX12_laysBack 8 = .ok (.getfield 7, 3) := by decide +kernel
theorem dX12_laysBack_11 : decode cX12_laysBack 11 = .ok (.bipush 93, 2) := by decide +kernel
theorem dX12_laysBack_13 : decode cX12_laysBack 13 = .ok (.iload_n 1, 1) := by decide +kernel
theorem dX12_laysBack_14 : decode cX12_laysBack 14 = .ok (.iadd, 1) := by decide +kernel
theorem dX12_laysBack_15 : decode cX12_laysBack 15 = .ok (.aload_n 0, 1) := by decide +kernel
theorem dX12_laysBack_16 : decode cX12_laysBack 16 = .ok (.getfield 36, 3) := by decide +kernel
theorem dX12_laysBack_19 : decode cX12_laysBack 19 = .ok (.iload_n 1, 1) := by decide +kernel
theorem dX12_laysBack_20 : decode cX12_laysBack 20 = .ok (.iaload, 1) := by decide +kernel
theorem dX12_laysBack_21 : decode cX12_laysBack 21 = .ok (.iastore, 1) := by decide +kernel
theorem dX12_laysBack_22 : decode cX12_laysBack 22 = .ok (.iinc 1 1, 3) := by decide +kernel
theorem dX12_laysBack_25 : decode cX12_laysBack 25 = .ok (.goto (-23), 3) := by decide +kernel
theorem dX12_laysBack_28 : decode cX12_laysBack 28 = .ok (.aload_n 0, 1) := by decide +kernel
theorem dX12_laysBack_29 : decode cX12_laysBack 29 = .ok (.getfield 7, 3) := by decide +kernel
theorem dX12_laysBack_32 : decode cX12_laysBack 32 = .ok (.bipush 51, 2) := by decide +kernel
theorem dX12_laysBack_34 : decode cX12_laysBack 34 = .ok (.aload_n 0, 1) := by decide +kernel
theorem dX12_laysBack_35 : decode cX12_laysBack 35 = .ok (.getfield 36, 3) := by decide +kernel
theorem dX12_laysBack_38 : decode cX12_laysBack 38 = .ok (.iconst 5, 1) := by decide +kernel
theorem dX12_laysBack_39 : decode cX12_laysBack 39 = .ok (.iaload, 1) := by decide +kernel
theorem dX12_laysBack_40 : decode cX12_laysBack 40 = .ok (.iastore, 1) := by decide +kernel
theorem dX12_laysBack_41 : decode cX12_laysBack 41 = .ok (.aload_n 0, 1) := by decide +kernel
theorem dX12_laysBack_42 : decode cX12_laysBack 42 = .ok (.getfield 7, 3) := by decide +kernel
theorem dX12_laysBack_45 : decode cX12_laysBack 45 = .ok (.bipush 52, 2) := by decide +kernel
theorem dX12_laysBack_47 : decode cX12_laysBack 47 = .ok (.aload_n 0, 1) := by decide +kernel
theorem dX12_laysBack_48 : decode cX12_laysBack 48 = .ok (.getfield 36, 3) := by decide +kernel
theorem dX12_laysBack_51 : decode cX12_laysBack 51 = .ok (.bipush 6, 2) := by decide +kernel
theorem dX12_laysBack_53 : decode cX12_laysBack 53 = .ok (.iaload, 1) := by decide +kernel
theorem dX12_laysBack_54 : decode cX12_laysBack 54 = .ok (.iastore, 1) := by decide +kernel
theorem dX12_laysBack_55 : decode cX12_laysBack 55 = .ok (.return_, 1) := by decide +kernel
theorem dX12_pours_0 : decode cX12_pours 0 = .ok (.aload_n 0, 1) := by decide +kernel
theorem dX12_pours_1 : decode cX12_pours 1 = .ok (.getfield 7, 3) := by decide +kernel
theorem dX12_pours_4 : decode cX12_pours 4 = .ok (.bipush 51, 2) := by decide +kernel
theorem dX12_pours_6 : decode cX12_pours 6 = .ok (.iload_n 1, 1) := by decide +kernel
theorem dX12_pours_7 : decode cX12_pours 7 = .ok (.iastore, 1) := by decide +kernel
theorem dX12_pours_8 : decode cX12_pours 8 = .ok (.aload_n 0, 1) := by decide +kernel
theorem dX12_pours_9 : decode cX12_pours 9 = .ok (.getfield 7, 3) := by decide +kernel
theorem dX12_pours_12 : decode cX12_pours 12 = .ok (.bipush 52, 2) := by decide +kernel
theorem dX12_pours_14 : decode cX12_pours 14 = .ok (.aload_n 0, 1) := by decide +kernel
theorem dX12_pours_15 : decode cX12_pours 15 = .ok (.getfield 7, 3) := by decide +kernel
theorem dX12_pours_18 : decode cX12_pours 18 = .ok (.bipush 12, 2) := by decide +kernel
theorem dX12_pours_20 : decode cX12_pours 20 = .ok (.iaload, 1) := by decide +kernel
theorem dX12_pours_21 : decode cX12_pours 21 = .ok (.iload_n 1, 1) := by decide +kernel
theorem dX12_pours_22 : decode cX12_pours 22 = .ok (.isub, 1) := by decide +kernel
theorem dX12_pours_23 : decode cX12_pours 23 = .ok (.iastore, 1) := by decide +kernel
theorem dX12_pours_24 : decode cX12_pours 24 = .ok (.aload_n 0, 1) := by decide +kernel
theorem dX12_pours_25 : decode cX12_pours 25 = .ok (.getfield 7, 3) := by decide +kernel
theorem dX12_pours_28 : decode cX12_pours 28 = .ok (.bipush 51, 2) := by decide +kernel
theorem dX12_pours_30 : decode cX12_pours 30 = .ok (.iaload, 1) := by decide +kernel
theorem dX12_pours_31 : decode cX12_pours 31 = .ok (.aload_n 0, 1) := by decide +kernel
theorem dX12_pours_32 : decode cX12_pours 32 = .ok (.getfield 7, 3) := by decide +kernel
theorem dX12_pours_35 : decode cX12_pours 35 = .ok (.bipush 7, 2) := by decide +kernel
theorem dX12_pours_37 : decode cX12_pours 37 = .ok (.iaload, 1) := by decide +kernel
theorem dX12_pours_38 : decode cX12_pours 38 = .ok (.ifCond .le 13, 3) := by decide +kernel
theorem dX12_pours_41 : decode cX12_pours 41 = .ok (.aload_n 0, 1) := by decide +kernel
theorem dX12_pours_42 : decode cX12_pours 42 = .ok (.getfield 7, 3) := by decide +kernel
theorem dX12_pours_45 : decode cX12_pours 45 = .ok (.bipush 49, 2) := by decide +kernel
theorem dX12_pours_47 : decode cX12_pours 47 = .ok (.iaload, 1) := by decide +kernel
theorem dX12_pours_48 : decode cX12_pours 48 = .ok (.goto 4, 3) := by decide +kernel
theorem dX12_pours_51 : decode cX12_pours 51 = .ok (.iconst 0, 1) := by decide +kernel
theorem dX12_pours_52 : decode cX12_pours 52 = .ok (.if_icmp .gt 43, 3) := by decide +kernel
theorem dX12_pours_55 : decode cX12_pours 55 = .ok (.aload_n 0, 1) := by decide +kernel
theorem dX12_pours_56 : decode cX12_pours 56 = .ok (.getfield 7, 3) := by decide +kernel
theorem dX12_pours_59 : decode cX12_pours 59 = .ok (.bipush 52, 2) := by decide +kernel
theorem dX12_pours_61 : decode cX12_pours 61 = .ok (.iaload, 1) := by decide +kernel
theorem dX12_pours_62 : decode cX12_pours 62 = .ok (.iconst 0, 1) := by decide +kernel
theorem dX12_pours_63 : decode cX12_pours 63 = .ok (.aload_n 0, 1) := by decide +kernel
theorem dX12_pours_64 : decode cX12_pours 64 = .ok (.getfield 7, 3) := by decide +kernel
theorem dX12_pours_67 : decode cX12_pours 67 = .ok (.bipush 7, 2) := by decide +kernel
theorem dX12_pours_69 : decode cX12_pours 69 = .ok (.iaload, 1) := by decide +kernel
theorem dX12_pours_70 : decode cX12_pours 70 = .ok (.iconst 1, 1) := by decide +kernel
theorem dX12_pours_71 : decode cX12_pours 71 = .ok (.if_icmp .le 13, 3) := by decide +kernel
theorem dX12_pours_74 : decode cX12_pours 74 = .ok (.aload_n 0, 1) := by decide +kernel
theorem dX12_pours_75 : decode cX12_pours 75 = .ok (.getfield 7, 3) := by decide +kernel
theorem dX12_pours_78 : decode cX12_pours 78 = .ok (.bipush 50, 2) := by decide +kernel
theorem dX12_pours_80 : decode cX12_pours 80 = .ok (.iaload, 1) := by decide +kernel
theorem dX12_pours_81 : decode cX12_pours 81 = .ok (.goto 4, 3) := by decide +kernel
theorem dX12_pours_84 : decode cX12_pours 84 = .ok (.iconst 0, 1) := by decide +kernel
theorem dX12_pours_85 : decode cX12_pours 85 = .ok (.invokestatic 73, 3) := by decide +kernel
theorem dX12_pours_88 : decode cX12_pours 88 = .ok (.ifCond .eq 7, 3) := by decide +kernel
theorem dX12_pours_91 : decode cX12_pours 91 = .ok (.iconst 1, 1) := by decide +kernel
theorem dX12_pours_92 : decode cX12_pours 92 = .ok (.goto 4, 3) := by decide +kernel
theorem dX12_pours_95 : decode cX12_pours 95 = .ok (.iconst 0, 1) := by decide +kernel
theorem dX12_pours_96 : decode cX12_pours 96 = .ok (.ireturn, 1) := by decide +kernel
theorem dX12_laysGood_0 : decode cX12_laysGood 0 = .ok (.aload_n 0, 1) := by decide +kernel
theorem dX12_laysGood_1 : decode cX12_laysGood 1 = .ok (.invokevirtual 280, 3) := by decide +kernel
theorem dX12_laysGood_4 : decode cX12_laysGood 4 = .ok (.aload_n 0, 1) := by decide +kernel
theorem dX12_laysGood_5 : decode cX12_laysGood 5 = .ok (.iconst 0, 1) := by decide +kernel
theorem dX12_laysGood_6 : decode cX12_laysGood 6 = .ok (.putfield 283, 3) := by decide +kernel
theorem dX12_laysGood_9 : decode cX12_laysGood 9 = .ok (.iconst 0, 1) := by decide +kernel
theorem dX12_laysGood_10 : decode cX12_laysGood 10 = .ok (.istore_n 1, 1) := by decide +kernel
theorem dX12_laysGood_11 : decode cX12_laysGood 11 = .ok (.iload_n 1, 1) := by decide +kernel
theorem dX12_laysGood_12 : decode cX12_laysGood 12 = .ok (.aload_n 0, 1) := by decide +kernel
theorem dX12_laysGood_13 : decode cX12_laysGood 13 = .ok (.invokevirtual 286, 3) := by decide +kernel
theorem dX12_laysGood_16 : decode cX12_laysGood 16 = .ok (.if_icmp .ge 113, 3) := by decide +kernel
theorem dX12_laysGood_19 : decode cX12_laysGood 19 = .ok (.aload_n 0, 1) := by decide +kernel
theorem dX12_laysGood_20 : decode cX12_laysGood 20 = .ok (.iload_n 1, 1) := by decide +kernel
theorem dX12_laysGood_21 : decode cX12_laysGood 21 = .ok (.invokevirtual 289, 3) := by decide +kernel
theorem dX12_laysGood_24 : decode cX12_laysGood 24 = .ok (.aload_n 0, 1) := by decide +kernel
theorem dX12_laysGood_25 : decode cX12_laysGood 25 = .ok (.invokevirtual 292, 3) := by decide +kernel
theorem dX12_laysGood_28 : decode cX12_laysGood 28 = .ok (.ifCond .ne 6, 3) := by decide +kernel
theorem dX12_laysGood_31 : decode cX12_laysGood 31 = .ok (.goto 92, 3) := by decide +kernel
theorem dX12_laysGood_34 : decode cX12_laysGood 34 = .ok (.iconst 1, 1) := by decide +kernel
theorem dX12_laysGood_35 : decode cX12_laysGood 35 = .ok (.istore_n 2, 1) := by decide +kernel
theorem dX12_laysGood_36 : decode cX12_laysGood 36 = .ok (.iconst 0, 1) := by decide +kernel
theorem dX12_laysGood_37 : decode cX12_laysGood 37 = .ok (.istore_n 3, 1) := by decide +kernel
theorem dX12_laysGood_38 : decode cX12_laysGood 38 = .ok (.iload_n 3, 1) := by decide +kernel
theorem dX12_laysGood_39 : decode cX12_laysGood 39 = .ok (.bipush 100, 2) := by decide +kernel
theorem dX12_laysGood_41 : decode cX12_laysGood 41 = .ok (.if_icmp .ge 82, 3) := by decide +kernel
theorem dX12_laysGood_44 : decode cX12_laysGood 44 = .ok (.iload_n 2, 1) := by decide +kernel
theorem dX12_laysGood_45 : decode cX12_laysGood 45 = .ok (.ifCond .eq 78, 3) := by decide +kernel
theorem dX12_laysGood_48 : decode cX12_laysGood 48 = .ok (.aload_n 0, 1) := by decide +kernel
theorem dX12_laysGood_49 : decode cX12_laysGood 49 = .ok (.iload_n 3, 1) := by decide +kernel
theorem dX12_laysGood_50 : decode cX12_laysGood 50 = .ok (.invokevirtual 295, 3) := by decide +kernel
theorem dX12_laysGood_53 : decode cX12_laysGood 53 = .ok (.ifCond .ne 6, 3) := by decide +kernel
theorem dX12_laysGood_56 : decode cX12_laysGood 56 = .ok (.goto 61, 3) := by decide +kernel
theorem dX12_laysGood_59 : decode cX12_laysGood 59 = .ok (.aload_n 0, 1) := by decide +kernel
theorem dX12_laysGood_60 : decode cX12_laysGood 60 = .ok (.invokevirtual 273, 3) := by decide +kernel
theorem dX12_laysGood_63 : decode cX12_laysGood 63 = .ok (.istore 4, 2) := by decide +kernel
theorem dX12_laysGood_65 : decode cX12_laysGood 65 = .ok (.iload 4, 2) := by decide +kernel
theorem dX12_laysGood_67 : decode cX12_laysGood 67 = .ok (.ifCond .eq 10, 3) := by decide +kernel
theorem dX12_laysGood_70 : decode cX12_laysGood 70 = .ok (.iload 4, 2) := by decide +kernel
theorem dX12_laysGood_72 : decode cX12_laysGood 72 = .ok (.bipush 7, 2) := by decide +kernel
theorem dX12_laysGood_74 : decode cX12_laysGood 74 = .ok (.if_icmp .ne 7, 3) := by decide +kernel
theorem dX12_laysGood_77 : decode cX12_laysGood 77 = .ok (.iconst 1, 1) := by decide +kernel
theorem dX12_laysGood_78 : decode cX12_laysGood 78 = .ok (.goto 4, 3) := by decide +kernel
theorem dX12_laysGood_81 : decode cX12_laysGood 81 = .ok (.iconst 0, 1) := by decide +kernel
theorem dX12_laysGood_82 : decode cX12_laysGood 82 = .ok (.istore_n 2, 1) := by decide +kernel
theorem dX12_laysGood_83 : decode cX12_laysGood 83 = .ok (.iload 4, 2) := by decide +kernel
theorem dX12_laysGood_85 : decode cX12_laysGood 85 = .ok (.ifCond .le 6, 3) := by decide +kernel
theorem dX12_laysGood_88 : decode cX12_laysGood 88 = .ok (.goto 29, 3) := by decide +kernel
theorem dX12_laysGood_91 : decode cX12_laysGood 91 = .ok (.aload_n 0, 1) := by decide +kernel
theorem dX12_laysGood_92 : decode cX12_laysGood 92 = .ok (.getfield 40, 3) := by decide +kernel
theorem dX12_laysGood_95 : decode cX12_laysGood 95 = .ok (.aload_n 0, 1) := by decide +kernel
theorem dX12_laysGood_96 : decode cX12_laysGood 96 = .ok (.getfield 283, 3) := by decide +kernel
theorem dX12_laysGood_99 : decode cX12_laysGood 99 = .ok (.sipush 200, 3) := by decide +kernel
theorem dX12_laysGood_102 : decode cX12_laysGood 102 = .ok (.iload_n 1, 1) := by decide +kernel
theorem dX12_laysGood_103 : decode cX12_laysGood 103 = .ok (.imul, 1) := by decide +kernel
theorem dX12_laysGood_104 : decode cX12_laysGood 104 = .ok (.iload_n 3, 1) := by decide +kernel
theorem dX12_laysGood_105 : decode cX12_laysGood 105 = .ok (.iadd, 1) := by decide +kernel
theorem dX12_laysGood_106 : decode cX12_laysGood 106 = .ok (.iastore, 1) := by decide +kernel
theorem dX12_laysGood_107 : decode cX12_laysGood 107 = .ok (.aload_n 0, 1) := by decide +kernel
theorem dX12_laysGood_108 : decode cX12_laysGood 108 = .ok (.dup, 1) := by decide +kernel
theorem dX12_laysGood_109 : decode cX12_laysGood 109 = .ok (.getfield 283, 3) := by decide +kernel
theorem dX12_laysGood_112 : decode cX12_laysGood 112 = .ok (.iconst 1, 1) := by decide +kernel
theorem dX12_laysGood_113 : decode cX12_laysGood 113 = .ok (.iadd, 1) := by decide +kernel
theorem dX12_laysGood_114 : decode cX12_laysGood 114 = .ok (.putfield 283, 3) := by decide +kernel
theorem dX12_laysGood_117 : decode cX12_laysGood 117 = .ok (.iinc 3 1, 3) := by decide +kernel
theorem dX12_laysGood_120 : decode cX12_laysGood 120 = .ok (.goto (-82), 3) := by decide +kernel
theorem dX12_laysGood_123 : decode cX12_laysGood 123 = .ok (.iinc 1 1, 3) := by decide +kernel
theorem dX12_laysGood_126 : decode cX12_laysGood 126 = .ok (.goto (-115), 3) := by decide +kernel
theorem dX12_laysGood_129 : decode cX12_laysGood 129 = .ok (.aload_n 0, 1) := by decide +kernel
theorem dX12_laysGood_130 : decode cX12_laysGood 130 = .ok (.invokevirtual 298, 3) := by decide +kernel
theorem dX12_laysGood_133 : decode cX12_laysGood 133 = .ok (.return_, 1) := by decide +kernel
theorem dX12_isGood_0 : decode cX12_isGood 0 = .ok (.aload_n 0, 1) := by decide +kernel
theorem dX12_isGood_1 : decode cX12_isGood 1 = .ok (.invokevirtual 301, 3) := by decide +kernel
theorem dX12_isGood_4 : decode cX12_isGood 4 = .ok (.iload_n 1, 1) := by decide +kernel
theorem dX12_isGood_5 : decode cX12_isGood 5 = .ok (.iconst 0, 1) := by decide +kernel
theorem dX12_isGood_6 : decode cX12_isGood 6 = .ok (.aload_n 0, 1) := by decide +kernel
theorem dX12_isGood_7 : decode cX12_isGood 7 = .ok (.getfield 283, 3) := by decide +kernel
theorem dX12_isGood_10 : decode cX12_isGood 10 = .ok (.iconst 1, 1) := by decide +kernel
theorem dX12_isGood_11 : decode cX12_isGood 11 = .ok (.isub, 1) := by decide +kernel
theorem dX12_isGood_12 : decode cX12_isGood 12 = .ok (.invokestatic 73, 3) := by decide +kernel
theorem dX12_isGood_15 : decode cX12_isGood 15 = .ok (.ireturn, 1) := by decide +kernel
theorem dX12_loadings_0 : decode cX12_loadings 0 = .ok (.aload_n 0, 1) := by decide +kernel
theorem dX12_loadings_1 : decode cX12_loadings 1 = .ok (.invokevirtual 301, 3) := by decide +kernel
theorem dX12_loadings_4 : decode cX12_loadings 4 = .ok (.aload_n 0, 1) := by decide +kernel
theorem dX12_loadings_5 : decode cX12_loadings 5 = .ok (.getfield 283, 3) := by decide +kernel
theorem dX12_loadings_8 : decode cX12_loadings 8 = .ok (.ireturn, 1) := by decide +kernel
theorem dX12_spotBy_0 : decode cX12_spotBy 0 = .ok (.iload_n 1, 1) := by decide +kernel
theorem dX12_spotBy_1 : decode cX12_spotBy 1 = .ok (.istore_n 3, 1) := by decide +kernel
theorem dX12_spotBy_2 : decode cX12_spotBy 2 = .ok (.aload_n 0, 1) := by decide +kernel
theorem dX12_spotBy_3 : decode cX12_spotBy 3 = .ok (.getfield 7, 3) := by decide +kernel
theorem dX12_spotBy_6 : decode cX12_spotBy 6 = .ok (.bipush 11, 2) := by decide +kernel
theorem dX12_spotBy_8 : decode cX12_spotBy 8 = .ok (.iaload, 1) := by decide +kernel
theorem dX12_spotBy_9 : decode cX12_spotBy 9 = .ok (.iconst 1, 1) := by decide +kernel
theorem dX12_spotBy_10 : decode cX12_spotBy 10 = .ok (.isub, 1) := by decide +kernel
theorem dX12_spotBy_11 : decode cX12_spotBy 11 = .ok (.istore 4, 2) := by decide +kernel
theorem dX12_spotBy_13 : decode cX12_spotBy 13 = .ok (.iload 4, 2) := by decide +kernel
theorem dX12_spotBy_15 : decode cX12_spotBy 15 = .ok (.iload_n 2, 1) := by decide +kernel
theorem dX12_spotBy_16 : decode cX12_spotBy 16 = .ok (.if_icmp .le 14, 3) := by decide +kernel
theorem dX12_spotBy_19 : decode cX12_spotBy 19 = .ok (.iload_n 3, 1) := by decide +kernel
theorem dX12_spotBy_20 : decode cX12_spotBy 20 = .ok (.bipush 7, 2) := by decide +kernel
theorem dX12_spotBy_22 : decode cX12_spotBy 22 = .ok (.idiv, 1) := by decide +kernel
theorem dX12_spotBy_23 : decode cX12_spotBy 23 = .ok (.istore_n 3, 1) := by decide +kernel
theorem dX12_spotBy_24 : decode cX12_spotBy 24 = .ok (.iinc 4 (-1), 3) := by decide +kernel
theorem dX12_spotBy_27 : decode cX12_spotBy 27 = .ok (.goto (-14), 3) := by decide +kernel
theorem dX12_spotBy_30 : decode cX12_spotBy 30 = .ok (.iload_n 3, 1) := by decide +kernel
theorem dX12_spotBy_31 : decode cX12_spotBy 31 = .ok (.bipush 7, 2) := by decide +kernel
theorem dX12_spotBy_33 : decode cX12_spotBy 33 = .ok (.irem, 1) := by decide +kernel
theorem dX12_spotBy_34 : decode cX12_spotBy 34 = .ok (.iconst 1, 1) := by decide +kernel
theorem dX12_spotBy_35 : decode cX12_spotBy 35 = .ok (.isub, 1) := by decide +kernel
theorem dX12_spotBy_36 : decode cX12_spotBy 36 = .ok (.ireturn, 1) := by decide +kernel
theorem dX12_loading_0 : decode cX12_loading 0 = .ok (.aload_n 0, 1) := by decide +kernel
theorem dX12_loading_1 : decode cX12_loading 1 = .ok (.iload_n 2, 1) := by decide +kernel
theorem dX12_loading_2 : decode cX12_loading 2 = .ok (.invokevirtual 216, 3) := by decide +kernel
theorem dX12_loading_5 : decode cX12_loading 5 = .ok (.ifCond .eq 29, 3) := by decide +kernel
theorem dX12_loading_8 : decode cX12_loading 8 = .ok (.aload_n 0, 1) := by decide +kernel
theorem dX12_loading_9 : decode cX12_loading 9 = .ok (.iload_n 1, 1) := by decide +kernel
theorem dX12_loading_10 : decode cX12_loading 10 = .ok (.invokevirtual 304, 3) := by decide +kernel
theorem dX12_loading_13 : decode cX12_loading 13 = .ok (.ifCond .eq 21, 3) := by decide +kernel
theorem dX12_loading_16 : decode cX12_loading 16 = .ok (.aload_n 0, 1) := by decide +kernel
theorem dX12_loading_17 : decode cX12_loading 17 = .ok (.aload_n 0, 1) := by decide +kernel
theorem dX12_loading_18 : decode cX12_loading 18 = .ok (.getfield 40, 3) := by decide +kernel
theorem dX12_loading_21 : decode cX12_loading 21 = .ok (.iload_n 1, 1) := by decide +kernel
theorem dX12_loading_22 : decode cX12_loading 22 = .ok (.iaload, 1) := by decide +kernel
theorem dX12_loading_23 : decode cX12_loading 23 = .ok (.sipush 200, 3) := by decide +kernel
theorem dX12_loading_26 : decode cX12_loading 26 = .ok (.idiv, 1) := by decide +kernel
theorem dX12_loading_27 : decode cX12_loading 27 = .ok (.iload_n 2, 1) := by decide +kernel
theorem dX12_loading_28 : decode cX12_loading 28 = .ok (.invokevirtual 307, 3) := by decide +kernel
theorem dX12_loading_31 : decode cX12_loading 31 = .ok (.goto 4, 3) := by decide +kernel
theorem dX12_loading_34 : decode cX12_loading 34 = .ok (.iconst (-1), 1) := by decide +kernel
theorem dX12_loading_35 : decode cX12_loading 35 = .ok (.ireturn, 1) := by decide +kernel
theorem dX12_poured_0 : decode cX12_poured 0 = .ok (.iload_n 2, 1) := by decide +kernel
theorem dX12_poured_1 : decode cX12_poured 1 = .ok (.iconst 0, 1) := by decide +kernel
theorem dX12_poured_2 : decode cX12_poured 2 = .ok (.aload_n 0, 1) := by decide +kernel
theorem dX12_poured_3 : decode cX12_poured 3 = .ok (.getfield 7, 3) := by decide +kernel
theorem dX12_poured_6 : decode cX12_poured 6 = .ok (.bipush 7, 2) := by decide +kernel
theorem dX12_poured_8 : decode cX12_poured 8 = .ok (.iaload, 1) := by decide +kernel
theorem dX12_poured_9 : decode cX12_poured 9 = .ok (.iconst 1, 1) := by decide +kernel
theorem dX12_poured_10 : decode cX12_poured 10 = .ok (.isub, 1) := by decide +kernel
theorem dX12_poured_11 : decode cX12_poured 11 = .ok (.invokestatic 73, 3) := by decide +kernel
theorem dX12_poured_14 : decode cX12_poured 14 = .ok (.ifCond .eq 49, 3) := by decide +kernel
theorem dX12_poured_17 : decode cX12_poured 17 = .ok (.aload_n 0, 1) := by decide +kernel
theorem dX12_poured_18 : decode cX12_poured 18 = .ok (.iload_n 1, 1) := by decide +kernel
theorem dX12_poured_19 : decode cX12_poured 19 = .ok (.invokevirtual 304, 3) := by decide +kernel
theorem dX12_poured_22 : decode cX12_poured 22 = .ok (.ifCond .eq 41, 3) := by decide +kernel
theorem dX12_poured_25 : decode cX12_poured 25 = .ok (.iload_n 2, 1) := by decide +kernel
theorem dX12_poured_26 : decode cX12_poured 26 = .ok (.ifCond .ne 16, 3) := by decide +kernel
theorem dX12_poured_29 : decode cX12_poured 29 = .ok (.aload_n 0, 1) := by decide +kernel
theorem dX12_poured_30 : decode cX12_poured 30 = .ok (.getfield 40, 3) := by decide +kernel
theorem dX12_poured_33 : decode cX12_poured 33 = .ok (.iload_n 1, 1) := by decide +kernel
theorem dX12_poured_34 : decode cX12_poured 34 = .ok (.iaload, 1) := by decide +kernel
theorem dX12_poured_35 : decode cX12_poured 35 = .ok (.sipush 200, 3) := by decide +kernel
theorem dX12_poured_38 : decode cX12_poured 38 = .ok (.irem, 1) := by decide +kernel
theorem dX12_poured_39 : decode cX12_poured 39 = .ok (.goto 25, 3) := by decide +kernel
theorem dX12_poured_42 : decode cX12_poured 42 = .ok (.aload_n 0, 1) := by decide +kernel
theorem dX12_poured_43 : decode cX12_poured 43 = .ok (.getfield 7, 3) := by decide +kernel
theorem dX12_poured_46 : decode cX12_poured 46 = .ok (.bipush 12, 2) := by decide +kernel
theorem dX12_poured_48 : decode cX12_poured 48 = .ok (.iaload, 1) := by decide +kernel
theorem dX12_poured_49 : decode cX12_poured 49 = .ok (.aload_n 0, 1) := by decide +kernel
theorem dX12_poured_50 : decode cX12_poured 50 = .ok (.getfield 40, 3) := by decide +kernel
theorem dX12_poured_53 : decode cX12_poured 53 = .ok (.iload_n 1, 1) := by decide +kernel
theorem dX12_poured_54 : decode cX12_poured 54 = .ok (.iaload, 1) := by decide +kernel
theorem dX12_poured_55 : decode cX12_poured 55 = .ok (.sipush 200, 3) := by decide +kernel
theorem dX12_poured_58 : decode cX12_poured 58 = .ok (.irem, 1) := by decide +kernel
theorem dX12_poured_59 : decode cX12_poured 59 = .ok (.isub, 1) := by decide +kernel
theorem dX12_poured_60 : decode cX12_poured 60 = .ok (.goto 4, 3) := by decide +kernel
theorem dX12_poured_63 : decode cX12_poured 63 = .ok (.iconst (-1), 1) := by decide +kernel
theorem dX12_poured_64 : decode cX12_poured 64 = .ok (.ireturn, 1) := by decide +kernel
theorem dX12_take_0 : decode cX12_take 0 = .ok (.aload_n 0, 1) := by decide +kernel
theorem dX12_take_1 : decode cX12_take 1 = .ok (.iload_n 1, 1) := by decide +kernel
theorem dX12_take_2 : decode cX12_take 2 = .ok (.invokevirtual 304, 3) := by decide +kernel
theorem dX12_take_5 : decode cX12_take 5 = .ok (.ifCond .ne 5, 3) := by decide +kernel
theorem dX12_take_8 : decode cX12_take 8 = .ok (.iconst (-1), 1) := by decide +kernel
theorem dX12_take_9 : decode cX12_take 9 = .ok (.ireturn, 1) := by decide +kernel
theorem dX12_take_10 : decode cX12_take 10 = .ok (.aload_n 0, 1) := by decide +kernel
theorem dX12_take_11 : decode cX12_take 11 = .ok (.invokevirtual 228, 3) := by decide +kernel
theorem dX12_take_14 : decode cX12_take 14 = .ok (.iconst 0, 1) := by decide +kernel
theorem dX12_take_15 : decode cX12_take 15 = .ok (.istore_n 2, 1) := by decide +kernel
theorem dX12_take_16 : decode cX12_take 16 = .ok (.iconst 0, 1) := by decide +kernel
theorem dX12_take_17 : decode cX12_take 17 = .ok (.istore_n 3, 1) := by decide +kernel
theorem dX12_take_18 : decode cX12_take 18 = .ok (.iload_n 3, 1) := by decide +kernel
theorem dX12_take_19 : decode cX12_take 19 = .ok (.aload_n 0, 1) := by decide +kernel
theorem dX12_take_20 : decode cX12_take 20 = .ok (.getfield 7, 3) := by decide +kernel
theorem dX12_take_23 : decode cX12_take 23 = .ok (.bipush 11, 2) := by decide +kernel
theorem dX12_take_25 : decode cX12_take 25 = .ok (.iaload, 1) := by decide +kernel
theorem dX12_take_26 : decode cX12_take 26 = .ok (.if_icmp .ge 44, 3) := by decide +kernel
theorem dX12_take_29 : decode cX12_take 29 = .ok (.iload_n 2, 1) := by decide +kernel
theorem dX12_take_30 : decode cX12_take 30 = .ok (.aload_n 0, 1) := by decide +kernel
theorem dX12_take_31 : decode cX12_take 31 = .ok (.getfield 7, 3) := by decide +kernel
theorem dX12_take_34 : decode cX12_take 34 = .ok (.bipush 93, 2) := by decide +kernel
theorem dX12_take_36 : decode cX12_take 36 = .ok (.iload_n 3, 1) := by decide +kernel
theorem dX12_take_37 : decode cX12_take 37 = .ok (.iadd, 1) := by decide +kernel
theorem dX12_take_38 : decode cX12_take 38 = .ok (.iaload, 1) := by decide +kernel
theorem dX12_take_39 : decode cX12_take 39 = .ok (.aload_n 0, 1) := by decide +kernel
theorem dX12_take_40 : decode cX12_take 40 = .ok (.aload_n 0, 1) := by decide +kernel
theorem dX12_take_41 : decode cX12_take 41 = .ok (.getfield 40, 3) := by decide +kernel
theorem dX12_take_44 : decode cX12_take 44 = .ok (.iload_n 1, 1) := by decide +kernel
theorem dX12_take_45 : decode cX12_take 45 = .ok (.iaload, 1) := by decide +kernel
theorem dX12_take_46 : decode cX12_take 46 = .ok (.sipush 200, 3) := by decide +kernel
theorem dX12_take_49 : decode cX12_take 49 = .ok (.idiv, 1) := by decide +kernel
theorem dX12_take_50 : decode cX12_take 50 = .ok (.iload_n 3, 1) := by decide +kernel
theorem dX12_take_51 : decode cX12_take 51 = .ok (.invokevirtual 307, 3) := by decide +kernel
theorem dX12_take_54 : decode cX12_take 54 = .ok (.if_icmp .eq 7, 3) := by decide +kernel
theorem dX12_take_57 : decode cX12_take 57 = .ok (.iconst 1, 1) := by decide +kernel
theorem dX12_take_58 : decode cX12_take 58 = .ok (.goto 4, 3) := by decide +kernel
theorem dX12_take_61 : decode cX12_take 61 = .ok (.iconst 0, 1) := by decide +kernel
theorem dX12_take_62 : decode cX12_take 62 = .ok (.iadd, 1) := by decide +kernel
theorem dX12_take_63 : decode cX12_take 63 = .ok (.istore_n 2, 1) := by decide +kernel
theorem dX12_take_64 : decode cX12_take 64 = .ok (.iinc 3 1, 3) := by decide +kernel
theorem dX12_take_67 : decode cX12_take 67 = .ok (.goto (-49), 3) := by decide +kernel
theorem dX12_take_70 : decode cX12_take 70 = .ok (.aload_n 0, 1) := by decide +kernel
theorem dX12_take_71 : decode cX12_take 71 = .ok (.aload_n 0, 1) := by decide +kernel
theorem dX12_take_72 : decode cX12_take 72 = .ok (.getfield 40, 3) := by decide +kernel
theorem dX12_take_75 : decode cX12_take 75 = .ok (.iload_n 1, 1) := by decide +kernel
theorem dX12_take_76 : decode cX12_take 76 = .ok (.iaload, 1) := by decide +kernel
theorem dX12_take_77 : decode cX12_take 77 = .ok (.sipush 200, 3) := by decide +kernel
theorem dX12_take_80 : decode cX12_take 80 = .ok (.idiv, 1) := by decide +kernel
theorem dX12_take_81 : decode cX12_take 81 = .ok (.invokevirtual 289, 3) := by decide +kernel
theorem dX12_take_84 : decode cX12_take 84 = .ok (.aload_n 0, 1) := by decide +kernel
theorem dX12_take_85 : decode cX12_take 85 = .ok (.aload_n 0, 1) := by decide +kernel
theorem dX12_take_86 : decode cX12_take 86 = .ok (.getfield 40, 3) := by decide +kernel
theorem dX12_take_89 : decode cX12_take 89 = .ok (.iload_n 1, 1) := by decide +kernel
theorem dX12_take_90 : decode cX12_take 90 = .ok (.iaload, 1) := by decide +kernel
theorem dX12_take_91 : decode cX12_take 91 = .ok (.sipush 200, 3) := by decide +kernel
theorem dX12_take_94 : decode cX12_take 94 = .ok (.irem, 1) := by decide +kernel
theorem dX12_take_95 : decode cX12_take 95 = .ok (.invokevirtual 295, 3) := by decide +kernel
theorem dX12_take_98 : decode cX12_take 98 = .ok (.pop, 1) := by decide +kernel
theorem dX12_take_99 : decode cX12_take 99 = .ok (.iload_n 2, 1) := by decide +kernel
theorem dX12_take_100 : decode cX12_take 100 = .ok (.ireturn, 1) := by decide +kernel
theorem dX12_starts_0 : decode cX12_starts 0 = .ok (.iconst 0, 1) := by decide +kernel
theorem dX12_starts_1 : decode cX12_starts 1 = .ok (.istore_n 1, 1) := by decide +kernel
theorem dX12_starts_2 : decode cX12_starts 2 = .ok (.iload_n 1, 1) := by decide +kernel
theorem dX12_starts_3 : decode cX12_starts 3 = .ok (.aload_n 0, 1) := by decide +kernel
theorem dX12_starts_4 : decode cX12_starts 4 = .ok (.invokevirtual 286, 3) := by decide +kernel
theorem dX12_starts_7 : decode cX12_starts 7 = .ok (.if_icmp .ge 17, 3) := by decide +kernel
theorem dX12_starts_10 : decode cX12_starts 10 = .ok (.aload_n 0, 1) := by decide +kernel
theorem dX12_starts_11 : decode cX12_starts 11 = .ok (.getfield 43, 3) := by decide +kernel
theorem dX12_starts_14 : decode cX12_starts 14 = .ok (.iload_n 1, 1) := by decide +kernel
theorem dX12_starts_15 : decode cX12_starts 15 = .ok (.bipush (-2), 2) := by decide +kernel
theorem dX12_starts_17 : decode cX12_starts 17 = .ok (.iastore, 1) := by decide +kernel
theorem dX12_starts_18 : decode cX12_starts 18 = .ok (.iinc 1 1, 3) := by decide +kernel
theorem dX12_starts_21 : decode cX12_starts 21 = .ok (.goto (-19), 3) := by decide +kernel
theorem dX12_starts_24 : decode cX12_starts 24 = .ok (.aload_n 0, 1) := by decide +kernel
theorem dX12_starts_25 : decode cX12_starts 25 = .ok (.iconst 0, 1) := by decide +kernel
theorem dX12_starts_26 : decode cX12_starts 26 = .ok (.putfield 310, 3) := by decide +kernel
theorem dX12_starts_29 : decode cX12_starts 29 = .ok (.aload_n 0, 1) := by decide +kernel
theorem dX12_starts_30 : decode cX12_starts 30 = .ok (.aload_n 0, 1) := by decide +kernel
theorem dX12_starts_31 : decode cX12_starts 31 = .ok (.invokevirtual 313, 3) := by decide +kernel
theorem dX12_starts_34 : decode cX12_starts 34 = .ok (.iconst (-1), 1) := by decide +kernel
theorem dX12_starts_35 : decode cX12_starts 35 = .ok (.invokevirtual 316, 3) := by decide +kernel
theorem dX12_starts_38 : decode cX12_starts 38 = .ok (.return_, 1) := by decide +kernel
theorem dX12_waits_0 : decode cX12_waits 0 = .ok (.aload_n 0, 1) := by decide +kernel
theorem dX12_waits_1 : decode cX12_waits 1 = .ok (.getfield 43, 3) := by decide +kernel
theorem dX12_waits_4 : decode cX12_waits 4 = .ok (.iload_n 1, 1) := by decide +kernel
theorem dX12_waits_5 : decode cX12_waits 5 = .ok (.iaload, 1) := by decide +kernel
theorem dX12_waits_6 : decode cX12_waits 6 = .ok (.bipush (-2), 2) := by decide +kernel
theorem dX12_waits_8 : decode cX12_waits 8 = .ok (.if_icmp .eq 4, 3) := by decide +kernel
theorem dX12_waits_11 : decode cX12_waits 11 = .ok (.return_, 1) := by decide +kernel
theorem dX12_waits_12 : decode cX12_waits 12 = .ok (.aload_n 0, 1) := by decide +kernel
theorem dX12_waits_13 : decode cX12_waits 13 = .ok (.getfield 43, 3) := by decide +kernel
theorem dX12_waits_16 : decode cX12_waits 16 = .ok (.iload_n 1, 1) := by decide +kernel
theorem dX12_waits_17 : decode cX12_waits 17 = .ok (.iload_n 2, 1) := by decide +kernel
theorem dX12_waits_18 : decode cX12_waits 18 = .ok (.iastore, 1) := by decide +kernel
theorem dX12_waits_19 : decode cX12_waits 19 = .ok (.aload_n 0, 1) := by decide +kernel
theorem dX12_waits_20 : decode cX12_waits 20 = .ok (.getfield 46, 3) := by decide +kernel
theorem dX12_waits_23 : decode cX12_waits 23 = .ok (.aload_n 0, 1) := by decide +kernel
theorem dX12_waits_24 : decode cX12_waits 24 = .ok (.getfield 310, 3) := by decide +kernel
theorem dX12_waits_27 : decode cX12_waits 27 = .ok (.iload_n 1, 1) := by decide +kernel
theorem dX12_waits_28 : decode cX12_waits 28 = .ok (.iastore, 1) := by decide +kernel
theorem dX12_waits_29 : decode cX12_waits 29 = .ok (.aload_n 0, 1) := by decide +kernel
theorem dX12_waits_30 : decode cX12_waits 30 = .ok (.dup, 1) := by decide +kernel
theorem dX12_waits_31 : decode cX12_waits 31 = .ok (.getfield 310, 3) := by decide +kernel
theorem dX12_waits_34 : decode cX12_waits 34 = .ok (.iconst 1, 1) := by decide +kernel
theorem dX12_waits_35 : decode cX12_waits 35 = .ok (.iadd, 1) := by decide +kernel
theorem dX12_waits_36 : decode cX12_waits 36 = .ok (.putfield 310, 3) := by decide +kernel
theorem dX12_waits_39 : decode cX12_waits 39 = .ok (.return_, 1) := by decide +kernel
theorem dX12_moves_0 : decode cX12_moves 0 = .ok (.iconst 0, 1) := by decide +kernel
theorem dX12_moves_1 : decode cX12_moves 1 = .ok (.istore_n 2, 1) := by decide +kernel
theorem dX12_moves_2 : decode cX12_moves 2 = .ok (.iload_n 2, 1) := by decide +kernel
theorem dX12_moves_3 : decode cX12_moves 3 = .ok (.aload_n 0, 1) := by decide +kernel
theorem dX12_moves_4 : decode cX12_moves 4 = .ok (.getfield 7, 3) := by decide +kernel
theorem dX12_moves_7 : decode cX12_moves 7 = .ok (.bipush 11, 2) := by decide +kernel
theorem dX12_moves_9 : decode cX12_moves 9 = .ok (.iaload, 1) := by decide +kernel
theorem dX12_moves_10 : decode cX12_moves 10 = .ok (.if_icmp .ge 62, 3) := by decide +kernel
theorem dX12_moves_13 : decode cX12_moves 13 = .ok (.iconst 0, 1) := by decide +kernel
theorem dX12_moves_14 : decode cX12_moves 14 = .ok (.istore_n 3, 1) := by decide +kernel
theorem dX12_moves_15 : decode cX12_moves 15 = .ok (.iload_n 3, 1) := by decide +kernel
theorem dX12_moves_16 : decode cX12_moves 16 = .ok (.aload_n 0, 1) := by decide +kernel
theorem dX12_moves_17 : decode cX12_moves 17 = .ok (.getfield 7, 3) := by decide +kernel
theorem dX12_moves_20 : decode cX12_moves 20 = .ok (.iconst 5, 1) := by decide +kernel
theorem dX12_moves_21 : decode cX12_moves 21 = .ok (.iaload, 1) := by decide +kernel
theorem dX12_moves_22 : decode cX12_moves 22 = .ok (.if_icmp .ge 44, 3) := by decide +kernel
theorem dX12_moves_25 : decode cX12_moves 25 = .ok (.aload_n 0, 1) := by decide +kernel
theorem dX12_moves_26 : decode cX12_moves 26 = .ok (.iload_n 1, 1) := by decide +kernel
theorem dX12_moves_27 : decode cX12_moves 27 = .ok (.invokevirtual 289, 3) := by decide +kernel
theorem dX12_moves_30 : decode cX12_moves 30 = .ok (.aload_n 0, 1) := by decide +kernel
theorem dX12_moves_31 : decode cX12_moves 31 = .ok (.iload_n 3, 1) := by decide +kernel
theorem dX12_moves_32 : decode cX12_moves 32 = .ok (.invokevirtual 210, 3) := by decide +kernel
theorem dX12_moves_35 : decode cX12_moves 35 = .ok (.ifCond .lt 6, 3) := by decide +kernel
theorem dX12_moves_38 : decode cX12_moves 38 = .ok (.goto 22, 3) := by decide +kernel
theorem dX12_moves_41 : decode cX12_moves 41 = .ok (.aload_n 0, 1) := by decide +kernel
theorem dX12_moves_42 : decode cX12_moves 42 = .ok (.getfield 7, 3) := by decide +kernel
theorem dX12_moves_45 : decode cX12_moves 45 = .ok (.bipush 93, 2) := by decide +kernel
theorem dX12_moves_47 : decode cX12_moves 47 = .ok (.iload_n 2, 1) := by decide +kernel
theorem dX12_moves_48 : decode cX12_moves 48 = .ok (.iadd, 1) := by decide +kernel
theorem dX12_moves_49 : decode cX12_moves 49 = .ok (.iload_n 3, 1) := by decide +kernel
theorem dX12_moves_50 : decode cX12_moves 50 = .ok (.iastore, 1) := by decide +kernel
theorem dX12_moves_51 : decode cX12_moves 51 = .ok (.aload_n 0, 1) := by decide +kernel
theorem dX12_moves_52 : decode cX12_moves 52 = .ok (.aload_n 0, 1) := by decide +kernel
theorem dX12_moves_53 : decode cX12_moves 53 = .ok (.invokevirtual 313, 3) := by decide +kernel
theorem dX12_moves_56 : decode cX12_moves 56 = .ok (.iload_n 1, 1) := by decide +kernel
theorem dX12_moves_57 : decode cX12_moves 57 = .ok (.invokevirtual 316, 3) := by decide +kernel
theorem dX12_moves_60 : decode cX12_moves 60 = .ok (.iinc 3 1, 3) := by decide +kernel
theorem dX12_moves_63 : decode cX12_moves 63 = .ok (.goto (-48), 3) := by decide +kernel
theorem dX12_moves_66 : decode cX12_moves 66 = .ok (.iinc 2 1, 3) := by decide +kernel
theorem dX12_moves_69 : decode cX12_moves 69 = .ok (.goto (-67), 3) := by decide +kernel
theorem dX12_moves_72 : decode cX12_moves 72 = .ok (.return_, 1) := by decide +kernel
theorem dX12_mends_0 : decode cX12_mends 0 = .ok (.aload_n 0, 1) := by decide +kernel
theorem dX12_mends_1 : decode cX12_mends 1 = .ok (.invokevirtual 280, 3) := by decide +kernel
theorem dX12_mends_4 : decode cX12_mends 4 = .ok (.iconst (-1), 1) := by decide +kernel
theorem dX12_mends_5 : decode cX12_mends 5 = .ok (.istore_n 1, 1) := by decide +kernel
theorem dX12_mends_6 : decode cX12_mends 6 = .ok (.aload_n 0, 1) := by decide +kernel
theorem dX12_mends_7 : decode cX12_mends 7 = .ok (.invokevirtual 318, 3) := by decide +kernel
theorem dX12_mends_10 : decode cX12_mends 10 = .ok (.iconst 0, 1) := by decide +kernel
theorem dX12_mends_11 : decode cX12_mends 11 = .ok (.istore_n 2, 1) := by decide +kernel
theorem dX12_mends_12 : decode cX12_mends 12 = .ok (.iload_n 2, 1) := by decide +kernel
theorem dX12_mends_13 : decode cX12_mends 13 = .ok (.aload_n 0, 1) := by decide +kernel
theorem dX12_mends_14 : decode cX12_mends 14 = .ok (.getfield 310, 3) := by decide +kernel
theorem dX12_mends_17 : decode cX12_mends 17 = .ok (.if_icmp .ge 50, 3) := by decide +kernel
theorem dX12_mends_20 : decode cX12_mends 20 = .ok (.iload_n 1, 1) := by decide +kernel
theorem dX12_mends_21 : decode cX12_mends 21 = .ok (.ifCond .ge 46, 3) := by decide +kernel
theorem dX12_mends_24 : decode cX12_mends 24 = .ok (.aload_n 0, 1) := by decide +kernel
theorem dX12_mends_25 : decode cX12_mends 25 = .ok (.aload_n 0, 1) := by decide +kernel
theorem dX12_mends_26 : decode cX12_mends 26 = .ok (.getfield 46, 3) := by decide +kernel
theorem dX12_mends_29 : decode cX12_mends 29 = .ok (.iload_n 2, 1) := by decide +kernel
theorem dX12_mends_30 : decode cX12_mends 30 = .ok (.iaload, 1) := by decide +kernel
theorem dX12_mends_31 : decode cX12_mends 31 = .ok (.invokevirtual 289, 3) := by decide +kernel
theorem dX12_mends_34 : decode cX12_mends 34 = .ok (.aload_n 0, 1) := by decide +kernel
theorem dX12_mends_35 : decode cX12_mends 35 = .ok (.invokevirtual 273, 3) := by decide +kernel
theorem dX12_mends_38 : decode cX12_mends 38 = .ok (.ifCond .ne 13, 3) := by decide +kernel
theorem dX12_mends_41 : decode cX12_mends 41 = .ok (.aload_n 0, 1) := by decide +kernel
theorem dX12_mends_42 : decode cX12_mends 42 = .ok (.getfield 46, 3) := by decide +kernel
theorem dX12_mends_45 : decode cX12_mends 45 = .ok (.iload_n 2, 1) := by decide +kernel
theorem dX12_mends_46 : decode cX12_mends 46 = .ok (.iaload, 1) := by decide +kernel
theorem dX12_mends_47 : decode cX12_mends 47 = .ok (.istore_n 1, 1) := by decide +kernel
theorem dX12_mends_48 : decode cX12_mends 48 = .ok (.goto 13, 3) := by decide +kernel
theorem dX12_mends_51 : decode cX12_mends 51 = .ok (.aload_n 0, 1) := by decide +kernel
theorem dX12_mends_52 : decode cX12_mends 52 = .ok (.aload_n 0, 1) := by decide +kernel
theorem dX12_mends_53 : decode cX12_mends 53 = .ok (.getfield 46, 3) := by decide +kernel
theorem dX12_mends_56 : decode cX12_mends 56 = .ok (.iload_n 2, 1) := by decide +kernel
theorem dX12_mends_57 : decode cX12_mends 57 = .ok (.iaload, 1) := by decide +kernel
theorem dX12_mends_58 : decode cX12_mends 58 = .ok (.invokevirtual 321, 3) := by decide +kernel
theorem dX12_mends_61 : decode cX12_mends 61 = .ok (.iinc 2 1, 3) := by decide +kernel
theorem dX12_mends_64 : decode cX12_mends 64 = .ok (.goto (-52), 3) := by decide +kernel
theorem dX12_mends_67 : decode cX12_mends 67 = .ok (.aload_n 0, 1) := by decide +kernel
theorem dX12_mends_68 : decode cX12_mends 68 = .ok (.invokevirtual 298, 3) := by decide +kernel
theorem dX12_mends_71 : decode cX12_mends 71 = .ok (.iload_n 1, 1) := by decide +kernel
theorem dX12_mends_72 : decode cX12_mends 72 = .ok (.ifCond .ge 5, 3) := by decide +kernel
theorem dX12_mends_75 : decode cX12_mends 75 = .ok (.iconst 0, 1) := by decide +kernel
theorem dX12_mends_76 : decode cX12_mends 76 = .ok (.ireturn, 1) := by decide +kernel
theorem dX12_mends_77 : decode cX12_mends 77 = .ok (.aload_n 0, 1) := by decide +kernel
theorem dX12_mends_78 : decode cX12_mends 78 = .ok (.iconst 0, 1) := by decide +kernel
theorem dX12_mends_79 : decode cX12_mends 79 = .ok (.putfield 324, 3) := by decide +kernel
theorem dX12_mends_82 : decode cX12_mends 82 = .ok (.iload_n 1, 1) := by decide +kernel
theorem dX12_mends_83 : decode cX12_mends 83 = .ok (.istore_n 2, 1) := by decide +kernel
theorem dX12_mends_84 : decode cX12_mends 84 = .ok (.aload_n 0, 1) := by decide +kernel
theorem dX12_mends_85 : decode cX12_mends 85 = .ok (.getfield 43, 3) := by decide +kernel
theorem dX12_mends_88 : decode cX12_mends 88 = .ok (.iload_n 2, 1) := by decide +kernel
theorem dX12_mends_89 : decode cX12_mends 89 = .ok (.iaload, 1) := by decide +kernel
theorem dX12_mends_90 : decode cX12_mends 90 = .ok (.ifCond .lt 23, 3) := by decide +kernel
theorem dX12_mends_93 : decode cX12_mends 93 = .ok (.aload_n 0, 1) := by decide +kernel
theorem dX12_mends_94 : decode cX12_mends 94 = .ok (.dup, 1) := by decide +kernel
theorem dX12_mends_95 : decode cX12_mends 95 = .ok (.getfield 324, 3) := by decide +kernel
theorem dX12_mends_98 : decode cX12_mends 98 = .ok (.iconst 1, 1) := by decide +kernel
theorem dX12_mends_99 : decode cX12_mends 99 = .ok (.iadd, 1) := by decide +kernel
theorem dX12_mends_100 : decode cX12_mends 100 = .ok (.putfield 324, 3) := by decide +kernel
theorem dX12_mends_103 : decode cX12_mends 103 = .ok (.aload_n 0, 1) := by decide +kernel
theorem dX12_mends_104 : decode cX12_mends 104 = .ok (.getfield 43, 3) := by decide +kernel
theorem dX12_mends_107 : decode cX12_mends 107 = .ok (.iload_n 2, 1) := by decide +kernel
theorem dX12_mends_108 : decode cX12_mends 108 = .ok (.iaload, 1) := by decide +kernel
theorem dX12_mends_109 : decode cX12_mends 109 = .ok (.istore_n 2, 1) := by decide +kernel
theorem dX12_mends_110 : decode cX12_mends 110 = .ok (.goto (-26), 3) := by decide +kernel
theorem dX12_mends_113 : decode cX12_mends 113 = .ok (.aload_n 0, 1) := by decide +kernel
theorem dX12_mends_114 : decode cX12_mends 114 = .ok (.getfield 324, 3) := by decide +kernel
theorem dX12_mends_117 : decode cX12_mends 117 = .ok (.istore_n 2, 1) := by decide +kernel
theorem dX12_mends_118 : decode cX12_mends 118 = .ok (.iload_n 1, 1) := by decide +kernel
theorem dX12_mends_119 : decode cX12_mends 119 = .ok (.istore_n 3, 1) := by decide +kernel
theorem dX12_mends_120 : decode cX12_mends 120 = .ok (.aload_n 0, 1) := by decide +kernel
theorem dX12_mends_121 : decode cX12_mends 121 = .ok (.getfield 43, 3) := by decide +kernel
theorem dX12_mends_124 : decode cX12_mends 124 = .ok (.iload_n 3, 1) := by decide +kernel
theorem dX12_mends_125 : decode cX12_mends 125 = .ok (.iaload, 1) := by decide +kernel
theorem dX12_mends_126 : decode cX12_mends 126 = .ok (.ifCond .lt 78, 3) := by decide +kernel
theorem dX12_mends_129 : decode cX12_mends 129 = .ok (.iinc 2 (-1), 3) := by decide +kernel
theorem dX12_mends_132 : decode cX12_mends 132 = .ok (.iconst 0, 1) := by decide +kernel
theorem dX12_mends_133 : decode cX12_mends 133 = .ok (.istore 4, 2) := by decide +kernel
theorem dX12_mends_135 : decode cX12_mends 135 = .ok (.iload 4, 2) := by decide +kernel
theorem dX12_mends_137 : decode cX12_mends 137 = .ok (.aload_n 0, 1) := by decide +kernel
theorem dX12_mends_138 : decode cX12_mends 138 = .ok (.getfield 7, 3) := by decide +kernel
theorem dX12_mends_141 : decode cX12_mends 141 = .ok (.bipush 11, 2) := by decide +kernel
theorem dX12_mends_143 : decode cX12_mends 143 = .ok (.iaload, 1) := by decide +kernel
theorem dX12_mends_144 : decode cX12_mends 144 = .ok (.if_icmp .ge 50, 3) := by decide +kernel
theorem dX12_mends_147 : decode cX12_mends 147 = .ok (.aload_n 0, 1) := by decide +kernel
theorem dX12_mends_148 : decode cX12_mends 148 = .ok (.iload_n 3, 1) := by decide +kernel
theorem dX12_mends_149 : decode cX12_mends 149 = .ok (.iload 4, 2) := by decide +kernel
theorem dX12_mends_151 : decode cX12_mends 151 = .ok (.invokevirtual 307, 3) := by decide +kernel
theorem dX12_mends_154 : decode cX12_mends 154 = .ok (.aload_n 0, 1) := by decide +kernel
theorem dX12_mends_155 : decode cX12_mends 155 = .ok (.aload_n 0, 1) := by decide +kernel
theorem dX12_mends_156 : decode cX12_mends 156 = .ok (.getfield 43, 3) := by decide +kernel
theorem dX12_mends_159 : decode cX12_mends 159 = .ok (.iload_n 3, 1) := by decide +kernel
theorem dX12_mends_160 : decode cX12_mends 160 = .ok (.iaload, 1) := by decide +kernel
theorem dX12_mends_161 : decode cX12_mends 161 = .ok (.iload 4, 2) := by decide +kernel
theorem dX12_mends_163 : decode cX12_mends 163 = .ok (.invokevirtual 307, 3) := by decide +kernel
theorem dX12_mends_166 : decode cX12_mends 166 = .ok (.if_icmp .eq 22, 3) := by decide +kernel
theorem dX12_mends_169 : decode cX12_mends 169 = .ok (.aload_n 0, 1) := by decide +kernel
theorem dX12_mends_170 : decode cX12_mends 170 = .ok (.getfield 49, 3) := by decide +kernel
theorem dX12_mends_173 : decode cX12_mends 173 = .ok (.iload_n 2, 1) := by decide +kernel
theorem dX12_mends_174 : decode cX12_mends 174 = .ok (.bipush 10, 2) := by decide +kernel
theorem dX12_mends_176 : decode cX12_mends 176 = .ok (.iload 4, 2) := by decide +kernel
theorem dX12_mends_178 : decode cX12_mends 178 = .ok (.imul, 1) := by decide +kernel
theorem dX12_mends_179 : decode cX12_mends 179 = .ok (.aload_n 0, 1) := by decide +kernel
theorem dX12_mends_180 : decode cX12_mends 180 = .ok (.iload_n 3, 1) := by decide +kernel
theorem dX12_mends_181 : decode cX12_mends 181 = .ok (.iload 4, 2) := by decide +kernel
theorem dX12_mends_183 : decode cX12_mends 183 = .ok (.invokevirtual 307, 3) := by decide +kernel
theorem dX12_mends_186 : decode cX12_mends 186 = .ok (.iadd, 1) := by decide +kernel
theorem dX12_mends_187 : decode cX12_mends 187 = .ok (.iastore, 1) := by decide +kernel
theorem dX12_mends_188 : decode cX12_mends 188 = .ok (.iinc 4 1, 3) := by decide +kernel
theorem dX12_mends_191 : decode cX12_mends 191 = .ok (.goto (-56), 3) := by decide +kernel
theorem dX12_mends_194 : decode cX12_mends 194 = .ok (.aload_n 0, 1) := by decide +kernel
theorem dX12_mends_195 : decode cX12_mends 195 = .ok (.getfield 43, 3) := by decide +kernel
theorem dX12_mends_198 : decode cX12_mends 198 = .ok (.iload_n 3, 1) := by decide +kernel
theorem dX12_mends_199 : decode cX12_mends 199 = .ok (.iaload, 1) := by decide +kernel
theorem dX12_mends_200 : decode cX12_mends 200 = .ok (.istore_n 3, 1) := by decide +kernel
theorem dX12_mends_201 : decode cX12_mends 201 = .ok (.goto (-81), 3) := by decide +kernel
theorem dX12_mends_204 : decode cX12_mends 204 = .ok (.iconst 1, 1) := by decide +kernel
theorem dX12_mends_205 : decode cX12_mends 205 = .ok (.ireturn, 1) := by decide +kernel
theorem dX12_mend_0 : decode cX12_mend 0 = .ok (.aload_n 0, 1) := by decide +kernel
theorem dX12_mend_1 : decode cX12_mend 1 = .ok (.invokevirtual 327, 3) := by decide +kernel
theorem dX12_mend_4 : decode cX12_mend 4 = .ok (.ifCond .ne 5, 3) := by decide +kernel
theorem dX12_mend_7 : decode cX12_mend 7 = .ok (.iconst (-1), 1) := by decide +kernel
theorem dX12_mend_8 : decode cX12_mend 8 = .ok (.ireturn, 1) := by decide +kernel
theorem dX12_mend_9 : decode cX12_mend 9 = .ok (.aload_n 0, 1) := by decide +kernel
theorem dX12_mend_10 : decode cX12_mend 10 = .ok (.aload_n 0, 1) := by decide +kernel
theorem dX12_mend_11 : decode cX12_mend 11 = .ok (.getfield 324, 3) := by decide +kernel
theorem dX12_mend_14 : decode cX12_mend 14 = .ok (.putfield 330, 3) := by decide +kernel
theorem dX12_mend_17 : decode cX12_mend 17 = .ok (.iconst 0, 1) := by decide +kernel
theorem dX12_mend_18 : decode cX12_mend 18 = .ok (.istore_n 1, 1) := by decide +kernel
theorem dX12_mend_19 : decode cX12_mend 19 = .ok (.iload_n 1, 1) := by decide +kernel
theorem dX12_mend_20 : decode cX12_mend 20 = .ok (.aload_n 0, 1) := by decide +kernel
theorem dX12_mend_21 : decode cX12_mend 21 = .ok (.getfield 324, 3) := by decide +kernel
theorem dX12_mend_24 : decode cX12_mend 24 = .ok (.if_icmp .ge 21, 3) := by decide +kernel
theorem dX12_mend_27 : decode cX12_mend 27 = .ok (.aload_n 0, 1) := by decide +kernel
theorem dX12_mend_28 : decode cX12_mend 28 = .ok (.getfield 52, 3) := by decide +kernel
theorem dX12_mend_31 : decode cX12_mend 31 = .ok (.iload_n 1, 1) := by decide +kernel
theorem dX12_mend_32 : decode cX12_mend 32 = .ok (.aload_n 0, 1) := by decide +kernel
theorem dX12_mend_33 : decode cX12_mend 33 = .ok (.getfield 49, 3) := by decide +kernel
theorem dX12_mend_36 : decode cX12_mend 36 = .ok (.iload_n 1, 1) := by decide +kernel
theorem dX12_mend_37 : decode cX12_mend 37 = .ok (.iaload, 1) := by decide +kernel
theorem dX12_mend_38 : decode cX12_mend 38 = .ok (.iastore, 1) := by decide +kernel
theorem dX12_mend_39 : decode cX12_mend 39 = .ok (.iinc 1 1, 3) := by decide +kernel
theorem dX12_mend_42 : decode cX12_mend 42 = .ok (.goto (-23), 3) := by decide +kernel
theorem dX12_mend_45 : decode cX12_mend 45 = .ok (.aload_n 0, 1) := by decide +kernel
theorem dX12_mend_46 : decode cX12_mend 46 = .ok (.getfield 324, 3) := by decide +kernel
theorem dX12_mend_49 : decode cX12_mend 49 = .ok (.ireturn, 1) := by decide +kernel
theorem dX12_move_0 : decode cX12_move 0 = .ok (.iload_n 1, 1) := by decide +kernel
theorem dX12_move_1 : decode cX12_move 1 = .ok (.iconst 0, 1) := by decide +kernel
theorem dX12_move_2 : decode cX12_move 2 = .ok (.aload_n 0, 1) := by decide +kernel
theorem dX12_move_3 : decode cX12_move 3 = .ok (.getfield 330, 3) := by decide +kernel
theorem dX12_move_6 : decode cX12_move 6 = .ok (.iconst 1, 1) := by decide +kernel
theorem dX12_move_7 : decode cX12_move 7 = .ok (.isub, 1) := by decide +kernel
theorem dX12_move_8 : decode cX12_move 8 = .ok (.invokestatic 73, 3) := by decide +kernel
theorem dX12_move_11 : decode cX12_move 11 = .ok (.ifCond .eq 12, 3) := by decide +kernel
theorem dX12_move_14 : decode cX12_move 14 = .ok (.aload_n 0, 1) := by decide +kernel
theorem dX12_move_15 : decode cX12_move 15 = .ok (.getfield 52, 3) := by decide +kernel
theorem dX12_move_18 : decode cX12_move 18 = .ok (.iload_n 1, 1) := by decide +kernel
theorem dX12_move_19 : decode cX12_move 19 = .ok (.iaload, 1) := by decide +kernel
theorem dX12_move_20 : decode cX12_move 20 = .ok (.goto 4, 3) := by decide +kernel
theorem dX12_move_23 : decode cX12_move 23 = .ok (.iconst (-1), 1) := by decide +kernel
theorem dX12_move_24 : decode cX12_move 24 = .ok (.ireturn, 1) := by decide +kernel
theorem dX12_mended_0 : decode cX12_mended 0 = .ok (.aload_n 0, 1) := by decide +kernel
theorem dX12_mended_1 : decode cX12_mended 1 = .ok (.invokevirtual 327, 3) := by decide +kernel
theorem dX12_mended_4 : decode cX12_mended 4 = .ok (.ifCond .ne 5, 3) := by decide +kernel
theorem dX12_mended_7 : decode cX12_mended 7 = .ok (.iconst (-1), 1) := by decide +kernel
theorem dX12_mended_8 : decode cX12_mended 8 = .ok (.ireturn, 1) := by decide +kernel
theorem dX12_mended_9 : decode cX12_mended 9 = .ok (.aload_n 0, 1) := by decide +kernel
theorem dX12_mended_10 : decode cX12_mended 10 = .ok (.getfield 324, 3) := by decide +kernel
theorem dX12_mended_13 : decode cX12_mended 13 = .ok (.ifCond .le 7, 3) := by decide +kernel
theorem dX12_mended_16 : decode cX12_mended 16 = .ok (.aload_n 0, 1) := by decide +kernel
theorem dX12_mended_17 : decode cX12_mended 17 = .ok (.invokevirtual 228, 3) := by decide +kernel
theorem dX12_mended_20 : decode cX12_mended 20 = .ok (.iconst 0, 1) := by decide +kernel
theorem dX12_mended_21 : decode cX12_mended 21 = .ok (.istore_n 1, 1) := by decide +kernel
theorem dX12_mended_22 : decode cX12_mended 22 = .ok (.iload_n 1, 1) := by decide +kernel
theorem dX12_mended_23 : decode cX12_mended 23 = .ok (.aload_n 0, 1) := by decide +kernel
theorem dX12_mended_24 : decode cX12_mended 24 = .ok (.getfield 324, 3) := by decide +kernel
theorem dX12_mended_27 : decode cX12_mended 27 = .ok (.if_icmp .ge 35, 3) := by decide +kernel
theorem dX12_mended_30 : decode cX12_mended 30 = .ok (.aload_n 0, 1) := by decide +kernel
theorem dX12_mended_31 : decode cX12_mended 31 = .ok (.getfield 7, 3) := by decide +kernel
theorem dX12_mended_34 : decode cX12_mended 34 = .ok (.bipush 93, 2) := by decide +kernel
theorem dX12_mended_36 : decode cX12_mended 36 = .ok (.aload_n 0, 1) := by decide +kernel
theorem dX12_mended_37 : decode cX12_mended 37 = .ok (.getfield 49, 3) := by decide +kernel
theorem dX12_mended_40 : decode cX12_mended 40 = .ok (.iload_n 1, 1) := by decide +kernel
theorem dX12_mended_41 : decode cX12_mended 41 = .ok (.iaload, 1) := by decide +kernel
theorem dX12_mended_42 : decode cX12_mended 42 = .ok (.bipush 10, 2) := by decide +kernel
theorem dX12_mended_44 : decode cX12_mended 44 = .ok (.idiv, 1) := by decide +kernel
theorem dX12_mended_45 : decode cX12_mended 45 = .ok (.iadd, 1) := by decide +kernel
theorem dX12_mended_46 : decode cX12_mended 46 = .ok (.aload_n 0, 1) := by decide +kernel
theorem dX12_mended_47 : decode cX12_mended 47 = .ok (.getfield 49, 3) := by decide +kernel
theorem dX12_mended_50 : decode cX12_mended 50 = .ok (.iload_n 1, 1) := by decide +kernel
theorem dX12_mended_51 : decode cX12_mended 51 = .ok (.iaload, 1) := by decide +kernel
theorem dX12_mended_52 : decode cX12_mended 52 = .ok (.bipush 10, 2) := by decide +kernel
theorem dX12_mended_54 : decode cX12_mended 54 = .ok (.irem, 1) := by decide +kernel
theorem dX12_mended_55 : decode cX12_mended 55 = .ok (.iastore, 1) := by decide +kernel
theorem dX12_mended_56 : decode cX12_mended 56 = .ok (.iinc 1 1, 3) := by decide +kernel
theorem dX12_mended_59 : decode cX12_mended 59 = .ok (.goto (-37), 3) := by decide +kernel
theorem dX12_mended_62 : decode cX12_mended 62 = .ok (.aload_n 0, 1) := by decide +kernel
theorem dX12_mended_63 : decode cX12_mended 63 = .ok (.getfield 324, 3) := by decide +kernel
theorem dX12_mended_66 : decode cX12_mended 66 = .ok (.ireturn, 1) := by decide +kernel
theorem dX12_taken_0 : decode cX12_taken 0 = .ok (.iconst 0, 1) := by decide +kernel
theorem dX12_taken_1 : decode cX12_taken 1 = .ok (.istore_n 1, 1) := by decide +kernel
theorem dX12_taken_2 : decode cX12_taken 2 = .ok (.iconst 0, 1) := by decide +kernel
theorem dX12_taken_3 : decode cX12_taken 3 = .ok (.istore_n 2, 1) := by decide +kernel
theorem dX12_taken_4 : decode cX12_taken 4 = .ok (.iload_n 2, 1) := by decide +kernel
theorem dX12_taken_5 : decode cX12_taken 5 = .ok (.aload_n 0, 1) := by decide +kernel
theorem dX12_taken_6 : decode cX12_taken 6 = .ok (.getfield 7, 3) := by decide +kernel
theorem dX12_taken_9 : decode cX12_taken 9 = .ok (.bipush 11, 2) := by decide +kernel
theorem dX12_taken_11 : decode cX12_taken 11 = .ok (.iaload, 1) := by decide +kernel
theorem dX12_taken_12 : decode cX12_taken 12 = .ok (.if_icmp .ge 39, 3) := by decide +kernel
theorem dX12_taken_15 : decode cX12_taken 15 = .ok (.iload_n 1, 1) := by decide +kernel
theorem dX12_taken_16 : decode cX12_taken 16 = .ok (.aload_n 0, 1) := by decide +kernel
theorem dX12_taken_17 : decode cX12_taken 17 = .ok (.getfield 7, 3) := by decide +kernel
theorem dX12_taken_20 : decode cX12_taken 20 = .ok (.bipush 93, 2) := by decide +kernel
theorem dX12_taken_22 : decode cX12_taken 22 = .ok (.iload_n 2, 1) := by decide +kernel
theorem dX12_taken_23 : decode cX12_taken 23 = .ok (.iadd, 1) := by decide +kernel
theorem dX12_taken_24 : decode cX12_taken 24 = .ok (.iaload, 1) := by decide +kernel
theorem dX12_taken_25 : decode cX12_taken 25 = .ok (.ifCond .lt 17, 3) := by decide +kernel
theorem dX12_taken_28 : decode cX12_taken 28 = .ok (.iconst 1, 1) := by decide +kernel
theorem dX12_taken_29 : decode cX12_taken 29 = .ok (.aload_n 0, 1) := by decide +kernel
theorem dX12_taken_30 : decode cX12_taken 30 = .ok (.getfield 7, 3) := by decide +kernel
theorem dX12_taken_33 : decode cX12_taken 33 = .ok (.bipush 93, 2) := by decide +kernel
theorem dX12_taken_35 : decode cX12_taken 35 = .ok (.iload_n 2, 1) := by decide +kernel
theorem dX12_taken_36 : decode cX12_taken 36 = .ok (.iadd, 1) := by decide +kernel
theorem dX12_taken_37 : decode cX12_taken 37 = .ok (.iaload, 1) := by decide +kernel
theorem dX12_taken_38 : decode cX12_taken 38 = .ok (.ishl, 1) := by decide +kernel
theorem dX12_taken_39 : decode cX12_taken 39 = .ok (.goto 4, 3) := by decide +kernel
theorem dX12_taken_42 : decode cX12_taken 42 = .ok (.iconst 0, 1) := by decide +kernel
theorem dX12_taken_43 : decode cX12_taken 43 = .ok (.ior, 1) := by decide +kernel
theorem dX12_taken_44 : decode cX12_taken 44 = .ok (.istore_n 1, 1) := by decide +kernel
theorem dX12_taken_45 : decode cX12_taken 45 = .ok (.iinc 2 1, 3) := by decide +kernel
theorem dX12_taken_48 : decode cX12_taken 48 = .ok (.goto (-44), 3) := by decide +kernel
theorem dX12_taken_51 : decode cX12_taken 51 = .ok (.iload_n 1, 1) := by decide +kernel
theorem dX12_taken_52 : decode cX12_taken 52 = .ok (.ireturn, 1) := by decide +kernel
theorem dX12_handles_0 : decode cX12_handles 0 = .ok (.aload_n 0, 1) := by decide +kernel
theorem dX12_handles_1 : decode cX12_handles 1 = .ok (.iload_n 1, 1) := by decide +kernel
theorem dX12_handles_2 : decode cX12_handles 2 = .ok (.invokevirtual 289, 3) := by decide +kernel
theorem dX12_handles_5 : decode cX12_handles 5 = .ok (.aload_n 0, 1) := by decide +kernel
theorem dX12_handles_6 : decode cX12_handles 6 = .ok (.invokevirtual 333, 3) := by decide +kernel
theorem dX12_handles_9 : decode cX12_handles 9 = .ok (.istore_n 2, 1) := by decide +kernel
theorem dX12_handles_10 : decode cX12_handles 10 = .ok (.iconst 0, 1) := by decide +kernel
theorem dX12_handles_11 : decode cX12_handles 11 = .ok (.istore_n 3, 1) := by decide +kernel
theorem dX12_handles_12 : decode cX12_handles 12 = .ok (.iload_n 3, 1) := by decide +kernel
theorem dX12_handles_13 : decode cX12_handles 13 = .ok (.aload_n 0, 1) := by decide +kernel
theorem dX12_handles_14 : decode cX12_handles 14 = .ok (.getfield 7, 3) := by decide +kernel
theorem dX12_handles_17 : decode cX12_handles 17 = .ok (.bipush 11, 2) := by decide +kernel
theorem dX12_handles_19 : decode cX12_handles 19 = .ok (.iaload, 1) := by decide +kernel
theorem dX12_handles_20 : decode cX12_handles 20 = .ok (.if_icmp .ge 130, 3) := by decide +kernel
theorem dX12_handles_23 : decode cX12_handles 23 = .ok (.aload_n 0, 1) := by decide +kernel
theorem dX12_handles_24 : decode cX12_handles 24 = .ok (.getfield 7, 3) := by decide +kernel
theorem dX12_handles_27 : decode cX12_handles 27 = .ok (.bipush 93, 2) := by decide +kernel
theorem dX12_handles_29 : decode cX12_handles 29 = .ok (.iload_n 3, 1) := by decide +kernel
theorem dX12_handles_30 : decode cX12_handles 30 = .ok (.iadd, 1) := by decide +kernel
theorem dX12_handles_31 : decode cX12_handles 31 = .ok (.iaload, 1) := by decide +kernel
theorem dX12_handles_32 : decode cX12_handles 32 = .ok (.istore 4, 2) := by decide +kernel
theorem dX12_handles_34 : decode cX12_handles 34 = .ok (.iconst 0, 1) := by decide +kernel
theorem dX12_handles_35 : decode cX12_handles 35 = .ok (.istore 5, 2) := by decide +kernel
theorem dX12_handles_37 : decode cX12_handles 37 = .ok (.iload 5, 2) := by decide +kernel
theorem dX12_handles_39 : decode cX12_handles 39 = .ok (.aload_n 0, 1) := by decide +kernel
theorem dX12_handles_40 : decode cX12_handles 40 = .ok (.getfield 7, 3) := by decide +kernel
theorem dX12_handles_43 : decode cX12_handles 43 = .ok (.iconst 5, 1) := by decide +kernel
theorem dX12_handles_44 : decode cX12_handles 44 = .ok (.iaload, 1) := by decide +kernel
theorem dX12_handles_45 : decode cX12_handles 45 = .ok (.if_icmp .ge 99, 3) := by decide +kernel
theorem dX12_handles_48 : decode cX12_handles 48 = .ok (.aload_n 0, 1) := by decide +kernel
theorem dX12_handles_49 : decode cX12_handles 49 = .ok (.iload 5, 2) := by decide +kernel
theorem dX12_handles_51 : decode cX12_handles 51 = .ok (.invokevirtual 222, 3) := by decide +kernel
theorem dX12_handles_54 : decode cX12_handles 54 = .ok (.iload_n 2, 1) := by decide +kernel
theorem dX12_handles_55 : decode cX12_handles 55 = .ok (.iand, 1) := by decide +kernel
theorem dX12_handles_56 : decode cX12_handles 56 = .ok (.ifCond .ne 31, 3) := by decide +kernel
theorem dX12_handles_59 : decode cX12_handles 59 = .ok (.iload 4, 2) := by decide +kernel
theorem dX12_handles_61 : decode cX12_handles 61 = .ok (.ifCond .ge 15, 3) := by decide +kernel
theorem dX12_handles_64 : decode cX12_handles 64 = .ok (.iload_n 2, 1) := by decide +kernel
theorem dX12_handles_65 : decode cX12_handles 65 = .ok (.iload 5, 2) := by decide +kernel
theorem dX12_handles_67 : decode cX12_handles 67 = .ok (.invokestatic 255, 3) := by decide +kernel
theorem dX12_handles_70 : decode cX12_handles 70 = .ok (.ifCond .ne 17, 3) := by decide +kernel
theorem dX12_handles_73 : decode cX12_handles 73 = .ok (.goto 10, 3) := by decide +kernel
theorem dX12_handles_76 : decode cX12_handles 76 = .ok (.iload 4, 2) := by decide +kernel
theorem dX12_handles_78 : decode cX12_handles 78 = .ok (.iload 5, 2) := by decide +kernel
theorem dX12_handles_80 : decode cX12_handles 80 = .ok (.if_icmp .ne 7, 3) := by decide +kernel
theorem dX12_handles_83 : decode cX12_handles 83 = .ok (.iconst 1, 1) := by decide +kernel
theorem dX12_handles_84 : decode cX12_handles 84 = .ok (.goto 4, 3) := by decide +kernel
theorem dX12_handles_87 : decode cX12_handles 87 = .ok (.iconst 0, 1) := by decide +kernel
theorem dX12_handles_88 : decode cX12_handles 88 = .ok (.istore 6, 2) := by decide +kernel
theorem dX12_handles_90 : decode cX12_handles 90 = .ok (.iload 6, 2) := by decide +kernel
theorem dX12_handles_92 : decode cX12_handles 92 = .ok (.ifCond .ne 6, 3) := by decide +kernel
theorem dX12_handles_95 : decode cX12_handles 95 = .ok (.goto 43, 3) := by decide +kernel
theorem dX12_handles_98 : decode cX12_handles 98 = .ok (.aload_n 0, 1) := by decide +kernel
theorem dX12_handles_99 : decode cX12_handles 99 = .ok (.getfield 7, 3) := by decide +kernel
theorem dX12_handles_102 : decode cX12_handles 102 = .ok (.bipush 93, 2) := by decide +kernel
theorem dX12_handles_104 : decode cX12_handles 104 = .ok (.iload_n 3, 1) := by decide +kernel
theorem dX12_handles_105 : decode cX12_handles 105 = .ok (.iadd, 1) := by decide +kernel
theorem dX12_handles_106 : decode cX12_handles 106 = .ok (.iload 4, 2) := by decide +kernel
theorem dX12_handles_108 : decode cX12_handles 108 = .ok (.ifCond .ge 8, 3) := by decide +kernel
theorem dX12_handles_111 : decode cX12_handles 111 = .ok (.iload 5, 2) := by decide +kernel
theorem dX12_handles_113 : decode cX12_handles 113 = .ok (.goto 4, 3) := by decide +kernel
theorem dX12_handles_116 : decode cX12_handles 116 = .ok (.iconst (-1), 1) := by decide +kernel
theorem dX12_handles_117 : decode cX12_handles 117 = .ok (.iastore, 1) := by decide +kernel
theorem dX12_handles_118 : decode cX12_handles 118 = .ok (.aload_n 0, 1) := by decide +kernel
theorem dX12_handles_119 : decode cX12_handles 119 = .ok (.aload_n 0, 1) := by decide +kernel
theorem dX12_handles_120 : decode cX12_handles 120 = .ok (.invokevirtual 313, 3) := by decide +kernel
theorem dX12_handles_123 : decode cX12_handles 123 = .ok (.iload_n 1, 1) := by decide +kernel
theorem dX12_handles_124 : decode cX12_handles 124 = .ok (.invokevirtual 316, 3) := by decide +kernel
theorem dX12_handles_127 : decode cX12_handles 127 = .ok (.aload_n 0, 1) := by decide +kernel
theorem dX12_handles_128 : decode cX12_handles 128 = .ok (.getfield 7, 3) := by decide +kernel
theorem dX12_handles_131 : decode cX12_handles 131 = .ok (.bipush 93, 2) := by decide +kernel
theorem dX12_handles_133 : decode cX12_handles 133 = .ok (.iload_n 3, 1) := by decide +kernel
theorem dX12_handles_134 : decode cX12_handles 134 = .ok (.iadd, 1) := by decide +kernel
theorem dX12_handles_135 : decode cX12_handles 135 = .ok (.iload 4, 2) := by decide +kernel
theorem dX12_handles_137 : decode cX12_handles 137 = .ok (.iastore, 1) := by decide +kernel
theorem dX12_handles_138 : decode cX12_handles 138 = .ok (.iinc 5 1, 3) := by decide +kernel
theorem dX12_handles_141 : decode cX12_handles 141 = .ok (.goto (-104), 3) := by decide +kernel
theorem dX12_handles_144 : decode cX12_handles 144 = .ok (.iinc 3 1, 3) := by decide +kernel
theorem dX12_handles_147 : decode cX12_handles 147 = .ok (.goto (-135), 3) := by decide +kernel
theorem dX12_handles_150 : decode cX12_handles 150 = .ok (.return_, 1) := by decide +kernel
theorem dX12_handlings_0 : decode cX12_handlings 0 = .ok (.aload_n 0, 1) := by decide +kernel
theorem dX12_handlings_1 : decode cX12_handlings 1 = .ok (.iload_n 1, 1) := by decide +kernel
theorem dX12_handlings_2 : decode cX12_handlings 2 = .ok (.invokevirtual 304, 3) := by decide +kernel
theorem dX12_handlings_5 : decode cX12_handlings 5 = .ok (.ifCond .ne 5, 3) := by decide +kernel
theorem dX12_handlings_8 : decode cX12_handlings 8 = .ok (.iconst (-1), 1) := by decide +kernel
theorem dX12_handlings_9 : decode cX12_handlings 9 = .ok (.ireturn, 1) := by decide +kernel
theorem dX12_handlings_10 : decode cX12_handlings 10 = .ok (.aload_n 0, 1) := by decide +kernel
theorem dX12_handlings_11 : decode cX12_handlings 11 = .ok (.getfield 40, 3) := by decide +kernel
theorem dX12_handlings_14 : decode cX12_handlings 14 = .ok (.iload_n 1, 1) := by decide +kernel
theorem dX12_handlings_15 : decode cX12_handlings 15 = .ok (.iaload, 1) := by decide +kernel
theorem dX12_handlings_16 : decode cX12_handlings 16 = .ok (.sipush 200, 3) := by decide +kernel
theorem dX12_handlings_19 : decode cX12_handlings 19 = .ok (.idiv, 1) := by decide +kernel
theorem dX12_handlings_20 : decode cX12_handlings 20 = .ok (.istore_n 2, 1) := by decide +kernel
theorem dX12_handlings_21 : decode cX12_handlings 21 = .ok (.aload_n 0, 1) := by decide +kernel
theorem dX12_handlings_22 : decode cX12_handlings 22 = .ok (.invokevirtual 280, 3) := by decide +kernel
theorem dX12_handlings_25 : decode cX12_handlings 25 = .ok (.aload_n 0, 1) := by decide +kernel
theorem dX12_handlings_26 : decode cX12_handlings 26 = .ok (.invokevirtual 318, 3) := by decide +kernel
theorem dX12_handlings_29 : decode cX12_handlings 29 = .ok (.iconst 0, 1) := by decide +kernel
theorem dX12_handlings_30 : decode cX12_handlings 30 = .ok (.istore_n 3, 1) := by decide +kernel
theorem dX12_handlings_31 : decode cX12_handlings 31 = .ok (.iload_n 3, 1) := by decide +kernel
theorem dX12_handlings_32 : decode cX12_handlings 32 = .ok (.aload_n 0, 1) := by decide +kernel
theorem dX12_handlings_33 : decode cX12_handlings 33 = .ok (.getfield 310, 3) := by decide +kernel
theorem dX12_handlings_36 : decode cX12_handlings 36 = .ok (.if_icmp .ge 30, 3) := by decide +kernel
theorem dX12_handlings_39 : decode cX12_handlings 39 = .ok (.aload_n 0, 1) := by decide +kernel
theorem dX12_handlings_40 : decode cX12_handlings 40 = .ok (.getfield 43, 3) := by decide +kernel
theorem dX12_handlings_43 : decode cX12_handlings 43 = .ok (.iload_n 2, 1) := by decide +kernel
theorem dX12_handlings_44 : decode cX12_handlings 44 = .ok (.iaload, 1) := by decide +kernel
theorem dX12_handlings_45 : decode cX12_handlings 45 = .ok (.bipush (-2), 2) := by decide +kernel
theorem dX12_handlings_47 : decode cX12_handlings 47 = .ok (.if_icmp .ne 19, 3) := by decide +kernel
theorem dX12_handlings_50 : decode cX12_handlings 50 = .ok (.aload_n 0, 1) := by decide +kernel
theorem dX12_handlings_51 : decode cX12_handlings 51 = .ok (.aload_n 0, 1) := by decide +kernel
theorem dX12_handlings_52 : decode cX12_handlings 52 = .ok (.getfield 46, 3) := by decide +kernel
theorem dX12_handlings_55 : decode cX12_handlings 55 = .ok (.iload_n 3, 1) := by decide +kernel
theorem dX12_handlings_56 : decode cX12_handlings 56 = .ok (.iaload, 1) := by decide +kernel
theorem dX12_handlings_57 : decode cX12_handlings 57 = .ok (.invokevirtual 336, 3) := by decide +kernel
theorem dX12_handlings_60 : decode cX12_handlings 60 = .ok (.iinc 3 1, 3) := by decide +kernel
theorem dX12_handlings_63 : decode cX12_handlings 63 = .ok (.goto (-32), 3) := by decide +kernel
theorem dX12_handlings_66 : decode cX12_handlings 66 = .ok (.aload_n 0, 1) := by decide +kernel
theorem dX12_handlings_67 : decode cX12_handlings 67 = .ok (.invokevirtual 298, 3) := by decide +kernel
theorem dX12_handlings_70 : decode cX12_handlings 70 = .ok (.iconst 0, 1) := by decide +kernel
theorem dX12_handlings_71 : decode cX12_handlings 71 = .ok (.istore_n 3, 1) := by decide +kernel
theorem dX12_handlings_72 : decode cX12_handlings 72 = .ok (.iload_n 2, 1) := by decide +kernel
theorem dX12_handlings_73 : decode cX12_handlings 73 = .ok (.istore 4, 2) := by decide +kernel
theorem dX12_handlings_75 : decode cX12_handlings 75 = .ok (.aload_n 0, 1) := by decide +kernel
theorem dX12_handlings_76 : decode cX12_handlings 76 = .ok (.getfield 43, 3) := by decide +kernel
theorem dX12_handlings_79 : decode cX12_handlings 79 = .ok (.iload 4, 2) := by decide +kernel
theorem dX12_handlings_81 : decode cX12_handlings 81 = .ok (.iaload, 1) := by decide +kernel
theorem dX12_handlings_82 : decode cX12_handlings 82 = .ok (.ifCond .lt 18, 3) := by decide +kernel
theorem dX12_handlings_85 : decode cX12_handlings 85 = .ok (.iinc 3 1, 3) := by decide +kernel
theorem dX12_handlings_88 : decode cX12_handlings 88 = .ok (.aload_n 0, 1) := by decide +kernel
theorem dX12_handlings_89 : decode cX12_handlings 89 = .ok (.getfield 43, 3) := by decide +kernel
theorem dX12_handlings_92 : decode cX12_handlings 92 = .ok (.iload 4, 2) := by decide +kernel
theorem dX12_handlings_94 : decode cX12_handlings 94 = .ok (.iaload, 1) := by decide +kernel
theorem dX12_handlings_95 : decode cX12_handlings 95 = .ok (.istore 4, 2) := by decide +kernel
theorem dX12_handlings_97 : decode cX12_handlings 97 = .ok (.goto (-22), 3) := by decide +kernel
theorem dX12_handlings_100 : decode cX12_handlings 100 = .ok (.iload_n 3, 1) := by decide +kernel
theorem dX12_handlings_101 : decode cX12_handlings 101 = .ok (.ireturn, 1) := by decide +kernel
theorem dJ9_floorDiv_7cf53_0 : decode cJ9_floorDiv_7cf53 0 = .ok (.iload_n 0, 1) := by decide +kernel
theorem dJ9_floorDiv_7cf53_1 : decode cJ9_floorDiv_7cf53 1 = .ok (.iload_n 1, 1) := by decide +kernel
theorem dJ9_floorDiv_7cf53_2 : decode cJ9_floorDiv_7cf53 2 = .ok (.idiv, 1) := by decide +kernel
theorem dJ9_floorDiv_7cf53_3 : decode cJ9_floorDiv_7cf53 3 = .ok (.istore_n 2, 1) := by decide +kernel
theorem dJ9_floorDiv_7cf53_4 : decode cJ9_floorDiv_7cf53 4 = .ok (.iload_n 0, 1) := by decide +kernel
theorem dJ9_floorDiv_7cf53_5 : decode cJ9_floorDiv_7cf53 5 = .ok (.iload_n 1, 1) := by decide +kernel
theorem dJ9_floorDiv_7cf53_6 : decode cJ9_floorDiv_7cf53 6 = .ok (.ixor, 1) := by decide +kernel
theorem dJ9_floorDiv_7cf53_7 : decode cJ9_floorDiv_7cf53 7 = .ok (.ifCond .ge 14, 3) := by decide +kernel
theorem dJ9_floorDiv_7cf53_10 : decode cJ9_floorDiv_7cf53 10 = .ok (.iload_n 2, 1) := by decide +kernel
theorem dJ9_floorDiv_7cf53_11 : decode cJ9_floorDiv_7cf53 11 = .ok (.iload_n 1, 1) := by decide +kernel
theorem dJ9_floorDiv_7cf53_12 : decode cJ9_floorDiv_7cf53 12 = .ok (.imul, 1) := by decide +kernel
theorem dJ9_floorDiv_7cf53_13 : decode cJ9_floorDiv_7cf53 13 = .ok (.iload_n 0, 1) := by decide +kernel
theorem dJ9_floorDiv_7cf53_14 : decode cJ9_floorDiv_7cf53 14 = .ok (.if_icmp .eq 7, 3) := by decide +kernel
theorem dJ9_floorDiv_7cf53_17 : decode cJ9_floorDiv_7cf53 17 = .ok (.iload_n 2, 1) := by decide +kernel
theorem dJ9_floorDiv_7cf53_18 : decode cJ9_floorDiv_7cf53 18 = .ok (.iconst 1, 1) := by decide +kernel
theorem dJ9_floorDiv_7cf53_19 : decode cJ9_floorDiv_7cf53 19 = .ok (.isub, 1) := by decide +kernel
theorem dJ9_floorDiv_7cf53_20 : decode cJ9_floorDiv_7cf53 20 = .ok (.ireturn, 1) := by decide +kernel
theorem dJ9_floorDiv_7cf53_21 : decode cJ9_floorDiv_7cf53 21 = .ok (.iload_n 2, 1) := by decide +kernel
theorem dJ9_floorDiv_7cf53_22 : decode cJ9_floorDiv_7cf53 22 = .ok (.ireturn, 1) := by decide +kernel
theorem dJ9_max_7cf53_0 : decode cJ9_max_7cf53 0 = .ok (.iload_n 0, 1) := by decide +kernel
theorem dJ9_max_7cf53_1 : decode cJ9_max_7cf53 1 = .ok (.iload_n 1, 1) := by decide +kernel
theorem dJ9_max_7cf53_2 : decode cJ9_max_7cf53 2 = .ok (.if_icmp .lt 7, 3) := by decide +kernel
theorem dJ9_max_7cf53_5 : decode cJ9_max_7cf53 5 = .ok (.iload_n 0, 1) := by decide +kernel
theorem dJ9_max_7cf53_6 : decode cJ9_max_7cf53 6 = .ok (.goto 4, 3) := by decide +kernel
theorem dJ9_max_7cf53_9 : decode cJ9_max_7cf53 9 = .ok (.iload_n 1, 1) := by decide +kernel
theorem dJ9_max_7cf53_10 : decode cJ9_max_7cf53 10 = .ok (.ireturn, 1) := by decide +kernel
theorem dJ9_min_7cf53_0 : decode cJ9_min_7cf53 0 = .ok (.iload_n 0, 1) := by decide +kernel
theorem dJ9_min_7cf53_1 : decode cJ9_min_7cf53 1 = .ok (.iload_n 1, 1) := by decide +kernel
theorem dJ9_min_7cf53_2 : decode cJ9_min_7cf53 2 = .ok (.if_icmp .gt 7, 3) := by decide +kernel
theorem dJ9_min_7cf53_5 : decode cJ9_min_7cf53 5 = .ok (.iload_n 0, 1) := by decide +kernel
theorem dJ9_min_7cf53_6 : decode cJ9_min_7cf53 6 = .ok (.goto 4, 3) := by decide +kernel
theorem dJ9_min_7cf53_9 : decode cJ9_min_7cf53 9 = .ok (.iload_n 1, 1) := by decide +kernel
theorem dJ9_min_7cf53_10 : decode cJ9_min_7cf53 10 = .ok (.ireturn, 1) := by decide +kernel
theorem dJ0_length_8abf5_0 : decode cJ0_length_8abf5 0 = .ok (.aload_n 0, 1) := by decide +kernel
theorem dJ0_length_8abf5_1 : decode cJ0_length_8abf5 1 = .ok (.getfield 9, 3) := by decide +kernel
theorem dJ0_length_8abf5_4 : decode cJ0_length_8abf5 4 = .ok (.arraylength, 1) := by decide +kernel
theorem dJ0_length_8abf5_5 : decode cJ0_length_8abf5 5 = .ok (.aload_n 0, 1) := by decide +kernel
theorem dJ0_length_8abf5_6 : decode cJ0_length_8abf5 6 = .ok (.invokevirtual 335, 3) := by decide +kernel
theorem dJ0_length_8abf5_9 : decode cJ0_length_8abf5 9 = .ok (.ishr, 1) := by decide +kernel
theorem dJ0_length_8abf5_10 : decode cJ0_length_8abf5 10 = .ok (.ireturn, 1) := by decide +kernel
theorem dJ0_charAt_5068e_0 : decode cJ0_charAt_5068e 0 = .ok (.aload_n 0, 1) := by decide +kernel
theorem dJ0_charAt_5068e_1 : decode cJ0_charAt_5068e 1 = .ok (.invokevirtual 492, 3) := by decide +kernel
theorem dJ0_charAt_5068e_4 : decode cJ0_charAt_5068e 4 = .ok (.ifCond .eq 12, 3) := by decide +kernel
theorem dJ0_charAt_5068e_7 : decode cJ0_charAt_5068e 7 = .ok (.aload_n 0, 1) := by decide +kernel
theorem dJ0_charAt_5068e_8 : decode cJ0_charAt_5068e 8 = .ok (.getfield 9, 3) := by decide +kernel
theorem dJ0_charAt_5068e_11 : decode cJ0_charAt_5068e 11 = .ok (.iload_n 1, 1) := by decide +kernel
theorem dJ0_charAt_5068e_12 : decode cJ0_charAt_5068e 12 = .ok (.invokestatic 495, 3) := by decide +kernel
theorem dJ0_charAt_5068e_15 : decode cJ0_charAt_5068e 15 = .ok (.ireturn, 1) := by decide +kernel
theorem dJ0_charAt_5068e_16 : decode cJ0_charAt_5068e 16 = .ok (.aload_n 0, 1) := by decide +kernel
theorem dJ0_charAt_5068e_17 : decode cJ0_charAt_5068e 17 = .ok (.getfield 9, 3) := by decide +kernel
theorem dJ0_charAt_5068e_20 : decode cJ0_charAt_5068e 20 = .ok (.iload_n 1, 1) := by decide +kernel
theorem dJ0_charAt_5068e_21 : decode cJ0_charAt_5068e 21 = .ok (.invokestatic 498, 3) := by decide +kernel
theorem dJ0_charAt_5068e_24 : decode cJ0_charAt_5068e 24 = .ok (.ireturn, 1) := by decide +kernel
theorem dJ0_coder_7d493_0 : decode cJ0_coder_7d493 0 = .ok (.getstatic 38, 3) := by decide +kernel
theorem dJ0_coder_7d493_3 : decode cJ0_coder_7d493 3 = .ok (.ifCond .eq 10, 3) := by decide +kernel
theorem dJ0_coder_7d493_6 : decode cJ0_coder_7d493 6 = .ok (.aload_n 0, 1) := by decide +kernel
theorem dJ0_coder_7d493_7 : decode cJ0_coder_7d493 7 = .ok (.getfield 15, 3) := by decide +kernel
theorem dJ0_coder_7d493_10 : decode cJ0_coder_7d493 10 = .ok (.goto 4, 3) := by decide +kernel
theorem dJ0_coder_7d493_13 : decode cJ0_coder_7d493 13 = .ok (.iconst 1, 1) := by decide +kernel
theorem dJ0_coder_7d493_14 : decode cJ0_coder_7d493 14 = .ok (.ireturn, 1) := by decide +kernel
theorem dJ0_isLatin1_aae02_0 : decode cJ0_isLatin1_aae02 0 = .ok (.getstatic 38, 3) := by decide +kernel
theorem dJ0_isLatin1_aae02_3 : decode cJ0_isLatin1_aae02 3 = .ok (.ifCond .eq 14, 3) := by decide +kernel
theorem dJ0_isLatin1_aae02_6 : decode cJ0_isLatin1_aae02 6 = .ok (.aload_n 0, 1) := by decide +kernel
theorem dJ0_isLatin1_aae02_7 : decode cJ0_isLatin1_aae02 7 = .ok (.getfield 15, 3) := by decide +kernel
theorem dJ0_isLatin1_aae02_10 : decode cJ0_isLatin1_aae02 10 = .ok (.ifCond .ne 7, 3) := by decide +kernel
theorem dJ0_isLatin1_aae02_13 : decode cJ0_isLatin1_aae02 13 = .ok (.iconst 1, 1) := by decide +kernel
theorem dJ0_isLatin1_aae02_14 : decode cJ0_isLatin1_aae02 14 = .ok (.goto 4, 3) := by decide +kernel
theorem dJ0_isLatin1_aae02_17 : decode cJ0_isLatin1_aae02 17 = .ok (.iconst 0, 1) := by decide +kernel
theorem dJ0_isLatin1_aae02_18 : decode cJ0_isLatin1_aae02 18 = .ok (.ireturn, 1) := by decide +kernel
theorem dJ0_checkIndex_df160_0 : decode cJ0_checkIndex_df160 0 = .ok (.iload_n 0, 1) := by decide +kernel
theorem dJ0_checkIndex_df160_1 : decode cJ0_checkIndex_df160 1 = .ok (.iload_n 1, 1) := by decide +kernel
theorem dJ0_checkIndex_df160_2 : decode cJ0_checkIndex_df160 2 = .ok (.getstatic 1053, 3) := by decide +kernel
theorem dJ0_checkIndex_df160_5 : decode cJ0_checkIndex_df160 5 = .ok (.invokestatic 1059, 3) := by decide +kernel
theorem dJ0_checkIndex_df160_8 : decode cJ0_checkIndex_df160 8 = .ok (.pop, 1) := by decide +kernel
theorem dJ0_checkIndex_df160_9 : decode cJ0_checkIndex_df160 9 = .ok (.return_, 1) := by decide +kernel
theorem dJ1_charAt_3b067_0 : decode cJ1_charAt_3b067 0 = .ok (.iload_n 1, 1) := by decide +kernel
theorem dJ1_charAt_3b067_1 : decode cJ1_charAt_3b067 1 = .ok (.aload_n 0, 1) := by decide +kernel
theorem dJ1_charAt_3b067_2 : decode cJ1_charAt_3b067 2 = .ok (.arraylength, 1) := by decide +kernel
theorem dJ1_charAt_3b067_3 : decode cJ1_charAt_3b067 3 = .ok (.invokestatic 9, 3) := by decide +kernel
theorem dJ1_charAt_3b067_6 : decode cJ1_charAt_3b067 6 = .ok (.aload_n 0, 1) := by decide +kernel
theorem dJ1_charAt_3b067_7 : decode cJ1_charAt_3b067 7 = .ok (.iload_n 1, 1) := by decide +kernel
theorem dJ1_charAt_3b067_8 : decode cJ1_charAt_3b067 8 = .ok (.baload, 1) := by decide +kernel
theorem dJ1_charAt_3b067_9 : decode cJ1_charAt_3b067 9 = .ok (.sipush 255, 3) := by decide +kernel
theorem dJ1_charAt_3b067_12 : decode cJ1_charAt_3b067 12 = .ok (.iand, 1) := by decide +kernel
theorem dJ1_charAt_3b067_13 : decode cJ1_charAt_3b067 13 = .ok (.i2c, 1) := by decide +kernel
theorem dJ1_charAt_3b067_14 : decode cJ1_charAt_3b067 14 = .ok (.ireturn, 1) := by decide +kernel
theorem dJ2_getChar_3b067_0 : decode cJ2_getChar_3b067 0 = .ok (.getstatic 44, 3) := by decide +kernel
theorem dJ2_getChar_3b067_3 : decode cJ2_getChar_3b067 3 = .ok (.ifCond .ne 25, 3) := by decide +kernel
theorem dJ2_getChar_3b067_6 : decode cJ2_getChar_3b067 6 = .ok (.iload_n 1, 1) := by decide +kernel
theorem dJ2_getChar_3b067_7 : decode cJ2_getChar_3b067 7 = .ok (.ifCond .lt 11, 3) := by decide +kernel
theorem dJ2_getChar_3b067_10 : decode cJ2_getChar_3b067 10 = .ok (.iload_n 1, 1) := by decide +kernel
theorem dJ2_getChar_3b067_11 : decode cJ2_getChar_3b067 11 = .ok (.aload_n 0, 1) := by decide +kernel
theorem dJ2_getChar_3b067_12 : decode cJ2_getChar_3b067 12 = .ok (.invokestatic 48, 3) := by decide +kernel
theorem dJ2_getChar_3b067_15 : decode cJ2_getChar_3b067 15 = .ok (.if_icmp .lt 13, 3) := by decide +kernel
theorem dJ2_getChar_3b067_18 : decode cJ2_getChar_3b067 18 = .ok (.new 52, 3) := by decide +kernel
theorem dJ2_getChar_3b067_21 : decode cJ2_getChar_3b067 21 = .ok (.dup, 1) := by decide +kernel
theorem dJ2_getChar_3b067_22 : decode cJ2_getChar_3b067 22 = .ok (.ldc 54, 2) := by decide +kernel
theorem dJ2_getChar_3b067_24 : decode cJ2_getChar_3b067 24 = .ok (.invokespecial 56, 3) := by decide +kernel
theorem dJ2_getChar_3b067_27 : decode cJ2_getChar_3b067 27 = .ok (.athrow, 1) := by decide +kernel
theorem dJ2_getChar_3b067_28 : decode cJ2_getChar_3b067 28 = .ok (.iload_n 1, 1) := by decide +kernel
theorem dJ2_getChar_3b067_29 : decode cJ2_getChar_3b067 29 = .ok (.iconst 1, 1) := by decide +kernel
theorem dJ2_getChar_3b067_30 : decode cJ2_getChar_3b067 30 = .ok (.ishl, 1) := by decide +kernel
theorem dJ2_getChar_3b067_31 : decode cJ2_getChar_3b067 31 = .ok (.istore_n 1, 1) := by decide +kernel
theorem dJ2_getChar_3b067_32 : decode cJ2_getChar_3b067 32 = .ok (.aload_n 0, 1) := by decide +kernel
theorem dJ2_getChar_3b067_33 : decode cJ2_getChar_3b067 33 = .ok (.iload_n 1, 1) := by decide +kernel
theorem dJ2_getChar_3b067_34 : decode cJ2_getChar_3b067 34 = .ok (.iinc 1 1, 3) := by decide +kernel
theorem dJ2_getChar_3b067_37 : decode cJ2_getChar_3b067 37 = .ok (.baload, 1) := by decide +kernel
theorem dJ2_getChar_3b067_38 : decode cJ2_getChar_3b067 38 = .ok (.sipush 255, 3) := by decide +kernel
theorem dJ2_getChar_3b067_41 : decode cJ2_getChar_3b067 41 = .ok (.iand, 1) := by decide +kernel
theorem dJ2_getChar_3b067_42 : decode cJ2_getChar_3b067 42 = .ok (.getstatic 59, 3) := by decide +kernel
theorem dJ2_getChar_3b067_45 : decode cJ2_getChar_3b067 45 = .ok (.ishl, 1) := by decide +kernel
theorem dJ2_getChar_3b067_46 : decode cJ2_getChar_3b067 46 = .ok (.aload_n 0, 1) := by decide +kernel
theorem dJ2_getChar_3b067_47 : decode cJ2_getChar_3b067 47 = .ok (.iload_n 1, 1) := by decide +kernel
theorem dJ2_getChar_3b067_48 : decode cJ2_getChar_3b067 48 = .ok (.baload, 1) := by decide +kernel
theorem dJ2_getChar_3b067_49 : decode cJ2_getChar_3b067 49 = .ok (.sipush 255, 3) := by decide +kernel
theorem dJ2_getChar_3b067_52 : decode cJ2_getChar_3b067 52 = .ok (.iand, 1) := by decide +kernel
theorem dJ2_getChar_3b067_53 : decode cJ2_getChar_3b067 53 = .ok (.getstatic 63, 3) := by decide +kernel
theorem dJ2_getChar_3b067_56 : decode cJ2_getChar_3b067 56 = .ok (.ishl, 1) := by decide +kernel
theorem dJ2_getChar_3b067_57 : decode cJ2_getChar_3b067 57 = .ok (.ior, 1) := by decide +kernel
theorem dJ2_getChar_3b067_58 : decode cJ2_getChar_3b067 58 = .ok (.i2c, 1) := by decide +kernel
theorem dJ2_getChar_3b067_59 : decode cJ2_getChar_3b067 59 = .ok (.ireturn, 1) := by decide +kernel
theorem dJ2_length_9d52b_0 : decode cJ2_length_9d52b 0 = .ok (.aload_n 0, 1) := by decide +kernel
theorem dJ2_length_9d52b_1 : decode cJ2_length_9d52b 1 = .ok (.arraylength, 1) := by decide +kernel
theorem dJ2_length_9d52b_2 : decode cJ2_length_9d52b 2 = .ok (.iconst 1, 1) := by decide +kernel
theorem dJ2_length_9d52b_3 : decode cJ2_length_9d52b 3 = .ok (.ishr, 1) := by decide +kernel
theorem dJ2_length_9d52b_4 : decode cJ2_length_9d52b 4 = .ok (.ireturn, 1) := by decide +kernel
theorem dJ2_charAt_3b067_0 : decode cJ2_charAt_3b067 0 = .ok (.iload_n 1, 1) := by decide +kernel
theorem dJ2_charAt_3b067_1 : decode cJ2_charAt_3b067 1 = .ok (.aload_n 0, 1) := by decide +kernel
theorem dJ2_charAt_3b067_2 : decode cJ2_charAt_3b067 2 = .ok (.invokestatic 67, 3) := by decide +kernel
theorem dJ2_charAt_3b067_5 : decode cJ2_charAt_3b067 5 = .ok (.aload_n 0, 1) := by decide +kernel
theorem dJ2_charAt_3b067_6 : decode cJ2_charAt_3b067 6 = .ok (.iload_n 1, 1) := by decide +kernel
theorem dJ2_charAt_3b067_7 : decode cJ2_charAt_3b067 7 = .ok (.invokestatic 71, 3) := by decide +kernel
theorem dJ2_charAt_3b067_10 : decode cJ2_charAt_3b067 10 = .ok (.ireturn, 1) := by decide +kernel
theorem dJ2_checkIndex_2214a_0 : decode cJ2_checkIndex_2214a 0 = .ok (.iload_n 0, 1) := by decide +kernel
theorem dJ2_checkIndex_2214a_1 : decode cJ2_checkIndex_2214a 1 = .ok (.aload_n 1, 1) := by decide +kernel
theorem dJ2_checkIndex_2214a_2 : decode cJ2_checkIndex_2214a 2 = .ok (.invokestatic 48, 3) := by decide +kernel
theorem dJ2_checkIndex_2214a_5 : decode cJ2_checkIndex_2214a 5 = .ok (.invokestatic 414, 3) := by decide +kernel
theorem dJ2_checkIndex_2214a_8 : decode cJ2_checkIndex_2214a 8 = .ok (.return_, 1) := by decide +kernel
theorem dJ3_checkIndex_8e157_0 : decode cJ3_checkIndex_8e157 0 = .ok (.iload_n 0, 1) := by decide +kernel
theorem dJ3_checkIndex_8e157_1 : decode cJ3_checkIndex_8e157 1 = .ok (.ifCond .lt 8, 3) := by decide +kernel
theorem dJ3_checkIndex_8e157_4 : decode cJ3_checkIndex_8e157 4 = .ok (.iload_n 0, 1) := by decide +kernel
theorem dJ3_checkIndex_8e157_5 : decode cJ3_checkIndex_8e157 5 = .ok (.iload_n 1, 1) := by decide +kernel
theorem dJ3_checkIndex_8e157_6 : decode cJ3_checkIndex_8e157 6 = .ok (.if_icmp .lt 10, 3) := by decide +kernel
theorem dJ3_checkIndex_8e157_9 : decode cJ3_checkIndex_8e157 9 = .ok (.aload_n 2, 1) := by decide +kernel
theorem dJ3_checkIndex_8e157_10 : decode cJ3_checkIndex_8e157 10 = .ok (.iload_n 0, 1) := by decide +kernel
theorem dJ3_checkIndex_8e157_11 : decode cJ3_checkIndex_8e157 11 = .ok (.iload_n 1, 1) := by decide +kernel
theorem dJ3_checkIndex_8e157_12 : decode cJ3_checkIndex_8e157 12 = .ok (.invokestatic 95, 3) := by decide +kernel
theorem dJ3_checkIndex_8e157_15 : decode cJ3_checkIndex_8e157 15 = .ok (.athrow, 1) := by decide +kernel
theorem dJ3_checkIndex_8e157_16 : decode cJ3_checkIndex_8e157 16 = .ok (.iload_n 0, 1) := by decide +kernel
theorem dJ3_checkIndex_8e157_17 : decode cJ3_checkIndex_8e157 17 = .ok (.ireturn, 1) := by decide +kernel
theorem dL_law_0 : decode cL_law 0 = .ok (.new 7, 3) := by decide +kernel
theorem dL_law_3 : decode cL_law 3 = .ok (.dup, 1) := by decide +kernel
theorem dL_law_4 : decode cL_law 4 = .ok (.invokespecial 9, 3) := by decide +kernel
theorem dL_law_7 : decode cL_law 7 = .ok (.astore_n 1, 1) := by decide +kernel
theorem dL_law_8 : decode cL_law 8 = .ok (.new 10, 3) := by decide +kernel
theorem dL_law_11 : decode cL_law 11 = .ok (.dup, 1) := by decide +kernel
theorem dL_law_12 : decode cL_law 12 = .ok (.invokespecial 12, 3) := by decide +kernel
theorem dL_law_15 : decode cL_law 15 = .ok (.astore_n 2, 1) := by decide +kernel
theorem dL_law_16 : decode cL_law 16 = .ok (.iconst 0, 1) := by decide +kernel
theorem dL_law_17 : decode cL_law 17 = .ok (.istore_n 3, 1) := by decide +kernel
theorem dL_law_18 : decode cL_law 18 = .ok (.iload_n 3, 1) := by decide +kernel
theorem dL_law_19 : decode cL_law 19 = .ok (.aload_n 0, 1) := by decide +kernel
theorem dL_law_20 : decode cL_law 20 = .ok (.arraylength, 1) := by decide +kernel
theorem dL_law_21 : decode cL_law 21 = .ok (.bipush 6, 2) := by decide +kernel
theorem dL_law_23 : decode cL_law 23 = .ok (.isub, 1) := by decide +kernel
theorem dL_law_24 : decode cL_law 24 = .ok (.if_icmp .gt 978, 3) := by decide +kernel
theorem dL_law_27 : decode cL_law 27 = .ok (.aload_n 0, 1) := by decide +kernel
theorem dL_law_28 : decode cL_law 28 = .ok (.iload_n 3, 1) := by decide +kernel
theorem dL_law_29 : decode cL_law 29 = .ok (.iaload, 1) := by decide +kernel
theorem dL_law_30 : decode cL_law 30 = .ok (.bipush 63, 2) := by decide +kernel
theorem dL_law_32 : decode cL_law 32 = .ok (.iand, 1) := by decide +kernel
theorem dL_law_33 : decode cL_law 33 = .ok (.tableswitch 963 0 33 #[151, 214, 237, 250, 263, 276, 299, 332, 345, 378, 411, 444, 467, 500, 513, 526, 559, 582, 595, 628, 661, 684, 707, 720, 743, 756, 779, 792, 825, 848, 871, 904, 917, 940], 151) := by decide +kernel
theorem dL_law_184 : decode cL_law 184 = .ok (.aload_n 1, 1) := by decide +kernel
theorem dL_law_185 : decode cL_law 185 = .ok (.aload_n 0, 1) := by decide +kernel
theorem dL_law_186 : decode cL_law 186 = .ok (.iload_n 3, 1) := by decide +kernel
theorem dL_law_187 : decode cL_law 187 = .ok (.iconst 1, 1) := by decide +kernel
theorem dL_law_188 : decode cL_law 188 = .ok (.iadd, 1) := by decide +kernel
theorem dL_law_189 : decode cL_law 189 = .ok (.iaload, 1) := by decide +kernel
theorem dL_law_190 : decode cL_law 190 = .ok (.aload_n 0, 1) := by decide +kernel
theorem dL_law_191 : decode cL_law 191 = .ok (.iload_n 3, 1) := by decide +kernel
theorem dL_law_192 : decode cL_law 192 = .ok (.iconst 2, 1) := by decide +kernel
theorem dL_law_193 : decode cL_law 193 = .ok (.iadd, 1) := by decide +kernel
theorem dL_law_194 : decode cL_law 194 = .ok (.iaload, 1) := by decide +kernel
theorem dL_law_195 : decode cL_law 195 = .ok (.aload_n 0, 1) := by decide +kernel
theorem dL_law_196 : decode cL_law 196 = .ok (.iload_n 3, 1) := by decide +kernel
theorem dL_law_197 : decode cL_law 197 = .ok (.iconst 3, 1) := by decide +kernel
theorem dL_law_198 : decode cL_law 198 = .ok (.iadd, 1) := by decide +kernel
theorem dL_law_199 : decode cL_law 199 = .ok (.iaload, 1) := by decide +kernel
theorem dL_law_200 : decode cL_law 200 = .ok (.aload_n 0, 1) := by decide +kernel
theorem dL_law_201 : decode cL_law 201 = .ok (.iload_n 3, 1) := by decide +kernel
theorem dL_law_202 : decode cL_law 202 = .ok (.iconst 4, 1) := by decide +kernel
theorem dL_law_203 : decode cL_law 203 = .ok (.iadd, 1) := by decide +kernel
theorem dL_law_204 : decode cL_law 204 = .ok (.iaload, 1) := by decide +kernel
theorem dL_law_205 : decode cL_law 205 = .ok (.aload_n 0, 1) := by decide +kernel
theorem dL_law_206 : decode cL_law 206 = .ok (.iload_n 3, 1) := by decide +kernel
theorem dL_law_207 : decode cL_law 207 = .ok (.iconst 5, 1) := by decide +kernel
theorem dL_law_208 : decode cL_law 208 = .ok (.iadd, 1) := by decide +kernel
theorem dL_law_209 : decode cL_law 209 = .ok (.iaload, 1) := by decide +kernel
theorem dL_law_210 : decode cL_law 210 = .ok (.invokevirtual 13, 3) := by decide +kernel
theorem dL_law_213 : decode cL_law 213 = .ok (.aload_n 2, 1) := by decide +kernel
theorem dL_law_214 : decode cL_law 214 = .ok (.aload_n 0, 1) := by decide +kernel
theorem dL_law_215 : decode cL_law 215 = .ok (.iload_n 3, 1) := by decide +kernel
theorem dL_law_216 : decode cL_law 216 = .ok (.iconst 1, 1) := by decide +kernel
theorem dL_law_217 : decode cL_law 217 = .ok (.iadd, 1) := by decide +kernel
theorem dL_law_218 : decode cL_law 218 = .ok (.iaload, 1) := by decide +kernel
theorem dL_law_219 : decode cL_law 219 = .ok (.aload_n 0, 1) := by decide +kernel
theorem dL_law_220 : decode cL_law 220 = .ok (.iload_n 3, 1) := by decide +kernel
theorem dL_law_221 : decode cL_law 221 = .ok (.iconst 2, 1) := by decide +kernel
theorem dL_law_222 : decode cL_law 222 = .ok (.iadd, 1) := by decide +kernel
theorem dL_law_223 : decode cL_law 223 = .ok (.iaload, 1) := by decide +kernel
theorem dL_law_224 : decode cL_law 224 = .ok (.aload_n 0, 1) := by decide +kernel
theorem dL_law_225 : decode cL_law 225 = .ok (.iload_n 3, 1) := by decide +kernel
theorem dL_law_226 : decode cL_law 226 = .ok (.iconst 3, 1) := by decide +kernel
theorem dL_law_227 : decode cL_law 227 = .ok (.iadd, 1) := by decide +kernel
theorem dL_law_228 : decode cL_law 228 = .ok (.iaload, 1) := by decide +kernel
theorem dL_law_229 : decode cL_law 229 = .ok (.aload_n 0, 1) := by decide +kernel
theorem dL_law_230 : decode cL_law 230 = .ok (.iload_n 3, 1) := by decide +kernel
theorem dL_law_231 : decode cL_law 231 = .ok (.iconst 4, 1) := by decide +kernel
theorem dL_law_232 : decode cL_law 232 = .ok (.iadd, 1) := by decide +kernel
theorem dL_law_233 : decode cL_law 233 = .ok (.iaload, 1) := by decide +kernel
theorem dL_law_234 : decode cL_law 234 = .ok (.aload_n 0, 1) := by decide +kernel
theorem dL_law_235 : decode cL_law 235 = .ok (.iload_n 3, 1) := by decide +kernel
theorem dL_law_236 : decode cL_law 236 = .ok (.iconst 5, 1) := by decide +kernel
theorem dL_law_237 : decode cL_law 237 = .ok (.iadd, 1) := by decide +kernel
theorem dL_law_238 : decode cL_law 238 = .ok (.iaload, 1) := by decide +kernel
theorem dL_law_239 : decode cL_law 239 = .ok (.invokevirtual 17, 3) := by decide +kernel
theorem dL_law_242 : decode cL_law 242 = .ok (.if_icmp .eq 754, 3) := by decide +kernel
theorem dL_law_245 : decode cL_law 245 = .ok (.iconst 0, 1) := by decide +kernel
theorem dL_law_246 : decode cL_law 246 = .ok (.ireturn, 1) := by decide +kernel
theorem dL_law_247 : decode cL_law 247 = .ok (.aload_n 1, 1) := by decide +kernel
theorem dL_law_248 : decode cL_law 248 = .ok (.aload_n 0, 1) := by decide +kernel
theorem dL_law_249 : decode cL_law 249 = .ok (.iload_n 3, 1) := by decide +kernel
theorem dL_law_250 : decode cL_law 250 = .ok (.iconst 1, 1) := by decide +kernel
theorem dL_law_251 : decode cL_law 251 = .ok (.iadd, 1) := by decide +kernel
theorem dL_law_252 : decode cL_law 252 = .ok (.iaload, 1) := by decide +kernel
theorem dL_law_253 : decode cL_law 253 = .ok (.invokevirtual 18, 3) := by decide +kernel
theorem dL_law_256 : decode cL_law 256 = .ok (.aload_n 2, 1) := by decide +kernel
theorem dL_law_257 : decode cL_law 257 = .ok (.aload_n 0, 1) := by decide +kernel
theorem dL_law_258 : decode cL_law 258 = .ok (.iload_n 3, 1) := by decide +kernel
theorem dL_law_259 : decode cL_law 259 = .ok (.iconst 1, 1) := by decide +kernel
theorem dL_law_260 : decode cL_law 260 = .ok (.iadd, 1) := by decide +kernel
theorem dL_law_261 : decode cL_law 261 = .ok (.iaload, 1) := by decide +kernel
theorem dL_law_262 : decode cL_law 262 = .ok (.invokevirtual 22, 3) := by decide +kernel
theorem dL_law_265 : decode cL_law 265 = .ok (.if_icmp .eq 731, 3) := by decide +kernel
theorem dL_law_268 : decode cL_law 268 = .ok (.iconst 0, 1) := by decide +kernel
theorem dL_law_269 : decode cL_law 269 = .ok (.ireturn, 1) := by decide +kernel
theorem dL_law_270 : decode cL_law 270 = .ok (.aload_n 1, 1) := by decide +kernel
theorem dL_law_271 : decode cL_law 271 = .ok (.invokevirtual 23, 3) := by decide +kernel
theorem dL_law_274 : decode cL_law 274 = .ok (.aload_n 2, 1) := by decide +kernel
theorem dL_law_275 : decode cL_law 275 = .ok (.invokevirtual 27, 3) := by decide +kernel
theorem dL_law_278 : decode cL_law 278 = .ok (.if_icmp .eq 718, 3) := by decide +kernel
theorem dL_law_281 : decode cL_law 281 = .ok (.iconst 0, 1) := by decide +kernel
theorem dL_law_282 : decode cL_law 282 = .ok (.ireturn, 1) := by decide +kernel
theorem dL_law_283 : decode cL_law 283 = .ok (.aload_n 1, 1) := by decide +kernel
theorem dL_law_284 : decode cL_law 284 = .ok (.invokevirtual 28, 3) := by decide +kernel
theorem dL_law_287 : decode cL_law 287 = .ok (.aload_n 2, 1) := by decide +kernel
theorem dL_law_288 : decode cL_law 288 = .ok (.invokevirtual 31, 3) := by decide +kernel
theorem dL_law_291 : decode cL_law 291 = .ok (.if_icmp .eq 705, 3) := by decide +kernel
theorem dL_law_294 : decode cL_law 294 = .ok (.iconst 0, 1) := by decide +kernel
theorem dL_law_295 : decode cL_law 295 = .ok (.ireturn, 1) := by decide +kernel
theorem dL_law_296 : decode cL_law 296 = .ok (.aload_n 1, 1) := by decide +kernel
theorem dL_law_297 : decode cL_law 297 = .ok (.invokevirtual 32, 3) := by decide +kernel
theorem dL_law_300 : decode cL_law 300 = .ok (.aload_n 2, 1) := by decide +kernel
theorem dL_law_301 : decode cL_law 301 = .ok (.invokevirtual 35, 3) := by decide +kernel
theorem dL_law_304 : decode cL_law 304 = .ok (.if_icmp .eq 692, 3) := by decide +kernel
theorem dL_law_307 : decode cL_law 307 = .ok (.iconst 0, 1) := by decide +kernel
theorem dL_law_308 : decode cL_law 308 = .ok (.ireturn, 1) := by decide +kernel
theorem dL_law_309 : decode cL_law 309 = .ok (.aload_n 1, 1) := by decide +kernel
theorem dL_law_310 : decode cL_law 310 = .ok (.aload_n 0, 1) := by decide +kernel
theorem dL_law_311 : decode cL_law 311 = .ok (.iload_n 3, 1) := by decide +kernel
theorem dL_law_312 : decode cL_law 312 = .ok (.iconst 1, 1) := by decide +kernel
theorem dL_law_313 : decode cL_law 313 = .ok (.iadd, 1) := by decide +kernel
theorem dL_law_314 : decode cL_law 314 = .ok (.iaload, 1) := by decide +kernel
theorem dL_law_315 : decode cL_law 315 = .ok (.invokevirtual 36, 3) := by decide +kernel
theorem dL_law_318 : decode cL_law 318 = .ok (.aload_n 2, 1) := by decide +kernel
theorem dL_law_319 : decode cL_law 319 = .ok (.aload_n 0, 1) := by decide +kernel
theorem dL_law_320 : decode cL_law 320 = .ok (.iload_n 3, 1) := by decide +kernel
theorem dL_law_321 : decode cL_law 321 = .ok (.iconst 1, 1) := by decide +kernel
theorem dL_law_322 : decode cL_law 322 = .ok (.iadd, 1) := by decide +kernel
theorem dL_law_323 : decode cL_law 323 = .ok (.iaload, 1) := by decide +kernel
theorem dL_law_324 : decode cL_law 324 = .ok (.invokevirtual 40, 3) := by decide +kernel
theorem dL_law_327 : decode cL_law 327 = .ok (.if_icmp .eq 669, 3) := by decide +kernel
theorem dL_law_330 : decode cL_law 330 = .ok (.iconst 0, 1) := by decide +kernel
theorem dL_law_331 : decode cL_law 331 = .ok (.ireturn, 1) := by decide +kernel
theorem dL_law_332 : decode cL_law 332 = .ok (.aload_n 1, 1) := by decide +kernel
theorem dL_law_333 : decode cL_law 333 = .ok (.aload_n 0, 1) := by decide +kernel
theorem dL_law_334 : decode cL_law 334 = .ok (.iload_n 3, 1) := by decide +kernel
theorem dL_law_335 : decode cL_law 335 = .ok (.iconst 1, 1) := by decide +kernel
theorem dL_law_336 : decode cL_law 336 = .ok (.iadd, 1) := by decide +kernel
theorem dL_law_337 : decode cL_law 337 = .ok (.iaload, 1) := by decide +kernel
theorem dL_law_338 : decode cL_law 338 = .ok (.aload_n 0, 1) := by decide +kernel
theorem dL_law_339 : decode cL_law 339 = .ok (.iload_n 3, 1) := by decide +kernel
theorem dL_law_340 : decode cL_law 340 = .ok (.iconst 2, 1) := by decide +kernel
theorem dL_law_341 : decode cL_law 341 = .ok (.iadd, 1) := by decide +kernel
theorem dL_law_342 : decode cL_law 342 = .ok (.iaload, 1) := by decide +kernel
theorem dL_law_343 : decode cL_law 343 = .ok (.invokevirtual 41, 3) := by decide +kernel
theorem dL_law_346 : decode cL_law 346 = .ok (.aload_n 2, 1) := by decide +kernel
theorem dL_law_347 : decode cL_law 347 = .ok (.aload_n 0, 1) := by decide +kernel
theorem dL_law_348 : decode cL_law 348 = .ok (.iload_n 3, 1) := by decide +kernel
theorem dL_law_349 : decode cL_law 349 = .ok (.iconst 1, 1) := by decide +kernel
theorem dL_law_350 : decode cL_law 350 = .ok (.iadd, 1) := by decide +kernel
theorem dL_law_351 : decode cL_law 351 = .ok (.iaload, 1) := by decide +kernel
theorem dL_law_352 : decode cL_law 352 = .ok (.aload_n 0, 1) := by decide +kernel
theorem dL_law_353 : decode cL_law 353 = .ok (.iload_n 3, 1) := by decide +kernel
theorem dL_law_354 : decode cL_law 354 = .ok (.iconst 2, 1) := by decide +kernel
theorem dL_law_355 : decode cL_law 355 = .ok (.iadd, 1) := by decide +kernel
theorem dL_law_356 : decode cL_law 356 = .ok (.iaload, 1) := by decide +kernel
theorem dL_law_357 : decode cL_law 357 = .ok (.invokevirtual 45, 3) := by decide +kernel
theorem dL_law_360 : decode cL_law 360 = .ok (.if_icmp .eq 636, 3) := by decide +kernel
theorem dL_law_363 : decode cL_law 363 = .ok (.iconst 0, 1) := by decide +kernel
theorem dL_law_364 : decode cL_law 364 = .ok (.ireturn, 1) := by decide +kernel
theorem dL_law_365 : decode cL_law 365 = .ok (.aload_n 1, 1) := by decide +kernel
theorem dL_law_366 : decode cL_law 366 = .ok (.invokevirtual 46, 3) := by decide +kernel
theorem dL_law_369 : decode cL_law 369 = .ok (.aload_n 2, 1) := by decide +kernel
theorem dL_law_370 : decode cL_law 370 = .ok (.invokevirtual 49, 3) := by decide +kernel
theorem dL_law_373 : decode cL_law 373 = .ok (.if_icmp .eq 623, 3) := by decide +kernel
theorem dL_law_376 : decode cL_law 376 = .ok (.iconst 0, 1) := by decide +kernel
theorem dL_law_377 : decode cL_law 377 = .ok (.ireturn, 1) := by decide +kernel
theorem dL_law_378 : decode cL_law 378 = .ok (.aload_n 1, 1) := by decide +kernel
theorem dL_law_379 : decode cL_law 379 = .ok (.aload_n 0, 1) := by decide +kernel
theorem dL_law_380 : decode cL_law 380 = .ok (.iload_n 3, 1) := by decide +kernel
theorem dL_law_381 : decode cL_law 381 = .ok (.iconst 1, 1) := by decide +kernel
theorem dL_law_382 : decode cL_law 382 = .ok (.iadd, 1) := by decide +kernel
theorem dL_law_383 : decode cL_law 383 = .ok (.iaload, 1) := by decide +kernel
theorem dL_law_384 : decode cL_law 384 = .ok (.aload_n 0, 1) := by decide +kernel
theorem dL_law_385 : decode cL_law 385 = .ok (.iload_n 3, 1) := by decide +kernel
theorem dL_law_386 : decode cL_law 386 = .ok (.iconst 2, 1) := by decide +kernel
theorem dL_law_387 : decode cL_law 387 = .ok (.iadd, 1) := by decide +kernel
theorem dL_law_388 : decode cL_law 388 = .ok (.iaload, 1) := by decide +kernel
theorem dL_law_389 : decode cL_law 389 = .ok (.invokevirtual 50, 3) := by decide +kernel
theorem dL_law_392 : decode cL_law 392 = .ok (.aload_n 2, 1) := by decide +kernel
theorem dL_law_393 : decode cL_law 393 = .ok (.aload_n 0, 1) := by decide +kernel
theorem dL_law_394 : decode cL_law 394 = .ok (.iload_n 3, 1) := by decide +kernel
theorem dL_law_395 : decode cL_law 395 = .ok (.iconst 1, 1) := by decide +kernel
theorem dL_law_396 : decode cL_law 396 = .ok (.iadd, 1) := by decide +kernel
theorem dL_law_397 : decode cL_law 397 = .ok (.iaload, 1) := by decide +kernel
theorem dL_law_398 : decode cL_law 398 = .ok (.aload_n 0, 1) := by decide +kernel
theorem dL_law_399 : decode cL_law 399 = .ok (.iload_n 3, 1) := by decide +kernel
theorem dL_law_400 : decode cL_law 400 = .ok (.iconst 2, 1) := by decide +kernel
theorem dL_law_401 : decode cL_law 401 = .ok (.iadd, 1) := by decide +kernel
theorem dL_law_402 : decode cL_law 402 = .ok (.iaload, 1) := by decide +kernel
theorem dL_law_403 : decode cL_law 403 = .ok (.invokevirtual 53, 3) := by decide +kernel
theorem dL_law_406 : decode cL_law 406 = .ok (.if_icmp .eq 590, 3) := by decide +kernel
theorem dL_law_409 : decode cL_law 409 = .ok (.iconst 0, 1) := by decide +kernel
theorem dL_law_410 : decode cL_law 410 = .ok (.ireturn, 1) := by decide +kernel
theorem dL_law_411 : decode cL_law 411 = .ok (.aload_n 1, 1) := by decide +kernel
theorem dL_law_412 : decode cL_law 412 = .ok (.aload_n 0, 1) := by decide +kernel
theorem dL_law_413 : decode cL_law 413 = .ok (.iload_n 3, 1) := by decide +kernel
theorem dL_law_414 : decode cL_law 414 = .ok (.iconst 1, 1) := by decide +kernel
theorem dL_law_415 : decode cL_law 415 = .ok (.iadd, 1) := by decide +kernel
theorem dL_law_416 : decode cL_law 416 = .ok (.iaload, 1) := by decide +kernel
theorem dL_law_417 : decode cL_law 417 = .ok (.aload_n 0, 1) := by decide +kernel
theorem dL_law_418 : decode cL_law 418 = .ok (.iload_n 3, 1) := by decide +kernel
theorem dL_law_419 : decode cL_law 419 = .ok (.iconst 2, 1) := by decide +kernel
theorem dL_law_420 : decode cL_law 420 = .ok (.iadd, 1) := by decide +kernel
theorem dL_law_421 : decode cL_law 421 = .ok (.iaload, 1) := by decide +kernel
theorem dL_law_422 : decode cL_law 422 = .ok (.invokevirtual 54, 3) := by decide +kernel
theorem dL_law_425 : decode cL_law 425 = .ok (.aload_n 2, 1) := by decide +kernel
theorem dL_law_426 : decode cL_law 426 = .ok (.aload_n 0, 1) := by decide +kernel
theorem dL_law_427 : decode cL_law 427 = .ok (.iload_n 3, 1) := by decide +kernel
theorem dL_law_428 : decode cL_law 428 = .ok (.iconst 1, 1) := by decide +kernel
theorem dL_law_429 : decode cL_law 429 = .ok (.iadd, 1) := by decide +kernel
theorem dL_law_430 : decode cL_law 430 = .ok (.iaload, 1) := by decide +kernel
theorem dL_law_431 : decode cL_law 431 = .ok (.aload_n 0, 1) := by decide +kernel
theorem dL_law_432 : decode cL_law 432 = .ok (.iload_n 3, 1) := by decide +kernel
theorem dL_law_433 : decode cL_law 433 = .ok (.iconst 2, 1) := by decide +kernel
theorem dL_law_434 : decode cL_law 434 = .ok (.iadd, 1) := by decide +kernel
theorem dL_law_435 : decode cL_law 435 = .ok (.iaload, 1) := by decide +kernel
theorem dL_law_436 : decode cL_law 436 = .ok (.invokevirtual 57, 3) := by decide +kernel
theorem dL_law_439 : decode cL_law 439 = .ok (.if_icmp .eq 557, 3) := by decide +kernel
theorem dL_law_442 : decode cL_law 442 = .ok (.iconst 0, 1) := by decide +kernel
theorem dL_law_443 : decode cL_law 443 = .ok (.ireturn, 1) := by decide +kernel
theorem dL_law_444 : decode cL_law 444 = .ok (.aload_n 1, 1) := by decide +kernel
theorem dL_law_445 : decode cL_law 445 = .ok (.aload_n 0, 1) := by decide +kernel
theorem dL_law_446 : decode cL_law 446 = .ok (.iload_n 3, 1) := by decide +kernel
theorem dL_law_447 : decode cL_law 447 = .ok (.iconst 1, 1) := by decide +kernel
theorem dL_law_448 : decode cL_law 448 = .ok (.iadd, 1) := by decide +kernel
theorem dL_law_449 : decode cL_law 449 = .ok (.iaload, 1) := by decide +kernel
theorem dL_law_450 : decode cL_law 450 = .ok (.aload_n 0, 1) := by decide +kernel
theorem dL_law_451 : decode cL_law 451 = .ok (.iload_n 3, 1) := by decide +kernel
theorem dL_law_452 : decode cL_law 452 = .ok (.iconst 2, 1) := by decide +kernel
theorem dL_law_453 : decode cL_law 453 = .ok (.iadd, 1) := by decide +kernel
theorem dL_law_454 : decode cL_law 454 = .ok (.iaload, 1) := by decide +kernel
theorem dL_law_455 : decode cL_law 455 = .ok (.invokevirtual 58, 3) := by decide +kernel
theorem dL_law_458 : decode cL_law 458 = .ok (.aload_n 2, 1) := by decide +kernel
theorem dL_law_459 : decode cL_law 459 = .ok (.aload_n 0, 1) := by decide +kernel
theorem dL_law_460 : decode cL_law 460 = .ok (.iload_n 3, 1) := by decide +kernel
theorem dL_law_461 : decode cL_law 461 = .ok (.iconst 1, 1) := by decide +kernel
theorem dL_law_462 : decode cL_law 462 = .ok (.iadd, 1) := by decide +kernel
theorem dL_law_463 : decode cL_law 463 = .ok (.iaload, 1) := by decide +kernel
theorem dL_law_464 : decode cL_law 464 = .ok (.aload_n 0, 1) := by decide +kernel
theorem dL_law_465 : decode cL_law 465 = .ok (.iload_n 3, 1) := by decide +kernel
theorem dL_law_466 : decode cL_law 466 = .ok (.iconst 2, 1) := by decide +kernel
theorem dL_law_467 : decode cL_law 467 = .ok (.iadd, 1) := by decide +kernel
theorem dL_law_468 : decode cL_law 468 = .ok (.iaload, 1) := by decide +kernel
theorem dL_law_469 : decode cL_law 469 = .ok (.invokevirtual 61, 3) := by decide +kernel
theorem dL_law_472 : decode cL_law 472 = .ok (.if_icmp .eq 524, 3) := by decide +kernel
theorem dL_law_475 : decode cL_law 475 = .ok (.iconst 0, 1) := by decide +kernel
theorem dL_law_476 : decode cL_law 476 = .ok (.ireturn, 1) := by decide +kernel
theorem dL_law_477 : decode cL_law 477 = .ok (.aload_n 1, 1) := by decide +kernel
theorem dL_law_478 : decode cL_law 478 = .ok (.aload_n 0, 1) := by decide +kernel
theorem dL_law_479 : decode cL_law 479 = .ok (.iload_n 3, 1) := by decide +kernel
theorem dL_law_480 : decode cL_law 480 = .ok (.iconst 1, 1) := by decide +kernel
theorem dL_law_481 : decode cL_law 481 = .ok (.iadd, 1) := by decide +kernel
theorem dL_law_482 : decode cL_law 482 = .ok (.iaload, 1) := by decide +kernel
theorem dL_law_483 : decode cL_law 483 = .ok (.invokevirtual 62, 3) := by decide +kernel
theorem dL_law_486 : decode cL_law 486 = .ok (.aload_n 2, 1) := by decide +kernel
theorem dL_law_487 : decode cL_law 487 = .ok (.aload_n 0, 1) := by decide +kernel
theorem dL_law_488 : decode cL_law 488 = .ok (.iload_n 3, 1) := by decide +kernel
theorem dL_law_489 : decode cL_law 489 = .ok (.iconst 1, 1) := by decide +kernel
theorem dL_law_490 : decode cL_law 490 = .ok (.iadd, 1) := by decide +kernel
theorem dL_law_491 : decode cL_law 491 = .ok (.iaload, 1) := by decide +kernel
theorem dL_law_492 : decode cL_law 492 = .ok (.invokevirtual 65, 3) := by decide +kernel
theorem dL_law_495 : decode cL_law 495 = .ok (.if_icmp .eq 501, 3) := by decide +kernel
theorem dL_law_498 : decode cL_law 498 = .ok (.iconst 0, 1) := by decide +kernel
theorem dL_law_499 : decode cL_law 499 = .ok (.ireturn, 1) := by decide +kernel
theorem dL_law_500 : decode cL_law 500 = .ok (.aload_n 1, 1) := by decide +kernel
theorem dL_law_501 : decode cL_law 501 = .ok (.aload_n 0, 1) := by decide +kernel
theorem dL_law_502 : decode cL_law 502 = .ok (.iload_n 3, 1) := by decide +kernel
theorem dL_law_503 : decode cL_law 503 = .ok (.iconst 1, 1) := by decide +kernel
theorem dL_law_504 : decode cL_law 504 = .ok (.iadd, 1) := by decide +kernel
theorem dL_law_505 : decode cL_law 505 = .ok (.iaload, 1) := by decide +kernel
theorem dL_law_506 : decode cL_law 506 = .ok (.aload_n 0, 1) := by decide +kernel
theorem dL_law_507 : decode cL_law 507 = .ok (.iload_n 3, 1) := by decide +kernel
theorem dL_law_508 : decode cL_law 508 = .ok (.iconst 2, 1) := by decide +kernel
theorem dL_law_509 : decode cL_law 509 = .ok (.iadd, 1) := by decide +kernel
theorem dL_law_510 : decode cL_law 510 = .ok (.iaload, 1) := by decide +kernel
theorem dL_law_511 : decode cL_law 511 = .ok (.invokevirtual 66, 3) := by decide +kernel
theorem dL_law_514 : decode cL_law 514 = .ok (.aload_n 2, 1) := by decide +kernel
theorem dL_law_515 : decode cL_law 515 = .ok (.aload_n 0, 1) := by decide +kernel
theorem dL_law_516 : decode cL_law 516 = .ok (.iload_n 3, 1) := by decide +kernel
theorem dL_law_517 : decode cL_law 517 = .ok (.iconst 1, 1) := by decide +kernel
theorem dL_law_518 : decode cL_law 518 = .ok (.iadd, 1) := by decide +kernel
theorem dL_law_519 : decode cL_law 519 = .ok (.iaload, 1) := by decide +kernel
theorem dL_law_520 : decode cL_law 520 = .ok (.aload_n 0, 1) := by decide +kernel
theorem dL_law_521 : decode cL_law 521 = .ok (.iload_n 3, 1) := by decide +kernel
theorem dL_law_522 : decode cL_law 522 = .ok (.iconst 2, 1) := by decide +kernel
theorem dL_law_523 : decode cL_law 523 = .ok (.iadd, 1) := by decide +kernel
theorem dL_law_524 : decode cL_law 524 = .ok (.iaload, 1) := by decide +kernel
theorem dL_law_525 : decode cL_law 525 = .ok (.invokevirtual 69, 3) := by decide +kernel
theorem dL_law_528 : decode cL_law 528 = .ok (.if_icmp .eq 468, 3) := by decide +kernel
theorem dL_law_531 : decode cL_law 531 = .ok (.iconst 0, 1) := by decide +kernel
theorem dL_law_532 : decode cL_law 532 = .ok (.ireturn, 1) := by decide +kernel
theorem dL_law_533 : decode cL_law 533 = .ok (.aload_n 1, 1) := by decide +kernel
theorem dL_law_534 : decode cL_law 534 = .ok (.invokevirtual 70, 3) := by decide +kernel
theorem dL_law_537 : decode cL_law 537 = .ok (.aload_n 2, 1) := by decide +kernel
theorem dL_law_538 : decode cL_law 538 = .ok (.invokevirtual 73, 3) := by decide +kernel
theorem dL_law_541 : decode cL_law 541 = .ok (.if_icmp .eq 455, 3) := by decide +kernel
theorem dL_law_544 : decode cL_law 544 = .ok (.iconst 0, 1) := by decide +kernel
theorem dL_law_545 : decode cL_law 545 = .ok (.ireturn, 1) := by decide +kernel
theorem dL_law_546 : decode cL_law 546 = .ok (.aload_n 1, 1) := by decide +kernel
theorem dL_law_547 : decode cL_law 547 = .ok (.invokevirtual 74, 3) := by decide +kernel
theorem dL_law_550 : decode cL_law 550 = .ok (.aload_n 2, 1) := by decide +kernel
theorem dL_law_551 : decode cL_law 551 = .ok (.invokevirtual 77, 3) := by decide +kernel
theorem dL_law_554 : decode cL_law 554 = .ok (.if_icmp .eq 442, 3) := by decide +kernel
theorem dL_law_557 : decode cL_law 557 = .ok (.iconst 0, 1) := by decide +kernel
theorem dL_law_558 : decode cL_law 558 = .ok (.ireturn, 1) := by decide +kernel
theorem dL_law_559 : decode cL_law 559 = .ok (.aload_n 1, 1) := by decide +kernel
theorem dL_law_560 : decode cL_law 560 = .ok (.aload_n 0, 1) := by decide +kernel
theorem dL_law_561 : decode cL_law 561 = .ok (.iload_n 3, 1) := by decide +kernel
theorem dL_law_562 : decode cL_law 562 = .ok (.iconst 1, 1) := by decide +kernel
theorem dL_law_563 : decode cL_law 563 = .ok (.iadd, 1) := by decide +kernel
theorem dL_law_564 : decode cL_law 564 = .ok (.iaload, 1) := by decide +kernel
theorem dL_law_565 : decode cL_law 565 = .ok (.aload_n 0, 1) := by decide +kernel
theorem dL_law_566 : decode cL_law 566 = .ok (.iload_n 3, 1) := by decide +kernel
theorem dL_law_567 : decode cL_law 567 = .ok (.iconst 2, 1) := by decide +kernel
theorem dL_law_568 : decode cL_law 568 = .ok (.iadd, 1) := by decide +kernel
theorem dL_law_569 : decode cL_law 569 = .ok (.iaload, 1) := by decide +kernel
theorem dL_law_570 : decode cL_law 570 = .ok (.invokevirtual 78, 3) := by decide +kernel
theorem dL_law_573 : decode cL_law 573 = .ok (.aload_n 2, 1) := by decide +kernel
theorem dL_law_574 : decode cL_law 574 = .ok (.aload_n 0, 1) := by decide +kernel
theorem dL_law_575 : decode cL_law 575 = .ok (.iload_n 3, 1) := by decide +kernel
theorem dL_law_576 : decode cL_law 576 = .ok (.iconst 1, 1) := by decide +kernel
theorem dL_law_577 : decode cL_law 577 = .ok (.iadd, 1) := by decide +kernel
theorem dL_law_578 : decode cL_law 578 = .ok (.iaload, 1) := by decide +kernel
theorem dL_law_579 : decode cL_law 579 = .ok (.aload_n 0, 1) := by decide +kernel
theorem dL_law_580 : decode cL_law 580 = .ok (.iload_n 3, 1) := by decide +kernel
theorem dL_law_581 : decode cL_law 581 = .ok (.iconst 2, 1) := by decide +kernel
theorem dL_law_582 : decode cL_law 582 = .ok (.iadd, 1) := by decide +kernel
theorem dL_law_583 : decode cL_law 583 = .ok (.iaload, 1) := by decide +kernel
theorem dL_law_584 : decode cL_law 584 = .ok (.invokevirtual 81, 3) := by decide +kernel
theorem dL_law_587 : decode cL_law 587 = .ok (.if_icmp .eq 409, 3) := by decide +kernel
theorem dL_law_590 : decode cL_law 590 = .ok (.iconst 0, 1) := by decide +kernel
theorem dL_law_591 : decode cL_law 591 = .ok (.ireturn, 1) := by decide +kernel
theorem dL_law_592 : decode cL_law 592 = .ok (.aload_n 1, 1) := by decide +kernel
theorem dL_law_593 : decode cL_law 593 = .ok (.aload_n 0, 1) := by decide +kernel
theorem dL_law_594 : decode cL_law 594 = .ok (.iload_n 3, 1) := by decide +kernel
theorem dL_law_595 : decode cL_law 595 = .ok (.iconst 1, 1) := by decide +kernel
theorem dL_law_596 : decode cL_law 596 = .ok (.iadd, 1) := by decide +kernel
theorem dL_law_597 : decode cL_law 597 = .ok (.iaload, 1) := by decide +kernel
theorem dL_law_598 : decode cL_law 598 = .ok (.invokevirtual 82, 3) := by decide +kernel
theorem dL_law_601 : decode cL_law 601 = .ok (.aload_n 2, 1) := by decide +kernel
theorem dL_law_602 : decode cL_law 602 = .ok (.aload_n 0, 1) := by decide +kernel
theorem dL_law_603 : decode cL_law 603 = .ok (.iload_n 3, 1) := by decide +kernel
theorem dL_law_604 : decode cL_law 604 = .ok (.iconst 1, 1) := by decide +kernel
theorem dL_law_605 : decode cL_law 605 = .ok (.iadd, 1) := by decide +kernel
theorem dL_law_606 : decode cL_law 606 = .ok (.iaload, 1) := by decide +kernel
theorem dL_law_607 : decode cL_law 607 = .ok (.invokevirtual 85, 3) := by decide +kernel
theorem dL_law_610 : decode cL_law 610 = .ok (.if_icmp .eq 386, 3) := by decide +kernel
theorem dL_law_613 : decode cL_law 613 = .ok (.iconst 0, 1) := by decide +kernel
theorem dL_law_614 : decode cL_law 614 = .ok (.ireturn, 1) := by decide +kernel
theorem dL_law_615 : decode cL_law 615 = .ok (.aload_n 1, 1) := by decide +kernel
theorem dL_law_616 : decode cL_law 616 = .ok (.invokevirtual 86, 3) := by decide +kernel
theorem dL_law_619 : decode cL_law 619 = .ok (.aload_n 2, 1) := by decide +kernel
theorem dL_law_620 : decode cL_law 620 = .ok (.invokevirtual 89, 3) := by decide +kernel
theorem dL_law_623 : decode cL_law 623 = .ok (.if_icmp .eq 373, 3) := by decide +kernel
theorem dL_law_626 : decode cL_law 626 = .ok (.iconst 0, 1) := by decide +kernel
theorem dL_law_627 : decode cL_law 627 = .ok (.ireturn, 1) := by decide +kernel
theorem dL_law_628 : decode cL_law 628 = .ok (.aload_n 1, 1) := by decide +kernel
theorem dL_law_629 : decode cL_law 629 = .ok (.aload_n 0, 1) := by decide +kernel
theorem dL_law_630 : decode cL_law 630 = .ok (.iload_n 3, 1) := by decide +kernel
theorem dL_law_631 : decode cL_law 631 = .ok (.iconst 1, 1) := by decide +kernel
theorem dL_law_632 : decode cL_law 632 = .ok (.iadd, 1) := by decide +kernel
theorem dL_law_633 : decode cL_law 633 = .ok (.iaload, 1) := by decide +kernel
theorem dL_law_634 : decode cL_law 634 = .ok (.aload_n 0, 1) := by decide +kernel
theorem dL_law_635 : decode cL_law 635 = .ok (.iload_n 3, 1) := by decide +kernel
theorem dL_law_636 : decode cL_law 636 = .ok (.iconst 2, 1) := by decide +kernel
theorem dL_law_637 : decode cL_law 637 = .ok (.iadd, 1) := by decide +kernel
theorem dL_law_638 : decode cL_law 638 = .ok (.iaload, 1) := by decide +kernel
theorem dL_law_639 : decode cL_law 639 = .ok (.invokevirtual 90, 3) := by decide +kernel
theorem dL_law_642 : decode cL_law 642 = .ok (.aload_n 2, 1) := by decide +kernel
theorem dL_law_643 : decode cL_law 643 = .ok (.aload_n 0, 1) := by decide +kernel
theorem dL_law_644 : decode cL_law 644 = .ok (.iload_n 3, 1) := by decide +kernel
theorem dL_law_645 : decode cL_law 645 = .ok (.iconst 1, 1) := by decide +kernel
theorem dL_law_646 : decode cL_law 646 = .ok (.iadd, 1) := by decide +kernel
theorem dL_law_647 : decode cL_law 647 = .ok (.iaload, 1) := by decide +kernel
theorem dL_law_648 : decode cL_law 648 = .ok (.aload_n 0, 1) := by decide +kernel
theorem dL_law_649 : decode cL_law 649 = .ok (.iload_n 3, 1) := by decide +kernel
theorem dL_law_650 : decode cL_law 650 = .ok (.iconst 2, 1) := by decide +kernel
theorem dL_law_651 : decode cL_law 651 = .ok (.iadd, 1) := by decide +kernel
theorem dL_law_652 : decode cL_law 652 = .ok (.iaload, 1) := by decide +kernel
theorem dL_law_653 : decode cL_law 653 = .ok (.invokevirtual 93, 3) := by decide +kernel
theorem dL_law_656 : decode cL_law 656 = .ok (.if_icmp .eq 340, 3) := by decide +kernel
theorem dL_law_659 : decode cL_law 659 = .ok (.iconst 0, 1) := by decide +kernel
theorem dL_law_660 : decode cL_law 660 = .ok (.ireturn, 1) := by decide +kernel
theorem dL_law_661 : decode cL_law 661 = .ok (.aload_n 1, 1) := by decide +kernel
theorem dL_law_662 : decode cL_law 662 = .ok (.aload_n 0, 1) := by decide +kernel
theorem dL_law_663 : decode cL_law 663 = .ok (.iload_n 3, 1) := by decide +kernel
theorem dL_law_664 : decode cL_law 664 = .ok (.iconst 1, 1) := by decide +kernel
theorem dL_law_665 : decode cL_law 665 = .ok (.iadd, 1) := by decide +kernel
theorem dL_law_666 : decode cL_law 666 = .ok (.iaload, 1) := by decide +kernel
theorem dL_law_667 : decode cL_law 667 = .ok (.aload_n 0, 1) := by decide +kernel
theorem dL_law_668 : decode cL_law 668 = .ok (.iload_n 3, 1) := by decide +kernel
theorem dL_law_669 : decode cL_law 669 = .ok (.iconst 2, 1) := by decide +kernel
theorem dL_law_670 : decode cL_law 670 = .ok (.iadd, 1) := by decide +kernel
theorem dL_law_671 : decode cL_law 671 = .ok (.iaload, 1) := by decide +kernel
theorem dL_law_672 : decode cL_law 672 = .ok (.invokevirtual 94, 3) := by decide +kernel
theorem dL_law_675 : decode cL_law 675 = .ok (.aload_n 2, 1) := by decide +kernel
theorem dL_law_676 : decode cL_law 676 = .ok (.aload_n 0, 1) := by decide +kernel
theorem dL_law_677 : decode cL_law 677 = .ok (.iload_n 3, 1) := by decide +kernel
theorem dL_law_678 : decode cL_law 678 = .ok (.iconst 1, 1) := by decide +kernel
theorem dL_law_679 : decode cL_law 679 = .ok (.iadd, 1) := by decide +kernel
theorem dL_law_680 : decode cL_law 680 = .ok (.iaload, 1) := by decide +kernel
theorem dL_law_681 : decode cL_law 681 = .ok (.aload_n 0, 1) := by decide +kernel
theorem dL_law_682 : decode cL_law 682 = .ok (.iload_n 3, 1) := by decide +kernel
theorem dL_law_683 : decode cL_law 683 = .ok (.iconst 2, 1) := by decide +kernel
theorem dL_law_684 : decode cL_law 684 = .ok (.iadd, 1) := by decide +kernel
theorem dL_law_685 : decode cL_law 685 = .ok (.iaload, 1) := by decide +kernel
theorem dL_law_686 : decode cL_law 686 = .ok (.invokevirtual 97, 3) := by decide +kernel
theorem dL_law_689 : decode cL_law 689 = .ok (.if_icmp .eq 307, 3) := by decide +kernel
theorem dL_law_692 : decode cL_law 692 = .ok (.iconst 0, 1) := by decide +kernel
theorem dL_law_693 : decode cL_law 693 = .ok (.ireturn, 1) := by decide +kernel
theorem dL_law_694 : decode cL_law 694 = .ok (.aload_n 1, 1) := by decide +kernel
theorem dL_law_695 : decode cL_law 695 = .ok (.aload_n 0, 1) := by decide +kernel
theorem dL_law_696 : decode cL_law 696 = .ok (.iload_n 3, 1) := by decide +kernel
theorem dL_law_697 : decode cL_law 697 = .ok (.iconst 1, 1) := by decide +kernel
theorem dL_law_698 : decode cL_law 698 = .ok (.iadd, 1) := by decide +kernel
theorem dL_law_699 : decode cL_law 699 = .ok (.iaload, 1) := by decide +kernel
theorem dL_law_700 : decode cL_law 700 = .ok (.invokevirtual 98, 3) := by decide +kernel
theorem dL_law_703 : decode cL_law 703 = .ok (.aload_n 2, 1) := by decide +kernel
theorem dL_law_704 : decode cL_law 704 = .ok (.aload_n 0, 1) := by decide +kernel
theorem dL_law_705 : decode cL_law 705 = .ok (.iload_n 3, 1) := by decide +kernel
theorem dL_law_706 : decode cL_law 706 = .ok (.iconst 1, 1) := by decide +kernel
theorem dL_law_707 : decode cL_law 707 = .ok (.iadd, 1) := by decide +kernel
theorem dL_law_708 : decode cL_law 708 = .ok (.iaload, 1) := by decide +kernel
theorem dL_law_709 : decode cL_law 709 = .ok (.invokevirtual 101, 3) := by decide +kernel
theorem dL_law_712 : decode cL_law 712 = .ok (.if_icmp .eq 284, 3) := by decide +kernel
theorem dL_law_715 : decode cL_law 715 = .ok (.iconst 0, 1) := by decide +kernel
theorem dL_law_716 : decode cL_law 716 = .ok (.ireturn, 1) := by decide +kernel
theorem dL_law_717 : decode cL_law 717 = .ok (.aload_n 1, 1) := by decide +kernel
theorem dL_law_718 : decode cL_law 718 = .ok (.aload_n 0, 1) := by decide +kernel
theorem dL_law_719 : decode cL_law 719 = .ok (.iload_n 3, 1) := by decide +kernel
theorem dL_law_720 : decode cL_law 720 = .ok (.iconst 1, 1) := by decide +kernel
theorem dL_law_721 : decode cL_law 721 = .ok (.iadd, 1) := by decide +kernel
theorem dL_law_722 : decode cL_law 722 = .ok (.iaload, 1) := by decide +kernel
theorem dL_law_723 : decode cL_law 723 = .ok (.invokevirtual 102, 3) := by decide +kernel
theorem dL_law_726 : decode cL_law 726 = .ok (.aload_n 2, 1) := by decide +kernel
theorem dL_law_727 : decode cL_law 727 = .ok (.aload_n 0, 1) := by decide +kernel
theorem dL_law_728 : decode cL_law 728 = .ok (.iload_n 3, 1) := by decide +kernel
theorem dL_law_729 : decode cL_law 729 = .ok (.iconst 1, 1) := by decide +kernel
theorem dL_law_730 : decode cL_law 730 = .ok (.iadd, 1) := by decide +kernel
theorem dL_law_731 : decode cL_law 731 = .ok (.iaload, 1) := by decide +kernel
theorem dL_law_732 : decode cL_law 732 = .ok (.invokevirtual 105, 3) := by decide +kernel
theorem dL_law_735 : decode cL_law 735 = .ok (.if_icmp .eq 261, 3) := by decide +kernel
theorem dL_law_738 : decode cL_law 738 = .ok (.iconst 0, 1) := by decide +kernel
theorem dL_law_739 : decode cL_law 739 = .ok (.ireturn, 1) := by decide +kernel
theorem dL_law_740 : decode cL_law 740 = .ok (.aload_n 1, 1) := by decide +kernel
theorem dL_law_741 : decode cL_law 741 = .ok (.invokevirtual 106, 3) := by decide +kernel
theorem dL_law_744 : decode cL_law 744 = .ok (.aload_n 2, 1) := by decide +kernel
theorem dL_law_745 : decode cL_law 745 = .ok (.invokevirtual 109, 3) := by decide +kernel
theorem dL_law_748 : decode cL_law 748 = .ok (.if_icmp .eq 248, 3) := by decide +kernel
theorem dL_law_751 : decode cL_law 751 = .ok (.iconst 0, 1) := by decide +kernel
theorem dL_law_752 : decode cL_law 752 = .ok (.ireturn, 1) := by decide +kernel
theorem dL_law_753 : decode cL_law 753 = .ok (.aload_n 1, 1) := by decide +kernel
theorem dL_law_754 : decode cL_law 754 = .ok (.aload_n 0, 1) := by decide +kernel
theorem dL_law_755 : decode cL_law 755 = .ok (.iload_n 3, 1) := by decide +kernel
theorem dL_law_756 : decode cL_law 756 = .ok (.iconst 1, 1) := by decide +kernel
theorem dL_law_757 : decode cL_law 757 = .ok (.iadd, 1) := by decide +kernel
theorem dL_law_758 : decode cL_law 758 = .ok (.iaload, 1) := by decide +kernel
theorem dL_law_759 : decode cL_law 759 = .ok (.invokevirtual 110, 3) := by decide +kernel
theorem dL_law_762 : decode cL_law 762 = .ok (.aload_n 2, 1) := by decide +kernel
theorem dL_law_763 : decode cL_law 763 = .ok (.aload_n 0, 1) := by decide +kernel
theorem dL_law_764 : decode cL_law 764 = .ok (.iload_n 3, 1) := by decide +kernel
theorem dL_law_765 : decode cL_law 765 = .ok (.iconst 1, 1) := by decide +kernel
theorem dL_law_766 : decode cL_law 766 = .ok (.iadd, 1) := by decide +kernel
theorem dL_law_767 : decode cL_law 767 = .ok (.iaload, 1) := by decide +kernel
theorem dL_law_768 : decode cL_law 768 = .ok (.invokevirtual 113, 3) := by decide +kernel
theorem dL_law_771 : decode cL_law 771 = .ok (.if_icmp .eq 225, 3) := by decide +kernel
theorem dL_law_774 : decode cL_law 774 = .ok (.iconst 0, 1) := by decide +kernel
theorem dL_law_775 : decode cL_law 775 = .ok (.ireturn, 1) := by decide +kernel
theorem dL_law_776 : decode cL_law 776 = .ok (.aload_n 1, 1) := by decide +kernel
theorem dL_law_777 : decode cL_law 777 = .ok (.invokevirtual 114, 3) := by decide +kernel
theorem dL_law_780 : decode cL_law 780 = .ok (.aload_n 2, 1) := by decide +kernel
theorem dL_law_781 : decode cL_law 781 = .ok (.invokevirtual 117, 3) := by decide +kernel
theorem dL_law_784 : decode cL_law 784 = .ok (.if_icmp .eq 212, 3) := by decide +kernel
theorem dL_law_787 : decode cL_law 787 = .ok (.iconst 0, 1) := by decide +kernel
theorem dL_law_788 : decode cL_law 788 = .ok (.ireturn, 1) := by decide +kernel
theorem dL_law_789 : decode cL_law 789 = .ok (.aload_n 1, 1) := by decide +kernel
theorem dL_law_790 : decode cL_law 790 = .ok (.aload_n 0, 1) := by decide +kernel
theorem dL_law_791 : decode cL_law 791 = .ok (.iload_n 3, 1) := by decide +kernel
theorem dL_law_792 : decode cL_law 792 = .ok (.iconst 1, 1) := by decide +kernel
theorem dL_law_793 : decode cL_law 793 = .ok (.iadd, 1) := by decide +kernel
theorem dL_law_794 : decode cL_law 794 = .ok (.iaload, 1) := by decide +kernel
theorem dL_law_795 : decode cL_law 795 = .ok (.invokevirtual 118, 3) := by decide +kernel
theorem dL_law_798 : decode cL_law 798 = .ok (.aload_n 2, 1) := by decide +kernel
theorem dL_law_799 : decode cL_law 799 = .ok (.aload_n 0, 1) := by decide +kernel
theorem dL_law_800 : decode cL_law 800 = .ok (.iload_n 3, 1) := by decide +kernel
theorem dL_law_801 : decode cL_law 801 = .ok (.iconst 1, 1) := by decide +kernel
theorem dL_law_802 : decode cL_law 802 = .ok (.iadd, 1) := by decide +kernel
theorem dL_law_803 : decode cL_law 803 = .ok (.iaload, 1) := by decide +kernel
theorem dL_law_804 : decode cL_law 804 = .ok (.invokevirtual 121, 3) := by decide +kernel
theorem dL_law_807 : decode cL_law 807 = .ok (.if_icmp .eq 189, 3) := by decide +kernel
theorem dL_law_810 : decode cL_law 810 = .ok (.iconst 0, 1) := by decide +kernel
theorem dL_law_811 : decode cL_law 811 = .ok (.ireturn, 1) := by decide +kernel
theorem dL_law_812 : decode cL_law 812 = .ok (.aload_n 1, 1) := by decide +kernel
theorem dL_law_813 : decode cL_law 813 = .ok (.invokevirtual 122, 3) := by decide +kernel
theorem dL_law_816 : decode cL_law 816 = .ok (.aload_n 2, 1) := by decide +kernel
theorem dL_law_817 : decode cL_law 817 = .ok (.invokevirtual 125, 3) := by decide +kernel
theorem dL_law_820 : decode cL_law 820 = .ok (.if_icmp .eq 176, 3) := by decide +kernel
theorem dL_law_823 : decode cL_law 823 = .ok (.iconst 0, 1) := by decide +kernel
theorem dL_law_824 : decode cL_law 824 = .ok (.ireturn, 1) := by decide +kernel
theorem dL_law_825 : decode cL_law 825 = .ok (.aload_n 1, 1) := by decide +kernel
theorem dL_law_826 : decode cL_law 826 = .ok (.aload_n 0, 1) := by decide +kernel
theorem dL_law_827 : decode cL_law 827 = .ok (.iload_n 3, 1) := by decide +kernel
theorem dL_law_828 : decode cL_law 828 = .ok (.iconst 1, 1) := by decide +kernel
theorem dL_law_829 : decode cL_law 829 = .ok (.iadd, 1) := by decide +kernel
theorem dL_law_830 : decode cL_law 830 = .ok (.iaload, 1) := by decide +kernel
theorem dL_law_831 : decode cL_law 831 = .ok (.aload_n 0, 1) := by decide +kernel
theorem dL_law_832 : decode cL_law 832 = .ok (.iload_n 3, 1) := by decide +kernel
theorem dL_law_833 : decode cL_law 833 = .ok (.iconst 2, 1) := by decide +kernel
theorem dL_law_834 : decode cL_law 834 = .ok (.iadd, 1) := by decide +kernel
theorem dL_law_835 : decode cL_law 835 = .ok (.iaload, 1) := by decide +kernel
theorem dL_law_836 : decode cL_law 836 = .ok (.invokevirtual 126, 3) := by decide +kernel
theorem dL_law_839 : decode cL_law 839 = .ok (.aload_n 2, 1) := by decide +kernel
theorem dL_law_840 : decode cL_law 840 = .ok (.aload_n 0, 1) := by decide +kernel
theorem dL_law_841 : decode cL_law 841 = .ok (.iload_n 3, 1) := by decide +kernel
theorem dL_law_842 : decode cL_law 842 = .ok (.iconst 1, 1) := by decide +kernel
theorem dL_law_843 : decode cL_law 843 = .ok (.iadd, 1) := by decide +kernel
theorem dL_law_844 : decode cL_law 844 = .ok (.iaload, 1) := by decide +kernel
theorem dL_law_845 : decode cL_law 845 = .ok (.aload_n 0, 1) := by decide +kernel
theorem dL_law_846 : decode cL_law 846 = .ok (.iload_n 3, 1) := by decide +kernel
theorem dL_law_847 : decode cL_law 847 = .ok (.iconst 2, 1) := by decide +kernel
theorem dL_law_848 : decode cL_law 848 = .ok (.iadd, 1) := by decide +kernel
theorem dL_law_849 : decode cL_law 849 = .ok (.iaload, 1) := by decide +kernel
theorem dL_law_850 : decode cL_law 850 = .ok (.invokevirtual 129, 3) := by decide +kernel
theorem dL_law_853 : decode cL_law 853 = .ok (.if_icmp .eq 143, 3) := by decide +kernel
theorem dL_law_856 : decode cL_law 856 = .ok (.iconst 0, 1) := by decide +kernel
theorem dL_law_857 : decode cL_law 857 = .ok (.ireturn, 1) := by decide +kernel
theorem dL_law_858 : decode cL_law 858 = .ok (.aload_n 1, 1) := by decide +kernel
theorem dL_law_859 : decode cL_law 859 = .ok (.aload_n 0, 1) := by decide +kernel
theorem dL_law_860 : decode cL_law 860 = .ok (.iload_n 3, 1) := by decide +kernel
theorem dL_law_861 : decode cL_law 861 = .ok (.iconst 1, 1) := by decide +kernel
theorem dL_law_862 : decode cL_law 862 = .ok (.iadd, 1) := by decide +kernel
theorem dL_law_863 : decode cL_law 863 = .ok (.iaload, 1) := by decide +kernel
theorem dL_law_864 : decode cL_law 864 = .ok (.invokevirtual 130, 3) := by decide +kernel
theorem dL_law_867 : decode cL_law 867 = .ok (.aload_n 2, 1) := by decide +kernel
theorem dL_law_868 : decode cL_law 868 = .ok (.aload_n 0, 1) := by decide +kernel
theorem dL_law_869 : decode cL_law 869 = .ok (.iload_n 3, 1) := by decide +kernel
theorem dL_law_870 : decode cL_law 870 = .ok (.iconst 1, 1) := by decide +kernel
theorem dL_law_871 : decode cL_law 871 = .ok (.iadd, 1) := by decide +kernel
theorem dL_law_872 : decode cL_law 872 = .ok (.iaload, 1) := by decide +kernel
theorem dL_law_873 : decode cL_law 873 = .ok (.invokevirtual 133, 3) := by decide +kernel
theorem dL_law_876 : decode cL_law 876 = .ok (.if_icmp .eq 120, 3) := by decide +kernel
theorem dL_law_879 : decode cL_law 879 = .ok (.iconst 0, 1) := by decide +kernel
theorem dL_law_880 : decode cL_law 880 = .ok (.ireturn, 1) := by decide +kernel
theorem dL_law_881 : decode cL_law 881 = .ok (.aload_n 1, 1) := by decide +kernel
theorem dL_law_882 : decode cL_law 882 = .ok (.aload_n 0, 1) := by decide +kernel
theorem dL_law_883 : decode cL_law 883 = .ok (.iload_n 3, 1) := by decide +kernel
theorem dL_law_884 : decode cL_law 884 = .ok (.iconst 1, 1) := by decide +kernel
theorem dL_law_885 : decode cL_law 885 = .ok (.iadd, 1) := by decide +kernel
theorem dL_law_886 : decode cL_law 886 = .ok (.iaload, 1) := by decide +kernel
theorem dL_law_887 : decode cL_law 887 = .ok (.invokevirtual 134, 3) := by decide +kernel
theorem dL_law_890 : decode cL_law 890 = .ok (.aload_n 2, 1) := by decide +kernel
theorem dL_law_891 : decode cL_law 891 = .ok (.aload_n 0, 1) := by decide +kernel
theorem dL_law_892 : decode cL_law 892 = .ok (.iload_n 3, 1) := by decide +kernel
theorem dL_law_893 : decode cL_law 893 = .ok (.iconst 1, 1) := by decide +kernel
theorem dL_law_894 : decode cL_law 894 = .ok (.iadd, 1) := by decide +kernel
theorem dL_law_895 : decode cL_law 895 = .ok (.iaload, 1) := by decide +kernel
theorem dL_law_896 : decode cL_law 896 = .ok (.invokevirtual 137, 3) := by decide +kernel
theorem dL_law_899 : decode cL_law 899 = .ok (.if_icmp .eq 97, 3) := by decide +kernel
theorem dL_law_902 : decode cL_law 902 = .ok (.iconst 0, 1) := by decide +kernel
theorem dL_law_903 : decode cL_law 903 = .ok (.ireturn, 1) := by decide +kernel
theorem dL_law_904 : decode cL_law 904 = .ok (.aload_n 1, 1) := by decide +kernel
theorem dL_law_905 : decode cL_law 905 = .ok (.aload_n 0, 1) := by decide +kernel
theorem dL_law_906 : decode cL_law 906 = .ok (.iload_n 3, 1) := by decide +kernel
theorem dL_law_907 : decode cL_law 907 = .ok (.iconst 1, 1) := by decide +kernel
theorem dL_law_908 : decode cL_law 908 = .ok (.iadd, 1) := by decide +kernel
theorem dL_law_909 : decode cL_law 909 = .ok (.iaload, 1) := by decide +kernel
theorem dL_law_910 : decode cL_law 910 = .ok (.aload_n 0, 1) := by decide +kernel
theorem dL_law_911 : decode cL_law 911 = .ok (.iload_n 3, 1) := by decide +kernel
theorem dL_law_912 : decode cL_law 912 = .ok (.iconst 2, 1) := by decide +kernel
theorem dL_law_913 : decode cL_law 913 = .ok (.iadd, 1) := by decide +kernel
theorem dL_law_914 : decode cL_law 914 = .ok (.iaload, 1) := by decide +kernel
theorem dL_law_915 : decode cL_law 915 = .ok (.invokevirtual 138, 3) := by decide +kernel
theorem dL_law_918 : decode cL_law 918 = .ok (.aload_n 2, 1) := by decide +kernel
theorem dL_law_919 : decode cL_law 919 = .ok (.aload_n 0, 1) := by decide +kernel
theorem dL_law_920 : decode cL_law 920 = .ok (.iload_n 3, 1) := by decide +kernel
theorem dL_law_921 : decode cL_law 921 = .ok (.iconst 1, 1) := by decide +kernel
theorem dL_law_922 : decode cL_law 922 = .ok (.iadd, 1) := by decide +kernel
theorem dL_law_923 : decode cL_law 923 = .ok (.iaload, 1) := by decide +kernel
theorem dL_law_924 : decode cL_law 924 = .ok (.aload_n 0, 1) := by decide +kernel
theorem dL_law_925 : decode cL_law 925 = .ok (.iload_n 3, 1) := by decide +kernel
theorem dL_law_926 : decode cL_law 926 = .ok (.iconst 2, 1) := by decide +kernel
theorem dL_law_927 : decode cL_law 927 = .ok (.iadd, 1) := by decide +kernel
theorem dL_law_928 : decode cL_law 928 = .ok (.iaload, 1) := by decide +kernel
theorem dL_law_929 : decode cL_law 929 = .ok (.invokevirtual 141, 3) := by decide +kernel
theorem dL_law_932 : decode cL_law 932 = .ok (.if_icmp .eq 64, 3) := by decide +kernel
theorem dL_law_935 : decode cL_law 935 = .ok (.iconst 0, 1) := by decide +kernel
theorem dL_law_936 : decode cL_law 936 = .ok (.ireturn, 1) := by decide +kernel
theorem dL_law_937 : decode cL_law 937 = .ok (.aload_n 1, 1) := by decide +kernel
theorem dL_law_938 : decode cL_law 938 = .ok (.invokevirtual 142, 3) := by decide +kernel
theorem dL_law_941 : decode cL_law 941 = .ok (.aload_n 2, 1) := by decide +kernel
theorem dL_law_942 : decode cL_law 942 = .ok (.invokevirtual 145, 3) := by decide +kernel
theorem dL_law_945 : decode cL_law 945 = .ok (.if_icmp .eq 51, 3) := by decide +kernel
theorem dL_law_948 : decode cL_law 948 = .ok (.iconst 0, 1) := by decide +kernel
theorem dL_law_949 : decode cL_law 949 = .ok (.ireturn, 1) := by decide +kernel
theorem dL_law_950 : decode cL_law 950 = .ok (.aload_n 1, 1) := by decide +kernel
theorem dL_law_951 : decode cL_law 951 = .ok (.aload_n 0, 1) := by decide +kernel
theorem dL_law_952 : decode cL_law 952 = .ok (.iload_n 3, 1) := by decide +kernel
theorem dL_law_953 : decode cL_law 953 = .ok (.iconst 1, 1) := by decide +kernel
theorem dL_law_954 : decode cL_law 954 = .ok (.iadd, 1) := by decide +kernel
theorem dL_law_955 : decode cL_law 955 = .ok (.iaload, 1) := by decide +kernel
theorem dL_law_956 : decode cL_law 956 = .ok (.invokevirtual 146, 3) := by decide +kernel
theorem dL_law_959 : decode cL_law 959 = .ok (.aload_n 2, 1) := by decide +kernel
theorem dL_law_960 : decode cL_law 960 = .ok (.aload_n 0, 1) := by decide +kernel
theorem dL_law_961 : decode cL_law 961 = .ok (.iload_n 3, 1) := by decide +kernel
theorem dL_law_962 : decode cL_law 962 = .ok (.iconst 1, 1) := by decide +kernel
theorem dL_law_963 : decode cL_law 963 = .ok (.iadd, 1) := by decide +kernel
theorem dL_law_964 : decode cL_law 964 = .ok (.iaload, 1) := by decide +kernel
theorem dL_law_965 : decode cL_law 965 = .ok (.invokevirtual 149, 3) := by decide +kernel
theorem dL_law_968 : decode cL_law 968 = .ok (.if_icmp .eq 28, 3) := by decide +kernel
theorem dL_law_971 : decode cL_law 971 = .ok (.iconst 0, 1) := by decide +kernel
theorem dL_law_972 : decode cL_law 972 = .ok (.ireturn, 1) := by decide +kernel
theorem dL_law_973 : decode cL_law 973 = .ok (.aload_n 1, 1) := by decide +kernel
theorem dL_law_974 : decode cL_law 974 = .ok (.aload_n 0, 1) := by decide +kernel
theorem dL_law_975 : decode cL_law 975 = .ok (.iload_n 3, 1) := by decide +kernel
theorem dL_law_976 : decode cL_law 976 = .ok (.iconst 1, 1) := by decide +kernel
theorem dL_law_977 : decode cL_law 977 = .ok (.iadd, 1) := by decide +kernel
theorem dL_law_978 : decode cL_law 978 = .ok (.iaload, 1) := by decide +kernel
theorem dL_law_979 : decode cL_law 979 = .ok (.invokevirtual 150, 3) := by decide +kernel
theorem dL_law_982 : decode cL_law 982 = .ok (.aload_n 2, 1) := by decide +kernel
theorem dL_law_983 : decode cL_law 983 = .ok (.aload_n 0, 1) := by decide +kernel
theorem dL_law_984 : decode cL_law 984 = .ok (.iload_n 3, 1) := by decide +kernel
theorem dL_law_985 : decode cL_law 985 = .ok (.iconst 1, 1) := by decide +kernel
theorem dL_law_986 : decode cL_law 986 = .ok (.iadd, 1) := by decide +kernel
theorem dL_law_987 : decode cL_law 987 = .ok (.iaload, 1) := by decide +kernel
theorem dL_law_988 : decode cL_law 988 = .ok (.invokevirtual 153, 3) := by decide +kernel
theorem dL_law_991 : decode cL_law 991 = .ok (.if_icmp .eq 5, 3) := by decide +kernel
theorem dL_law_994 : decode cL_law 994 = .ok (.iconst 0, 1) := by decide +kernel
theorem dL_law_995 : decode cL_law 995 = .ok (.ireturn, 1) := by decide +kernel
theorem dL_law_996 : decode cL_law 996 = .ok (.iinc 3 6, 3) := by decide +kernel
theorem dL_law_999 : decode cL_law 999 = .ok (.goto (-981), 3) := by decide +kernel
theorem dL_law_1002 : decode cL_law 1002 = .ok (.iconst 1, 1) := by decide +kernel
theorem dL_law_1003 : decode cL_law 1003 = .ok (.ireturn, 1) := by decide +kernel
