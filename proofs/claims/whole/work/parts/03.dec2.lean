theorem dX11_mean_88 : decode cX11_mean 88 = .ok (.ifCond .eq 13, 3) := by decide +kernel
theorem dX11_mean_91 : decode cX11_mean 91 = .ok (.aload_n 0, 1) := by decide +kernel
theorem dX11_mean_92 : decode cX11_mean 92 = .ok (.getfield 141, 3) := by decide +kernel
theorem dX11_mean_95 : decode cX11_mean 95 = .ok (.iload 4, 2) := by decide +kernel
theorem dX11_mean_97 : decode cX11_mean 97 = .ok (.idiv, 1) := by decide +kernel
theorem dX11_mean_98 : decode cX11_mean 98 = .ok (.goto 7, 3) := by decide +kernel
theorem dX11_mean_101 : decode cX11_mean 101 = .ok (.iload_n 3, 1) := by decide +kernel
theorem dX11_mean_102 : decode cX11_mean 102 = .ok (.iload 4, 2) := by decide +kernel
theorem dX11_mean_104 : decode cX11_mean 104 = .ok (.idiv, 1) := by decide +kernel
theorem dX11_mean_105 : decode cX11_mean 105 = .ok (.ireturn, 1) := by decide +kernel
theorem dX11_mass_0 : decode cX11_mass 0 = .ok (.aload_n 0, 1) := by decide +kernel
theorem dX11_mass_1 : decode cX11_mass 1 = .ok (.iload_n 1, 1) := by decide +kernel
theorem dX11_mass_2 : decode cX11_mass 2 = .ok (.invokevirtual 95, 3) := by decide +kernel
theorem dX11_mass_5 : decode cX11_mass 5 = .ok (.ifCond .eq 11, 3) := by decide +kernel
theorem dX11_mass_8 : decode cX11_mass 8 = .ok (.aload_n 0, 1) := by decide +kernel
theorem dX11_mass_9 : decode cX11_mass 9 = .ok (.iload_n 1, 1) := by decide +kernel
theorem dX11_mass_10 : decode cX11_mass 10 = .ok (.invokevirtual 212, 3) := by decide +kernel
theorem dX11_mass_13 : decode cX11_mass 13 = .ok (.goto 4, 3) := by decide +kernel
theorem dX11_mass_16 : decode cX11_mass 16 = .ok (.iconst (-1), 1) := by decide +kernel
theorem dX11_mass_17 : decode cX11_mass 17 = .ok (.ireturn, 1) := by decide +kernel
theorem dX11_inner_0 : decode cX11_inner 0 = .ok (.aload_n 0, 1) := by decide +kernel
theorem dX11_inner_1 : decode cX11_inner 1 = .ok (.iload_n 1, 1) := by decide +kernel
theorem dX11_inner_2 : decode cX11_inner 2 = .ok (.invokevirtual 95, 3) := by decide +kernel
theorem dX11_inner_5 : decode cX11_inner 5 = .ok (.ifCond .ne 5, 3) := by decide +kernel
theorem dX11_inner_8 : decode cX11_inner 8 = .ok (.iconst (-1), 1) := by decide +kernel
theorem dX11_inner_9 : decode cX11_inner 9 = .ok (.ireturn, 1) := by decide +kernel
theorem dX11_inner_10 : decode cX11_inner 10 = .ok (.aload_n 0, 1) := by decide +kernel
theorem dX11_inner_11 : decode cX11_inner 11 = .ok (.invokevirtual 135, 3) := by decide +kernel
theorem dX11_inner_14 : decode cX11_inner 14 = .ok (.aload_n 0, 1) := by decide +kernel
theorem dX11_inner_15 : decode cX11_inner 15 = .ok (.iload_n 1, 1) := by decide +kernel
theorem dX11_inner_16 : decode cX11_inner 16 = .ok (.iconst 0, 1) := by decide +kernel
theorem dX11_inner_17 : decode cX11_inner 17 = .ok (.invokevirtual 163, 3) := by decide +kernel
theorem dX11_inner_20 : decode cX11_inner 20 = .ok (.ireturn, 1) := by decide +kernel
theorem dX11_hull_0 : decode cX11_hull 0 = .ok (.aload_n 0, 1) := by decide +kernel
theorem dX11_hull_1 : decode cX11_hull 1 = .ok (.iload_n 1, 1) := by decide +kernel
theorem dX11_hull_2 : decode cX11_hull 2 = .ok (.invokevirtual 95, 3) := by decide +kernel
theorem dX11_hull_5 : decode cX11_hull 5 = .ok (.ifCond .ne 5, 3) := by decide +kernel
theorem dX11_hull_8 : decode cX11_hull 8 = .ok (.iconst (-1), 1) := by decide +kernel
theorem dX11_hull_9 : decode cX11_hull 9 = .ok (.ireturn, 1) := by decide +kernel
theorem dX11_hull_10 : decode cX11_hull 10 = .ok (.aload_n 0, 1) := by decide +kernel
theorem dX11_hull_11 : decode cX11_hull 11 = .ok (.invokevirtual 135, 3) := by decide +kernel
theorem dX11_hull_14 : decode cX11_hull 14 = .ok (.aload_n 0, 1) := by decide +kernel
theorem dX11_hull_15 : decode cX11_hull 15 = .ok (.invokevirtual 88, 3) := by decide +kernel
theorem dX11_hull_18 : decode cX11_hull 18 = .ok (.istore_n 2, 1) := by decide +kernel
theorem dX11_hull_19 : decode cX11_hull 19 = .ok (.iconst 0, 1) := by decide +kernel
theorem dX11_hull_20 : decode cX11_hull 20 = .ok (.istore_n 3, 1) := by decide +kernel
theorem dX11_hull_21 : decode cX11_hull 21 = .ok (.iload_n 3, 1) := by decide +kernel
theorem dX11_hull_22 : decode cX11_hull 22 = .ok (.aload_n 0, 1) := by decide +kernel
theorem dX11_hull_23 : decode cX11_hull 23 = .ok (.getfield 141, 3) := by decide +kernel
theorem dX11_hull_26 : decode cX11_hull 26 = .ok (.if_icmp .ge 31, 3) := by decide +kernel
theorem dX11_hull_29 : decode cX11_hull 29 = .ok (.iload_n 1, 1) := by decide +kernel
theorem dX11_hull_30 : decode cX11_hull 30 = .ok (.aload_n 0, 1) := by decide +kernel
theorem dX11_hull_31 : decode cX11_hull 31 = .ok (.getfield 30, 3) := by decide +kernel
theorem dX11_hull_34 : decode cX11_hull 34 = .ok (.iload_n 3, 1) := by decide +kernel
theorem dX11_hull_35 : decode cX11_hull 35 = .ok (.iaload, 1) := by decide +kernel
theorem dX11_hull_36 : decode cX11_hull 36 = .ok (.invokestatic 160, 3) := by decide +kernel
theorem dX11_hull_39 : decode cX11_hull 39 = .ok (.ifCond .eq 12, 3) := by decide +kernel
theorem dX11_hull_42 : decode cX11_hull 42 = .ok (.iload_n 2, 1) := by decide +kernel
theorem dX11_hull_43 : decode cX11_hull 43 = .ok (.aload_n 0, 1) := by decide +kernel
theorem dX11_hull_44 : decode cX11_hull 44 = .ok (.getfield 30, 3) := by decide +kernel
theorem dX11_hull_47 : decode cX11_hull 47 = .ok (.iload_n 3, 1) := by decide +kernel
theorem dX11_hull_48 : decode cX11_hull 48 = .ok (.iaload, 1) := by decide +kernel
theorem dX11_hull_49 : decode cX11_hull 49 = .ok (.iand, 1) := by decide +kernel
theorem dX11_hull_50 : decode cX11_hull 50 = .ok (.istore_n 2, 1) := by decide +kernel
theorem dX11_hull_51 : decode cX11_hull 51 = .ok (.iinc 3 1, 3) := by decide +kernel
theorem dX11_hull_54 : decode cX11_hull 54 = .ok (.goto (-33), 3) := by decide +kernel
theorem dX11_hull_57 : decode cX11_hull 57 = .ok (.iload_n 2, 1) := by decide +kernel
theorem dX11_hull_58 : decode cX11_hull 58 = .ok (.ireturn, 1) := by decide +kernel
theorem dX11_trace_0 : decode cX11_trace 0 = .ok (.aload_n 0, 1) := by decide +kernel
theorem dX11_trace_1 : decode cX11_trace 1 = .ok (.iload_n 1, 1) := by decide +kernel
theorem dX11_trace_2 : decode cX11_trace 2 = .ok (.invokevirtual 95, 3) := by decide +kernel
theorem dX11_trace_5 : decode cX11_trace 5 = .ok (.ifCond .eq 8, 3) := by decide +kernel
theorem dX11_trace_8 : decode cX11_trace 8 = .ok (.iload_n 2, 1) := by decide +kernel
theorem dX11_trace_9 : decode cX11_trace 9 = .ok (.iconst (-1), 1) := by decide +kernel
theorem dX11_trace_10 : decode cX11_trace 10 = .ok (.if_icmp .ge 5, 3) := by decide +kernel
theorem dX11_trace_13 : decode cX11_trace 13 = .ok (.iconst (-1), 1) := by decide +kernel
theorem dX11_trace_14 : decode cX11_trace 14 = .ok (.ireturn, 1) := by decide +kernel
theorem dX11_trace_15 : decode cX11_trace 15 = .ok (.aload_n 0, 1) := by decide +kernel
theorem dX11_trace_16 : decode cX11_trace 16 = .ok (.invokevirtual 135, 3) := by decide +kernel
theorem dX11_trace_19 : decode cX11_trace 19 = .ok (.aload_n 0, 1) := by decide +kernel
theorem dX11_trace_20 : decode cX11_trace 20 = .ok (.iload_n 1, 1) := by decide +kernel
theorem dX11_trace_21 : decode cX11_trace 21 = .ok (.invokevirtual 203, 3) := by decide +kernel
theorem dX11_trace_24 : decode cX11_trace 24 = .ok (.istore_n 3, 1) := by decide +kernel
theorem dX11_trace_25 : decode cX11_trace 25 = .ok (.iload_n 2, 1) := by decide +kernel
theorem dX11_trace_26 : decode cX11_trace 26 = .ok (.iconst (-1), 1) := by decide +kernel
theorem dX11_trace_27 : decode cX11_trace 27 = .ok (.if_icmp .ne 5, 3) := by decide +kernel
theorem dX11_trace_30 : decode cX11_trace 30 = .ok (.iload_n 3, 1) := by decide +kernel
theorem dX11_trace_31 : decode cX11_trace 31 = .ok (.ireturn, 1) := by decide +kernel
theorem dX11_trace_32 : decode cX11_trace 32 = .ok (.iload_n 2, 1) := by decide +kernel
theorem dX11_trace_33 : decode cX11_trace 33 = .ok (.istore 4, 2) := by decide +kernel
theorem dX11_trace_35 : decode cX11_trace 35 = .ok (.iconst 0, 1) := by decide +kernel
theorem dX11_trace_36 : decode cX11_trace 36 = .ok (.istore 5, 2) := by decide +kernel
theorem dX11_trace_38 : decode cX11_trace 38 = .ok (.iload 5, 2) := by decide +kernel
theorem dX11_trace_40 : decode cX11_trace 40 = .ok (.bipush 7, 2) := by decide +kernel
theorem dX11_trace_42 : decode cX11_trace 42 = .ok (.if_icmp .gt 60, 3) := by decide +kernel
theorem dX11_trace_45 : decode cX11_trace 45 = .ok (.iconst 0, 1) := by decide +kernel
theorem dX11_trace_46 : decode cX11_trace 46 = .ok (.istore 6, 2) := by decide +kernel
theorem dX11_trace_48 : decode cX11_trace 48 = .ok (.iload 6, 2) := by decide +kernel
theorem dX11_trace_50 : decode cX11_trace 50 = .ok (.sipush 128, 3) := by decide +kernel
theorem dX11_trace_53 : decode cX11_trace 53 = .ok (.if_icmp .ge 43, 3) := by decide +kernel
theorem dX11_trace_56 : decode cX11_trace 56 = .ok (.aload_n 0, 1) := by decide +kernel
theorem dX11_trace_57 : decode cX11_trace 57 = .ok (.getfield 54, 3) := by decide +kernel
theorem dX11_trace_60 : decode cX11_trace 60 = .ok (.iload 6, 2) := by decide +kernel
theorem dX11_trace_62 : decode cX11_trace 62 = .ok (.baload, 1) := by decide +kernel
theorem dX11_trace_63 : decode cX11_trace 63 = .ok (.ifCond .eq 27, 3) := by decide +kernel
theorem dX11_trace_66 : decode cX11_trace 66 = .ok (.iload 6, 2) := by decide +kernel
theorem dX11_trace_68 : decode cX11_trace 68 = .ok (.invokestatic 157, 3) := by decide +kernel
theorem dX11_trace_71 : decode cX11_trace 71 = .ok (.iload 5, 2) := by decide +kernel
theorem dX11_trace_73 : decode cX11_trace 73 = .ok (.if_icmp .eq 6, 3) := by decide +kernel
theorem dX11_trace_76 : decode cX11_trace 76 = .ok (.goto 14, 3) := by decide +kernel
theorem dX11_trace_79 : decode cX11_trace 79 = .ok (.iload 4, 2) := by decide +kernel
theorem dX11_trace_81 : decode cX11_trace 81 = .ok (.ifCond .ne 6, 3) := by decide +kernel
theorem dX11_trace_84 : decode cX11_trace 84 = .ok (.iload 6, 2) := by decide +kernel
theorem dX11_trace_86 : decode cX11_trace 86 = .ok (.ireturn, 1) := by decide +kernel
theorem dX11_trace_87 : decode cX11_trace 87 = .ok (.iinc 4 (-1), 3) := by decide +kernel
theorem dX11_trace_90 : decode cX11_trace 90 = .ok (.iinc 6 1, 3) := by decide +kernel
theorem dX11_trace_93 : decode cX11_trace 93 = .ok (.goto (-45), 3) := by decide +kernel
theorem dX11_trace_96 : decode cX11_trace 96 = .ok (.iinc 5 1, 3) := by decide +kernel
theorem dX11_trace_99 : decode cX11_trace 99 = .ok (.goto (-61), 3) := by decide +kernel
theorem dX11_trace_102 : decode cX11_trace 102 = .ok (.bipush (-2), 2) := by decide +kernel
theorem dX11_trace_104 : decode cX11_trace 104 = .ok (.ireturn, 1) := by decide +kernel
theorem dX11_isClosed_0 : decode cX11_isClosed 0 = .ok (.iconst 0, 1) := by decide +kernel
theorem dX11_isClosed_1 : decode cX11_isClosed 1 = .ok (.istore_n 3, 1) := by decide +kernel
theorem dX11_isClosed_2 : decode cX11_isClosed 2 = .ok (.iload_n 3, 1) := by decide +kernel
theorem dX11_isClosed_3 : decode cX11_isClosed 3 = .ok (.aload_n 0, 1) := by decide +kernel
theorem dX11_isClosed_4 : decode cX11_isClosed 4 = .ok (.getfield 141, 3) := by decide +kernel
theorem dX11_isClosed_7 : decode cX11_isClosed 7 = .ok (.if_icmp .ge 94, 3) := by decide +kernel
theorem dX11_isClosed_10 : decode cX11_isClosed 10 = .ok (.iconst 0, 1) := by decide +kernel
theorem dX11_isClosed_11 : decode cX11_isClosed 11 = .ok (.istore 4, 2) := by decide +kernel
theorem dX11_isClosed_13 : decode cX11_isClosed 13 = .ok (.iload 4, 2) := by decide +kernel
theorem dX11_isClosed_15 : decode cX11_isClosed 15 = .ok (.aload_n 0, 1) := by decide +kernel
theorem dX11_isClosed_16 : decode cX11_isClosed 16 = .ok (.getfield 141, 3) := by decide +kernel
theorem dX11_isClosed_19 : decode cX11_isClosed 19 = .ok (.if_icmp .ge 76, 3) := by decide +kernel
theorem dX11_isClosed_22 : decode cX11_isClosed 22 = .ok (.aload_n 0, 1) := by decide +kernel
theorem dX11_isClosed_23 : decode cX11_isClosed 23 = .ok (.getfield 30, 3) := by decide +kernel
theorem dX11_isClosed_26 : decode cX11_isClosed 26 = .ok (.iload_n 3, 1) := by decide +kernel
theorem dX11_isClosed_27 : decode cX11_isClosed 27 = .ok (.iaload, 1) := by decide +kernel
theorem dX11_isClosed_28 : decode cX11_isClosed 28 = .ok (.aload_n 0, 1) := by decide +kernel
theorem dX11_isClosed_29 : decode cX11_isClosed 29 = .ok (.getfield 30, 3) := by decide +kernel
theorem dX11_isClosed_32 : decode cX11_isClosed 32 = .ok (.iload 4, 2) := by decide +kernel
theorem dX11_isClosed_34 : decode cX11_isClosed 34 = .ok (.iaload, 1) := by decide +kernel
theorem dX11_isClosed_35 : decode cX11_isClosed 35 = .ok (.ior, 1) := by decide +kernel
theorem dX11_isClosed_36 : decode cX11_isClosed 36 = .ok (.istore 5, 2) := by decide +kernel
theorem dX11_isClosed_38 : decode cX11_isClosed 38 = .ok (.aload_n 0, 1) := by decide +kernel
theorem dX11_isClosed_39 : decode cX11_isClosed 39 = .ok (.getfield 30, 3) := by decide +kernel
theorem dX11_isClosed_42 : decode cX11_isClosed 42 = .ok (.iload_n 3, 1) := by decide +kernel
theorem dX11_isClosed_43 : decode cX11_isClosed 43 = .ok (.iaload, 1) := by decide +kernel
theorem dX11_isClosed_44 : decode cX11_isClosed 44 = .ok (.iload_n 1, 1) := by decide +kernel
theorem dX11_isClosed_45 : decode cX11_isClosed 45 = .ok (.invokestatic 128, 3) := by decide +kernel
theorem dX11_isClosed_48 : decode cX11_isClosed 48 = .ok (.iload_n 2, 1) := by decide +kernel
theorem dX11_isClosed_49 : decode cX11_isClosed 49 = .ok (.if_icmp .ne 40, 3) := by decide +kernel
theorem dX11_isClosed_52 : decode cX11_isClosed 52 = .ok (.aload_n 0, 1) := by decide +kernel
theorem dX11_isClosed_53 : decode cX11_isClosed 53 = .ok (.getfield 30, 3) := by decide +kernel
theorem dX11_isClosed_56 : decode cX11_isClosed 56 = .ok (.iload 4, 2) := by decide +kernel
theorem dX11_isClosed_58 : decode cX11_isClosed 58 = .ok (.iaload, 1) := by decide +kernel
theorem dX11_isClosed_59 : decode cX11_isClosed 59 = .ok (.iload_n 1, 1) := by decide +kernel
theorem dX11_isClosed_60 : decode cX11_isClosed 60 = .ok (.invokestatic 128, 3) := by decide +kernel
theorem dX11_isClosed_63 : decode cX11_isClosed 63 = .ok (.iload_n 2, 1) := by decide +kernel
theorem dX11_isClosed_64 : decode cX11_isClosed 64 = .ok (.if_icmp .ne 25, 3) := by decide +kernel
theorem dX11_isClosed_67 : decode cX11_isClosed 67 = .ok (.aload_n 0, 1) := by decide +kernel
theorem dX11_isClosed_68 : decode cX11_isClosed 68 = .ok (.getfield 26, 3) := by decide +kernel
theorem dX11_isClosed_71 : decode cX11_isClosed 71 = .ok (.iload 5, 2) := by decide +kernel
theorem dX11_isClosed_73 : decode cX11_isClosed 73 = .ok (.baload, 1) := by decide +kernel
theorem dX11_isClosed_74 : decode cX11_isClosed 74 = .ok (.ifCond .eq 13, 3) := by decide +kernel
theorem dX11_isClosed_77 : decode cX11_isClosed 77 = .ok (.iload 5, 2) := by decide +kernel
theorem dX11_isClosed_79 : decode cX11_isClosed 79 = .ok (.iload_n 1, 1) := by decide +kernel
theorem dX11_isClosed_80 : decode cX11_isClosed 80 = .ok (.invokestatic 128, 3) := by decide +kernel
theorem dX11_isClosed_83 : decode cX11_isClosed 83 = .ok (.iload_n 2, 1) := by decide +kernel
theorem dX11_isClosed_84 : decode cX11_isClosed 84 = .ok (.if_icmp .eq 5, 3) := by decide +kernel
theorem dX11_isClosed_87 : decode cX11_isClosed 87 = .ok (.iconst 0, 1) := by decide +kernel
theorem dX11_isClosed_88 : decode cX11_isClosed 88 = .ok (.ireturn, 1) := by decide +kernel
theorem dX11_isClosed_89 : decode cX11_isClosed 89 = .ok (.iinc 4 1, 3) := by decide +kernel
theorem dX11_isClosed_92 : decode cX11_isClosed 92 = .ok (.goto (-79), 3) := by decide +kernel
theorem dX11_isClosed_95 : decode cX11_isClosed 95 = .ok (.iinc 3 1, 3) := by decide +kernel
theorem dX11_isClosed_98 : decode cX11_isClosed 98 = .ok (.goto (-96), 3) := by decide +kernel
theorem dX11_isClosed_101 : decode cX11_isClosed 101 = .ok (.iconst 1, 1) := by decide +kernel
theorem dX11_isClosed_102 : decode cX11_isClosed 102 = .ok (.ireturn, 1) := by decide +kernel
theorem dX11_part_0 : decode cX11_part 0 = .ok (.aload_n 0, 1) := by decide +kernel
theorem dX11_part_1 : decode cX11_part 1 = .ok (.iload_n 1, 1) := by decide +kernel
theorem dX11_part_2 : decode cX11_part 2 = .ok (.invokevirtual 116, 3) := by decide +kernel
theorem dX11_part_5 : decode cX11_part 5 = .ok (.ifCond .eq 12, 3) := by decide +kernel
theorem dX11_part_8 : decode cX11_part 8 = .ok (.iload_n 3, 1) := by decide +kernel
theorem dX11_part_9 : decode cX11_part 9 = .ok (.iconst 0, 1) := by decide +kernel
theorem dX11_part_10 : decode cX11_part 10 = .ok (.iconst 3, 1) := by decide +kernel
theorem dX11_part_11 : decode cX11_part 11 = .ok (.invokestatic 84, 3) := by decide +kernel
theorem dX11_part_14 : decode cX11_part 14 = .ok (.ifCond .ne 5, 3) := by decide +kernel
theorem dX11_part_17 : decode cX11_part 17 = .ok (.iconst (-1), 1) := by decide +kernel
theorem dX11_part_18 : decode cX11_part 18 = .ok (.ireturn, 1) := by decide +kernel
theorem dX11_part_19 : decode cX11_part 19 = .ok (.aload_n 0, 1) := by decide +kernel
theorem dX11_part_20 : decode cX11_part 20 = .ok (.invokevirtual 135, 3) := by decide +kernel
theorem dX11_part_23 : decode cX11_part 23 = .ok (.iconst 0, 1) := by decide +kernel
theorem dX11_part_24 : decode cX11_part 24 = .ok (.istore 4, 2) := by decide +kernel
theorem dX11_part_26 : decode cX11_part 26 = .ok (.iconst 0, 1) := by decide +kernel
theorem dX11_part_27 : decode cX11_part 27 = .ok (.istore 5, 2) := by decide +kernel
theorem dX11_part_29 : decode cX11_part 29 = .ok (.aload_n 0, 1) := by decide +kernel
theorem dX11_part_30 : decode cX11_part 30 = .ok (.invokevirtual 88, 3) := by decide +kernel
theorem dX11_part_33 : decode cX11_part 33 = .ok (.istore 6, 2) := by decide +kernel
theorem dX11_part_35 : decode cX11_part 35 = .ok (.iconst 0, 1) := by decide +kernel
theorem dX11_part_36 : decode cX11_part 36 = .ok (.istore 7, 2) := by decide +kernel
theorem dX11_part_38 : decode cX11_part 38 = .ok (.iload 7, 2) := by decide +kernel
theorem dX11_part_40 : decode cX11_part 40 = .ok (.aload_n 0, 1) := by decide +kernel
theorem dX11_part_41 : decode cX11_part 41 = .ok (.getfield 141, 3) := by decide +kernel
theorem dX11_part_44 : decode cX11_part 44 = .ok (.if_icmp .ge 54, 3) := by decide +kernel
theorem dX11_part_47 : decode cX11_part 47 = .ok (.aload_n 0, 1) := by decide +kernel
theorem dX11_part_48 : decode cX11_part 48 = .ok (.getfield 30, 3) := by decide +kernel
theorem dX11_part_51 : decode cX11_part 51 = .ok (.iload 7, 2) := by decide +kernel
theorem dX11_part_53 : decode cX11_part 53 = .ok (.iaload, 1) := by decide +kernel
theorem dX11_part_54 : decode cX11_part 54 = .ok (.iload_n 1, 1) := by decide +kernel
theorem dX11_part_55 : decode cX11_part 55 = .ok (.invokestatic 128, 3) := by decide +kernel
theorem dX11_part_58 : decode cX11_part 58 = .ok (.iload_n 2, 1) := by decide +kernel
theorem dX11_part_59 : decode cX11_part 59 = .ok (.if_icmp .eq 6, 3) := by decide +kernel
theorem dX11_part_62 : decode cX11_part 62 = .ok (.goto 30, 3) := by decide +kernel
theorem dX11_part_65 : decode cX11_part 65 = .ok (.iinc 4 1, 3) := by decide +kernel
theorem dX11_part_68 : decode cX11_part 68 = .ok (.iload 5, 2) := by decide +kernel
theorem dX11_part_70 : decode cX11_part 70 = .ok (.aload_n 0, 1) := by decide +kernel
theorem dX11_part_71 : decode cX11_part 71 = .ok (.getfield 30, 3) := by decide +kernel
theorem dX11_part_74 : decode cX11_part 74 = .ok (.iload 7, 2) := by decide +kernel
theorem dX11_part_76 : decode cX11_part 76 = .ok (.iaload, 1) := by decide +kernel
theorem dX11_part_77 : decode cX11_part 77 = .ok (.ior, 1) := by decide +kernel
theorem dX11_part_78 : decode cX11_part 78 = .ok (.istore 5, 2) := by decide +kernel
theorem dX11_part_80 : decode cX11_part 80 = .ok (.iload 6, 2) := by decide +kernel
theorem dX11_part_82 : decode cX11_part 82 = .ok (.aload_n 0, 1) := by decide +kernel
theorem dX11_part_83 : decode cX11_part 83 = .ok (.getfield 30, 3) := by decide +kernel
theorem dX11_part_86 : decode cX11_part 86 = .ok (.iload 7, 2) := by decide +kernel
theorem dX11_part_88 : decode cX11_part 88 = .ok (.iaload, 1) := by decide +kernel
theorem dX11_part_89 : decode cX11_part 89 = .ok (.iand, 1) := by decide +kernel
theorem dX11_part_90 : decode cX11_part 90 = .ok (.istore 6, 2) := by decide +kernel
theorem dX11_part_92 : decode cX11_part 92 = .ok (.iinc 7 1, 3) := by decide +kernel
theorem dX11_part_95 : decode cX11_part 95 = .ok (.goto (-57), 3) := by decide +kernel
theorem dX11_part_98 : decode cX11_part 98 = .ok (.iload_n 3, 1) := by decide +kernel
theorem dX11_part_99 : decode cX11_part 99 = .ok (.tableswitch 54 0 2 #[25, 28, 41], 25) := by decide +kernel
theorem dX11_part_124 : decode cX11_part 124 = .ok (.iload 4, 2) := by decide +kernel
theorem dX11_part_126 : decode cX11_part 126 = .ok (.ireturn, 1) := by decide +kernel
theorem dX11_part_127 : decode cX11_part 127 = .ok (.iload 4, 2) := by decide +kernel
theorem dX11_part_129 : decode cX11_part 129 = .ok (.ifCond .ne 8, 3) := by decide +kernel
theorem dX11_part_132 : decode cX11_part 132 = .ok (.bipush (-2), 2) := by decide +kernel
theorem dX11_part_134 : decode cX11_part 134 = .ok (.goto 5, 3) := by decide +kernel
theorem dX11_part_137 : decode cX11_part 137 = .ok (.iload 5, 2) := by decide +kernel
theorem dX11_part_139 : decode cX11_part 139 = .ok (.ireturn, 1) := by decide +kernel
theorem dX11_part_140 : decode cX11_part 140 = .ok (.iload 4, 2) := by decide +kernel
theorem dX11_part_142 : decode cX11_part 142 = .ok (.ifCond .ne 8, 3) := by decide +kernel
theorem dX11_part_145 : decode cX11_part 145 = .ok (.bipush (-2), 2) := by decide +kernel
theorem dX11_part_147 : decode cX11_part 147 = .ok (.goto 5, 3) := by decide +kernel
theorem dX11_part_150 : decode cX11_part 150 = .ok (.iload 6, 2) := by decide +kernel
theorem dX11_part_152 : decode cX11_part 152 = .ok (.ireturn, 1) := by decide +kernel
theorem dX11_part_153 : decode cX11_part 153 = .ok (.aload_n 0, 1) := by decide +kernel
theorem dX11_part_154 : decode cX11_part 154 = .ok (.iload_n 1, 1) := by decide +kernel
theorem dX11_part_155 : decode cX11_part 155 = .ok (.iload_n 2, 1) := by decide +kernel
theorem dX11_part_156 : decode cX11_part 156 = .ok (.invokevirtual 240, 3) := by decide +kernel
theorem dX11_part_159 : decode cX11_part 159 = .ok (.ifCond .eq 7, 3) := by decide +kernel
theorem dX11_part_162 : decode cX11_part 162 = .ok (.iconst 1, 1) := by decide +kernel
theorem dX11_part_163 : decode cX11_part 163 = .ok (.goto 4, 3) := by decide +kernel
theorem dX11_part_166 : decode cX11_part 166 = .ok (.iconst 0, 1) := by decide +kernel
theorem dX11_part_167 : decode cX11_part 167 = .ok (.ireturn, 1) := by decide +kernel
theorem dX11_covers_0 : decode cX11_covers 0 = .ok (.aload_n 0, 1) := by decide +kernel
theorem dX11_covers_1 : decode cX11_covers 1 = .ok (.invokevirtual 135, 3) := by decide +kernel
theorem dX11_covers_4 : decode cX11_covers 4 = .ok (.aload_n 0, 1) := by decide +kernel
theorem dX11_covers_5 : decode cX11_covers 5 = .ok (.iload_n 1, 1) := by decide +kernel
theorem dX11_covers_6 : decode cX11_covers 6 = .ok (.invokevirtual 178, 3) := by decide +kernel
theorem dX11_covers_9 : decode cX11_covers 9 = .ok (.ifCond .eq 38, 3) := by decide +kernel
theorem dX11_covers_12 : decode cX11_covers 12 = .ok (.aload_n 0, 1) := by decide +kernel
theorem dX11_covers_13 : decode cX11_covers 13 = .ok (.iload_n 2, 1) := by decide +kernel
theorem dX11_covers_14 : decode cX11_covers 14 = .ok (.invokevirtual 178, 3) := by decide +kernel
theorem dX11_covers_17 : decode cX11_covers 17 = .ok (.ifCond .eq 30, 3) := by decide +kernel
theorem dX11_covers_20 : decode cX11_covers 20 = .ok (.aload_n 0, 1) := by decide +kernel
theorem dX11_covers_21 : decode cX11_covers 21 = .ok (.aload_n 0, 1) := by decide +kernel
theorem dX11_covers_22 : decode cX11_covers 22 = .ok (.getfield 30, 3) := by decide +kernel
theorem dX11_covers_25 : decode cX11_covers 25 = .ok (.iload_n 1, 1) := by decide +kernel
theorem dX11_covers_26 : decode cX11_covers 26 = .ok (.iaload, 1) := by decide +kernel
theorem dX11_covers_27 : decode cX11_covers 27 = .ok (.aload_n 0, 1) := by decide +kernel
theorem dX11_covers_28 : decode cX11_covers 28 = .ok (.getfield 30, 3) := by decide +kernel
theorem dX11_covers_31 : decode cX11_covers 31 = .ok (.iload_n 2, 1) := by decide +kernel
theorem dX11_covers_32 : decode cX11_covers 32 = .ok (.iaload, 1) := by decide +kernel
theorem dX11_covers_33 : decode cX11_covers 33 = .ok (.invokevirtual 175, 3) := by decide +kernel
theorem dX11_covers_36 : decode cX11_covers 36 = .ok (.ifCond .eq 7, 3) := by decide +kernel
theorem dX11_covers_39 : decode cX11_covers 39 = .ok (.iconst 1, 1) := by decide +kernel
theorem dX11_covers_40 : decode cX11_covers 40 = .ok (.goto 8, 3) := by decide +kernel
theorem dX11_covers_43 : decode cX11_covers 43 = .ok (.iconst 0, 1) := by decide +kernel
theorem dX11_covers_44 : decode cX11_covers 44 = .ok (.goto 4, 3) := by decide +kernel
theorem dX11_covers_47 : decode cX11_covers 47 = .ok (.iconst (-1), 1) := by decide +kernel
theorem dX11_covers_48 : decode cX11_covers 48 = .ok (.ireturn, 1) := by decide +kernel
theorem dX11_degree_0 : decode cX11_degree 0 = .ok (.aload_n 0, 1) := by decide +kernel
theorem dX11_degree_1 : decode cX11_degree 1 = .ok (.invokevirtual 135, 3) := by decide +kernel
theorem dX11_degree_4 : decode cX11_degree 4 = .ok (.aload_n 0, 1) := by decide +kernel
theorem dX11_degree_5 : decode cX11_degree 5 = .ok (.iload_n 1, 1) := by decide +kernel
theorem dX11_degree_6 : decode cX11_degree 6 = .ok (.invokevirtual 178, 3) := by decide +kernel
theorem dX11_degree_9 : decode cX11_degree 9 = .ok (.ifCond .eq 17, 3) := by decide +kernel
theorem dX11_degree_12 : decode cX11_degree 12 = .ok (.aload_n 0, 1) := by decide +kernel
theorem dX11_degree_13 : decode cX11_degree 13 = .ok (.aload_n 0, 1) := by decide +kernel
theorem dX11_degree_14 : decode cX11_degree 14 = .ok (.getfield 30, 3) := by decide +kernel
theorem dX11_degree_17 : decode cX11_degree 17 = .ok (.iload_n 1, 1) := by decide +kernel
theorem dX11_degree_18 : decode cX11_degree 18 = .ok (.iaload, 1) := by decide +kernel
theorem dX11_degree_19 : decode cX11_degree 19 = .ok (.iload_n 2, 1) := by decide +kernel
theorem dX11_degree_20 : decode cX11_degree 20 = .ok (.invokevirtual 209, 3) := by decide +kernel
theorem dX11_degree_23 : decode cX11_degree 23 = .ok (.goto 4, 3) := by decide +kernel
theorem dX11_degree_26 : decode cX11_degree 26 = .ok (.iconst (-1), 1) := by decide +kernel
theorem dX11_degree_27 : decode cX11_degree 27 = .ok (.ireturn, 1) := by decide +kernel
theorem dX11_single_0 : decode cX11_single 0 = .ok (.aload_n 0, 1) := by decide +kernel
theorem dX11_single_1 : decode cX11_single 1 = .ok (.invokevirtual 135, 3) := by decide +kernel
theorem dX11_single_4 : decode cX11_single 4 = .ok (.iconst 0, 1) := by decide +kernel
theorem dX11_single_5 : decode cX11_single 5 = .ok (.istore_n 1, 1) := by decide +kernel
theorem dX11_single_6 : decode cX11_single 6 = .ok (.iconst 0, 1) := by decide +kernel
theorem dX11_single_7 : decode cX11_single 7 = .ok (.istore_n 2, 1) := by decide +kernel
theorem dX11_single_8 : decode cX11_single 8 = .ok (.iload_n 2, 1) := by decide +kernel
theorem dX11_single_9 : decode cX11_single 9 = .ok (.iconst 1, 1) := by decide +kernel
theorem dX11_single_10 : decode cX11_single 10 = .ok (.iadd, 1) := by decide +kernel
theorem dX11_single_11 : decode cX11_single 11 = .ok (.aload_n 0, 1) := by decide +kernel
theorem dX11_single_12 : decode cX11_single 12 = .ok (.getfield 141, 3) := by decide +kernel
theorem dX11_single_15 : decode cX11_single 15 = .ok (.if_icmp .ge 27, 3) := by decide +kernel
theorem dX11_single_18 : decode cX11_single 18 = .ok (.aload_n 0, 1) := by decide +kernel
theorem dX11_single_19 : decode cX11_single 19 = .ok (.aload_n 0, 1) := by decide +kernel
theorem dX11_single_20 : decode cX11_single 20 = .ok (.getfield 30, 3) := by decide +kernel
theorem dX11_single_23 : decode cX11_single 23 = .ok (.iload_n 2, 1) := by decide +kernel
theorem dX11_single_24 : decode cX11_single 24 = .ok (.iaload, 1) := by decide +kernel
theorem dX11_single_25 : decode cX11_single 25 = .ok (.iconst 1, 1) := by decide +kernel
theorem dX11_single_26 : decode cX11_single 26 = .ok (.invokevirtual 209, 3) := by decide +kernel
theorem dX11_single_29 : decode cX11_single 29 = .ok (.iconst 1, 1) := by decide +kernel
theorem dX11_single_30 : decode cX11_single 30 = .ok (.if_icmp .ne 6, 3) := by decide +kernel
theorem dX11_single_33 : decode cX11_single 33 = .ok (.iinc 1 1, 3) := by decide +kernel
theorem dX11_single_36 : decode cX11_single 36 = .ok (.iinc 2 1, 3) := by decide +kernel
theorem dX11_single_39 : decode cX11_single 39 = .ok (.goto (-31), 3) := by decide +kernel
theorem dX11_single_42 : decode cX11_single 42 = .ok (.iload_n 1, 1) := by decide +kernel
theorem dX11_single_43 : decode cX11_single 43 = .ok (.ireturn, 1) := by decide +kernel
theorem dX11_both_0 : decode cX11_both 0 = .ok (.aload_n 0, 1) := by decide +kernel
theorem dX11_both_1 : decode cX11_both 1 = .ok (.invokevirtual 135, 3) := by decide +kernel
theorem dX11_both_4 : decode cX11_both 4 = .ok (.aload_n 0, 1) := by decide +kernel
theorem dX11_both_5 : decode cX11_both 5 = .ok (.iload_n 1, 1) := by decide +kernel
theorem dX11_both_6 : decode cX11_both 6 = .ok (.invokevirtual 178, 3) := by decide +kernel
theorem dX11_both_9 : decode cX11_both 9 = .ok (.ifCond .eq 20, 3) := by decide +kernel
theorem dX11_both_12 : decode cX11_both 12 = .ok (.aload_n 0, 1) := by decide +kernel
theorem dX11_both_13 : decode cX11_both 13 = .ok (.iload_n 2, 1) := by decide +kernel
theorem dX11_both_14 : decode cX11_both 14 = .ok (.invokevirtual 178, 3) := by decide +kernel
theorem dX11_both_17 : decode cX11_both 17 = .ok (.ifCond .eq 12, 3) := by decide +kernel
theorem dX11_both_20 : decode cX11_both 20 = .ok (.iload_n 3, 1) := by decide +kernel
theorem dX11_both_21 : decode cX11_both 21 = .ok (.iconst 0, 1) := by decide +kernel
theorem dX11_both_22 : decode cX11_both 22 = .ok (.iconst 1, 1) := by decide +kernel
theorem dX11_both_23 : decode cX11_both 23 = .ok (.invokestatic 84, 3) := by decide +kernel
theorem dX11_both_26 : decode cX11_both 26 = .ok (.ifCond .ne 5, 3) := by decide +kernel
theorem dX11_both_29 : decode cX11_both 29 = .ok (.iconst (-1), 1) := by decide +kernel
theorem dX11_both_30 : decode cX11_both 30 = .ok (.ireturn, 1) := by decide +kernel
theorem dX11_both_31 : decode cX11_both 31 = .ok (.aload_n 0, 1) := by decide +kernel
theorem dX11_both_32 : decode cX11_both 32 = .ok (.getfield 33, 3) := by decide +kernel
theorem dX11_both_35 : decode cX11_both 35 = .ok (.iload_n 3, 1) := by decide +kernel
theorem dX11_both_36 : decode cX11_both 36 = .ok (.ifCond .ne 19, 3) := by decide +kernel
theorem dX11_both_39 : decode cX11_both 39 = .ok (.aload_n 0, 1) := by decide +kernel
theorem dX11_both_40 : decode cX11_both 40 = .ok (.getfield 30, 3) := by decide +kernel
theorem dX11_both_43 : decode cX11_both 43 = .ok (.iload_n 1, 1) := by decide +kernel
theorem dX11_both_44 : decode cX11_both 44 = .ok (.iaload, 1) := by decide +kernel
theorem dX11_both_45 : decode cX11_both 45 = .ok (.aload_n 0, 1) := by decide +kernel
theorem dX11_both_46 : decode cX11_both 46 = .ok (.getfield 30, 3) := by decide +kernel
theorem dX11_both_49 : decode cX11_both 49 = .ok (.iload_n 2, 1) := by decide +kernel
theorem dX11_both_50 : decode cX11_both 50 = .ok (.iaload, 1) := by decide +kernel
theorem dX11_both_51 : decode cX11_both 51 = .ok (.ior, 1) := by decide +kernel
theorem dX11_both_52 : decode cX11_both 52 = .ok (.goto 21, 3) := by decide +kernel
theorem dX11_both_55 : decode cX11_both 55 = .ok (.aload_n 0, 1) := by decide +kernel
theorem dX11_both_56 : decode cX11_both 56 = .ok (.aload_n 0, 1) := by decide +kernel
theorem dX11_both_57 : decode cX11_both 57 = .ok (.getfield 30, 3) := by decide +kernel
theorem dX11_both_60 : decode cX11_both 60 = .ok (.iload_n 1, 1) := by decide +kernel
theorem dX11_both_61 : decode cX11_both 61 = .ok (.iaload, 1) := by decide +kernel
theorem dX11_both_62 : decode cX11_both 62 = .ok (.aload_n 0, 1) := by decide +kernel
theorem dX11_both_63 : decode cX11_both 63 = .ok (.getfield 30, 3) := by decide +kernel
theorem dX11_both_66 : decode cX11_both 66 = .ok (.iload_n 2, 1) := by decide +kernel
theorem dX11_both_67 : decode cX11_both 67 = .ok (.iaload, 1) := by decide +kernel
theorem dX11_both_68 : decode cX11_both 68 = .ok (.iand, 1) := by decide +kernel
theorem dX11_both_69 : decode cX11_both 69 = .ok (.iconst 0, 1) := by decide +kernel
theorem dX11_both_70 : decode cX11_both 70 = .ok (.invokevirtual 163, 3) := by decide +kernel
theorem dX11_both_73 : decode cX11_both 73 = .ok (.iaload, 1) := by decide +kernel
theorem dX11_both_74 : decode cX11_both 74 = .ok (.ireturn, 1) := by decide +kernel
theorem dX11_unshared_0 : decode cX11_unshared 0 = .ok (.aload_n 0, 1) := by decide +kernel
theorem dX11_unshared_1 : decode cX11_unshared 1 = .ok (.invokevirtual 135, 3) := by decide +kernel
theorem dX11_unshared_4 : decode cX11_unshared 4 = .ok (.aload_n 0, 1) := by decide +kernel
theorem dX11_unshared_5 : decode cX11_unshared 5 = .ok (.getfield 141, 3) := by decide +kernel
theorem dX11_unshared_8 : decode cX11_unshared 8 = .ok (.bipush 40, 2) := by decide +kernel
theorem dX11_unshared_10 : decode cX11_unshared 10 = .ok (.if_icmp .le 6, 3) := by decide +kernel
theorem dX11_unshared_13 : decode cX11_unshared 13 = .ok (.bipush (-2), 2) := by decide +kernel
theorem dX11_unshared_15 : decode cX11_unshared 15 = .ok (.ireturn, 1) := by decide +kernel
theorem dX11_unshared_16 : decode cX11_unshared 16 = .ok (.iconst 0, 1) := by decide +kernel
theorem dX11_unshared_17 : decode cX11_unshared 17 = .ok (.istore_n 1, 1) := by decide +kernel
theorem dX11_unshared_18 : decode cX11_unshared 18 = .ok (.iload_n 1, 1) := by decide +kernel
theorem dX11_unshared_19 : decode cX11_unshared 19 = .ok (.aload_n 0, 1) := by decide +kernel
theorem dX11_unshared_20 : decode cX11_unshared 20 = .ok (.getfield 141, 3) := by decide +kernel
theorem dX11_unshared_23 : decode cX11_unshared 23 = .ok (.if_icmp .ge 130, 3) := by decide +kernel
theorem dX11_unshared_26 : decode cX11_unshared 26 = .ok (.iconst 0, 1) := by decide +kernel
theorem dX11_unshared_27 : decode cX11_unshared 27 = .ok (.istore_n 2, 1) := by decide +kernel
theorem dX11_unshared_28 : decode cX11_unshared 28 = .ok (.iload_n 2, 1) := by decide +kernel
theorem dX11_unshared_29 : decode cX11_unshared 29 = .ok (.aload_n 0, 1) := by decide +kernel
theorem dX11_unshared_30 : decode cX11_unshared 30 = .ok (.getfield 141, 3) := by decide +kernel
theorem dX11_unshared_33 : decode cX11_unshared 33 = .ok (.if_icmp .ge 114, 3) := by decide +kernel
theorem dX11_unshared_36 : decode cX11_unshared 36 = .ok (.aload_n 0, 1) := by decide +kernel
theorem dX11_unshared_37 : decode cX11_unshared 37 = .ok (.aload_n 0, 1) := by decide +kernel
theorem dX11_unshared_38 : decode cX11_unshared 38 = .ok (.getfield 30, 3) := by decide +kernel
theorem dX11_unshared_41 : decode cX11_unshared 41 = .ok (.iload_n 1, 1) := by decide +kernel
theorem dX11_unshared_42 : decode cX11_unshared 42 = .ok (.iaload, 1) := by decide +kernel
theorem dX11_unshared_43 : decode cX11_unshared 43 = .ok (.aload_n 0, 1) := by decide +kernel
theorem dX11_unshared_44 : decode cX11_unshared 44 = .ok (.getfield 30, 3) := by decide +kernel
theorem dX11_unshared_47 : decode cX11_unshared 47 = .ok (.iload_n 2, 1) := by decide +kernel
theorem dX11_unshared_48 : decode cX11_unshared 48 = .ok (.iaload, 1) := by decide +kernel
theorem dX11_unshared_49 : decode cX11_unshared 49 = .ok (.iand, 1) := by decide +kernel
theorem dX11_unshared_50 : decode cX11_unshared 50 = .ok (.iconst 0, 1) := by decide +kernel
theorem dX11_unshared_51 : decode cX11_unshared 51 = .ok (.invokevirtual 163, 3) := by decide +kernel
theorem dX11_unshared_54 : decode cX11_unshared 54 = .ok (.istore_n 3, 1) := by decide +kernel
theorem dX11_unshared_55 : decode cX11_unshared 55 = .ok (.iconst 0, 1) := by decide +kernel
theorem dX11_unshared_56 : decode cX11_unshared 56 = .ok (.istore 4, 2) := by decide +kernel
theorem dX11_unshared_58 : decode cX11_unshared 58 = .ok (.iload 4, 2) := by decide +kernel
theorem dX11_unshared_60 : decode cX11_unshared 60 = .ok (.aload_n 0, 1) := by decide +kernel
theorem dX11_unshared_61 : decode cX11_unshared 61 = .ok (.getfield 141, 3) := by decide +kernel
theorem dX11_unshared_64 : decode cX11_unshared 64 = .ok (.if_icmp .ge 77, 3) := by decide +kernel
theorem dX11_unshared_67 : decode cX11_unshared 67 = .ok (.aload_n 0, 1) := by decide +kernel
theorem dX11_unshared_68 : decode cX11_unshared 68 = .ok (.aload_n 0, 1) := by decide +kernel
theorem dX11_unshared_69 : decode cX11_unshared 69 = .ok (.getfield 30, 3) := by decide +kernel
theorem dX11_unshared_72 : decode cX11_unshared 72 = .ok (.iload_n 1, 1) := by decide +kernel
theorem dX11_unshared_73 : decode cX11_unshared 73 = .ok (.iaload, 1) := by decide +kernel
theorem dX11_unshared_74 : decode cX11_unshared 74 = .ok (.aload_n 0, 1) := by decide +kernel
theorem dX11_unshared_75 : decode cX11_unshared 75 = .ok (.getfield 30, 3) := by decide +kernel
theorem dX11_unshared_78 : decode cX11_unshared 78 = .ok (.iload_n 2, 1) := by decide +kernel
theorem dX11_unshared_79 : decode cX11_unshared 79 = .ok (.iaload, 1) := by decide +kernel
theorem dX11_unshared_80 : decode cX11_unshared 80 = .ok (.aload_n 0, 1) := by decide +kernel
theorem dX11_unshared_81 : decode cX11_unshared 81 = .ok (.getfield 30, 3) := by decide +kernel
theorem dX11_unshared_84 : decode cX11_unshared 84 = .ok (.iload 4, 2) := by decide +kernel
theorem dX11_unshared_86 : decode cX11_unshared 86 = .ok (.iaload, 1) := by decide +kernel
theorem dX11_unshared_87 : decode cX11_unshared 87 = .ok (.ior, 1) := by decide +kernel
theorem dX11_unshared_88 : decode cX11_unshared 88 = .ok (.iand, 1) := by decide +kernel
theorem dX11_unshared_89 : decode cX11_unshared 89 = .ok (.iconst 0, 1) := by decide +kernel
theorem dX11_unshared_90 : decode cX11_unshared 90 = .ok (.invokevirtual 163, 3) := by decide +kernel
theorem dX11_unshared_93 : decode cX11_unshared 93 = .ok (.istore 5, 2) := by decide +kernel
theorem dX11_unshared_95 : decode cX11_unshared 95 = .ok (.iload 5, 2) := by decide +kernel
theorem dX11_unshared_97 : decode cX11_unshared 97 = .ok (.iload_n 3, 1) := by decide +kernel
theorem dX11_unshared_98 : decode cX11_unshared 98 = .ok (.aload_n 0, 1) := by decide +kernel
theorem dX11_unshared_99 : decode cX11_unshared 99 = .ok (.aload_n 0, 1) := by decide +kernel
theorem dX11_unshared_100 : decode cX11_unshared 100 = .ok (.getfield 30, 3) := by decide +kernel
theorem dX11_unshared_103 : decode cX11_unshared 103 = .ok (.iload_n 1, 1) := by decide +kernel
theorem dX11_unshared_104 : decode cX11_unshared 104 = .ok (.iaload, 1) := by decide +kernel
theorem dX11_unshared_105 : decode cX11_unshared 105 = .ok (.aload_n 0, 1) := by decide +kernel
theorem dX11_unshared_106 : decode cX11_unshared 106 = .ok (.getfield 30, 3) := by decide +kernel
theorem dX11_unshared_109 : decode cX11_unshared 109 = .ok (.iload 4, 2) := by decide +kernel
theorem dX11_unshared_111 : decode cX11_unshared 111 = .ok (.iaload, 1) := by decide +kernel
theorem dX11_unshared_112 : decode cX11_unshared 112 = .ok (.iand, 1) := by decide +kernel
theorem dX11_unshared_113 : decode cX11_unshared 113 = .ok (.iconst 0, 1) := by decide +kernel
theorem dX11_unshared_114 : decode cX11_unshared 114 = .ok (.invokevirtual 163, 3) := by decide +kernel
theorem dX11_unshared_117 : decode cX11_unshared 117 = .ok (.ior, 1) := by decide +kernel
theorem dX11_unshared_118 : decode cX11_unshared 118 = .ok (.if_icmp .eq 17, 3) := by decide +kernel
theorem dX11_unshared_121 : decode cX11_unshared 121 = .ok (.sipush 10000, 3) := by decide +kernel
theorem dX11_unshared_124 : decode cX11_unshared 124 = .ok (.iload_n 1, 1) := by decide +kernel
theorem dX11_unshared_125 : decode cX11_unshared 125 = .ok (.imul, 1) := by decide +kernel
theorem dX11_unshared_126 : decode cX11_unshared 126 = .ok (.bipush 100, 2) := by decide +kernel
theorem dX11_unshared_128 : decode cX11_unshared 128 = .ok (.iload_n 2, 1) := by decide +kernel
theorem dX11_unshared_129 : decode cX11_unshared 129 = .ok (.imul, 1) := by decide +kernel
theorem dX11_unshared_130 : decode cX11_unshared 130 = .ok (.iadd, 1) := by decide +kernel
theorem dX11_unshared_131 : decode cX11_unshared 131 = .ok (.iload 4, 2) := by decide +kernel
theorem dX11_unshared_133 : decode cX11_unshared 133 = .ok (.iadd, 1) := by decide +kernel
theorem dX11_unshared_134 : decode cX11_unshared 134 = .ok (.ireturn, 1) := by decide +kernel
theorem dX11_unshared_135 : decode cX11_unshared 135 = .ok (.iinc 4 1, 3) := by decide +kernel
theorem dX11_unshared_138 : decode cX11_unshared 138 = .ok (.goto (-80), 3) := by decide +kernel
theorem dX11_unshared_141 : decode cX11_unshared 141 = .ok (.iinc 2 1, 3) := by decide +kernel
theorem dX11_unshared_144 : decode cX11_unshared 144 = .ok (.goto (-116), 3) := by decide +kernel
theorem dX11_unshared_147 : decode cX11_unshared 147 = .ok (.iinc 1 1, 3) := by decide +kernel
theorem dX11_unshared_150 : decode cX11_unshared 150 = .ok (.goto (-132), 3) := by decide +kernel
theorem dX11_unshared_153 : decode cX11_unshared 153 = .ok (.bipush (-2), 2) := by decide +kernel
theorem dX11_unshared_155 : decode cX11_unshared 155 = .ok (.ireturn, 1) := by decide +kernel
theorem dX11_chain_0 : decode cX11_chain 0 = .ok (.iload_n 1, 1) := by decide +kernel
theorem dX11_chain_1 : decode cX11_chain 1 = .ok (.ifCond .ge 5, 3) := by decide +kernel
theorem dX11_chain_4 : decode cX11_chain 4 = .ok (.iconst (-1), 1) := by decide +kernel
theorem dX11_chain_5 : decode cX11_chain 5 = .ok (.ireturn, 1) := by decide +kernel
theorem dX11_chain_6 : decode cX11_chain 6 = .ok (.aload_n 0, 1) := by decide +kernel
theorem dX11_chain_7 : decode cX11_chain 7 = .ok (.invokevirtual 135, 3) := by decide +kernel
theorem dX11_chain_10 : decode cX11_chain 10 = .ok (.aload_n 0, 1) := by decide +kernel
theorem dX11_chain_11 : decode cX11_chain 11 = .ok (.iconst 1, 1) := by decide +kernel
theorem dX11_chain_12 : decode cX11_chain 12 = .ok (.invokevirtual 221, 3) := by decide +kernel
theorem dX11_chain_15 : decode cX11_chain 15 = .ok (.iload_n 1, 1) := by decide +kernel
theorem dX11_chain_16 : decode cX11_chain 16 = .ok (.aload_n 0, 1) := by decide +kernel
theorem dX11_chain_17 : decode cX11_chain 17 = .ok (.getfield 39, 3) := by decide +kernel
theorem dX11_chain_20 : decode cX11_chain 20 = .ok (.iconst 0, 1) := by decide +kernel
theorem dX11_chain_21 : decode cX11_chain 21 = .ok (.iaload, 1) := by decide +kernel
theorem dX11_chain_22 : decode cX11_chain 22 = .ok (.if_icmp .le 5, 3) := by decide +kernel
theorem dX11_chain_25 : decode cX11_chain 25 = .ok (.iconst (-1), 1) := by decide +kernel
theorem dX11_chain_26 : decode cX11_chain 26 = .ok (.ireturn, 1) := by decide +kernel
theorem dX11_chain_27 : decode cX11_chain 27 = .ok (.iconst 0, 1) := by decide +kernel
theorem dX11_chain_28 : decode cX11_chain 28 = .ok (.istore_n 2, 1) := by decide +kernel
theorem dX11_chain_29 : decode cX11_chain 29 = .ok (.iconst 0, 1) := by decide +kernel
theorem dX11_chain_30 : decode cX11_chain 30 = .ok (.istore_n 3, 1) := by decide +kernel
theorem dX11_chain_31 : decode cX11_chain 31 = .ok (.iload_n 3, 1) := by decide +kernel
theorem dX11_chain_32 : decode cX11_chain 32 = .ok (.iload_n 1, 1) := by decide +kernel
theorem dX11_chain_33 : decode cX11_chain 33 = .ok (.if_icmp .ge 59, 3) := by decide +kernel
theorem dX11_chain_36 : decode cX11_chain 36 = .ok (.iconst 0, 1) := by decide +kernel
theorem dX11_chain_37 : decode cX11_chain 37 = .ok (.istore 4, 2) := by decide +kernel
theorem dX11_chain_39 : decode cX11_chain 39 = .ok (.aload_n 0, 1) := by decide +kernel
theorem dX11_chain_40 : decode cX11_chain 40 = .ok (.getfield 39, 3) := by decide +kernel
theorem dX11_chain_43 : decode cX11_chain 43 = .ok (.iload 4, 2) := by decide +kernel
theorem dX11_chain_45 : decode cX11_chain 45 = .ok (.iaload, 1) := by decide +kernel
theorem dX11_chain_46 : decode cX11_chain 46 = .ok (.aload_n 0, 1) := by decide +kernel
theorem dX11_chain_47 : decode cX11_chain 47 = .ok (.getfield 39, 3) := by decide +kernel
theorem dX11_chain_50 : decode cX11_chain 50 = .ok (.iload_n 2, 1) := by decide +kernel
theorem dX11_chain_51 : decode cX11_chain 51 = .ok (.iaload, 1) := by decide +kernel
theorem dX11_chain_52 : decode cX11_chain 52 = .ok (.iconst 1, 1) := by decide +kernel
theorem dX11_chain_53 : decode cX11_chain 53 = .ok (.isub, 1) := by decide +kernel
theorem dX11_chain_54 : decode cX11_chain 54 = .ok (.if_icmp .ne 23, 3) := by decide +kernel
theorem dX11_chain_57 : decode cX11_chain 57 = .ok (.aload_n 0, 1) := by decide +kernel
theorem dX11_chain_58 : decode cX11_chain 58 = .ok (.aload_n 0, 1) := by decide +kernel
theorem dX11_chain_59 : decode cX11_chain 59 = .ok (.getfield 30, 3) := by decide +kernel
theorem dX11_chain_62 : decode cX11_chain 62 = .ok (.iload 4, 2) := by decide +kernel
theorem dX11_chain_64 : decode cX11_chain 64 = .ok (.iaload, 1) := by decide +kernel
theorem dX11_chain_65 : decode cX11_chain 65 = .ok (.aload_n 0, 1) := by decide +kernel
theorem dX11_chain_66 : decode cX11_chain 66 = .ok (.getfield 30, 3) := by decide +kernel
theorem dX11_chain_69 : decode cX11_chain 69 = .ok (.iload_n 2, 1) := by decide +kernel
theorem dX11_chain_70 : decode cX11_chain 70 = .ok (.iaload, 1) := by decide +kernel
theorem dX11_chain_71 : decode cX11_chain 71 = .ok (.invokevirtual 175, 3) := by decide +kernel
theorem dX11_chain_74 : decode cX11_chain 74 = .ok (.ifCond .ne 9, 3) := by decide +kernel
theorem dX11_chain_77 : decode cX11_chain 77 = .ok (.iinc 4 1, 3) := by decide +kernel
theorem dX11_chain_80 : decode cX11_chain 80 = .ok (.goto (-41), 3) := by decide +kernel
theorem dX11_chain_83 : decode cX11_chain 83 = .ok (.iload 4, 2) := by decide +kernel
theorem dX11_chain_85 : decode cX11_chain 85 = .ok (.istore_n 2, 1) := by decide +kernel
theorem dX11_chain_86 : decode cX11_chain 86 = .ok (.iinc 3 1, 3) := by decide +kernel
theorem dX11_chain_89 : decode cX11_chain 89 = .ok (.goto (-58), 3) := by decide +kernel
theorem dX11_chain_92 : decode cX11_chain 92 = .ok (.iload_n 2, 1) := by decide +kernel
theorem dX11_chain_93 : decode cX11_chain 93 = .ok (.ireturn, 1) := by decide +kernel
theorem dX11_common_0 : decode cX11_common 0 = .ok (.aload_n 0, 1) := by decide +kernel
theorem dX11_common_1 : decode cX11_common 1 = .ok (.iload_n 1, 1) := by decide +kernel
theorem dX11_common_2 : decode cX11_common 2 = .ok (.invokevirtual 116, 3) := by decide +kernel
theorem dX11_common_5 : decode cX11_common 5 = .ok (.ifCond .eq 11, 3) := by decide +kernel
theorem dX11_common_8 : decode cX11_common 8 = .ok (.aload_n 0, 1) := by decide +kernel
theorem dX11_common_9 : decode cX11_common 9 = .ok (.iload_n 2, 1) := by decide +kernel
theorem dX11_common_10 : decode cX11_common 10 = .ok (.invokevirtual 116, 3) := by decide +kernel
theorem dX11_common_13 : decode cX11_common 13 = .ok (.ifCond .ne 5, 3) := by decide +kernel
theorem dX11_common_16 : decode cX11_common 16 = .ok (.iconst (-1), 1) := by decide +kernel
theorem dX11_common_17 : decode cX11_common 17 = .ok (.ireturn, 1) := by decide +kernel
theorem dX11_common_18 : decode cX11_common 18 = .ok (.aload_n 0, 1) := by decide +kernel
theorem dX11_common_19 : decode cX11_common 19 = .ok (.invokevirtual 135, 3) := by decide +kernel
theorem dX11_common_22 : decode cX11_common 22 = .ok (.aload_n 0, 1) := by decide +kernel
theorem dX11_common_23 : decode cX11_common 23 = .ok (.iload_n 1, 1) := by decide +kernel
theorem dX11_common_24 : decode cX11_common 24 = .ok (.iload_n 2, 1) := by decide +kernel
theorem dX11_common_25 : decode cX11_common 25 = .ok (.invokevirtual 184, 3) := by decide +kernel
theorem dX11_common_28 : decode cX11_common 28 = .ok (.ireturn, 1) := by decide +kernel
theorem dX11_ranked_0 : decode cX11_ranked 0 = .ok (.aload_n 0, 1) := by decide +kernel
theorem dX11_ranked_1 : decode cX11_ranked 1 = .ok (.invokevirtual 135, 3) := by decide +kernel
theorem dX11_ranked_4 : decode cX11_ranked 4 = .ok (.aload_n 0, 1) := by decide +kernel
theorem dX11_ranked_5 : decode cX11_ranked 5 = .ok (.iload_n 1, 1) := by decide +kernel
theorem dX11_ranked_6 : decode cX11_ranked 6 = .ok (.invokevirtual 218, 3) := by decide +kernel
theorem dX11_ranked_9 : decode cX11_ranked 9 = .ok (.ireturn, 1) := by decide +kernel
theorem dX11_nested_0 : decode cX11_nested 0 = .ok (.aload_n 0, 1) := by decide +kernel
theorem dX11_nested_1 : decode cX11_nested 1 = .ok (.iload_n 1, 1) := by decide +kernel
theorem dX11_nested_2 : decode cX11_nested 2 = .ok (.invokevirtual 95, 3) := by decide +kernel
theorem dX11_nested_5 : decode cX11_nested 5 = .ok (.ifCond .ne 5, 3) := by decide +kernel
theorem dX11_nested_8 : decode cX11_nested 8 = .ok (.iconst (-1), 1) := by decide +kernel
theorem dX11_nested_9 : decode cX11_nested 9 = .ok (.ireturn, 1) := by decide +kernel
theorem dX11_nested_10 : decode cX11_nested 10 = .ok (.aload_n 0, 1) := by decide +kernel
theorem dX11_nested_11 : decode cX11_nested 11 = .ok (.invokevirtual 135, 3) := by decide +kernel
theorem dX11_nested_14 : decode cX11_nested 14 = .ok (.iconst 0, 1) := by decide +kernel
theorem dX11_nested_15 : decode cX11_nested 15 = .ok (.istore_n 3, 1) := by decide +kernel
theorem dX11_nested_16 : decode cX11_nested 16 = .ok (.iconst 0, 1) := by decide +kernel
theorem dX11_nested_17 : decode cX11_nested 17 = .ok (.istore 4, 2) := by decide +kernel
theorem dX11_nested_19 : decode cX11_nested 19 = .ok (.iload 4, 2) := by decide +kernel
theorem dX11_nested_21 : decode cX11_nested 21 = .ok (.aload_n 0, 1) := by decide +kernel
theorem dX11_nested_22 : decode cX11_nested 22 = .ok (.getfield 141, 3) := by decide +kernel
theorem dX11_nested_25 : decode cX11_nested 25 = .ok (.if_icmp .ge 47, 3) := by decide +kernel
theorem dX11_nested_28 : decode cX11_nested 28 = .ok (.iload_n 2, 1) := by decide +kernel
theorem dX11_nested_29 : decode cX11_nested 29 = .ok (.ifCond .eq 20, 3) := by decide +kernel
theorem dX11_nested_32 : decode cX11_nested 32 = .ok (.iload_n 1, 1) := by decide +kernel
theorem dX11_nested_33 : decode cX11_nested 33 = .ok (.aload_n 0, 1) := by decide +kernel
theorem dX11_nested_34 : decode cX11_nested 34 = .ok (.getfield 30, 3) := by decide +kernel
theorem dX11_nested_37 : decode cX11_nested 37 = .ok (.iload 4, 2) := by decide +kernel
theorem dX11_nested_39 : decode cX11_nested 39 = .ok (.iaload, 1) := by decide +kernel
theorem dX11_nested_40 : decode cX11_nested 40 = .ok (.invokestatic 160, 3) := by decide +kernel
theorem dX11_nested_43 : decode cX11_nested 43 = .ok (.ifCond .eq 23, 3) := by decide +kernel
theorem dX11_nested_46 : decode cX11_nested 46 = .ok (.goto 17, 3) := by decide +kernel
theorem dX11_nested_49 : decode cX11_nested 49 = .ok (.aload_n 0, 1) := by decide +kernel
theorem dX11_nested_50 : decode cX11_nested 50 = .ok (.getfield 30, 3) := by decide +kernel
theorem dX11_nested_53 : decode cX11_nested 53 = .ok (.iload 4, 2) := by decide +kernel
theorem dX11_nested_55 : decode cX11_nested 55 = .ok (.iaload, 1) := by decide +kernel
theorem dX11_nested_56 : decode cX11_nested 56 = .ok (.iload_n 1, 1) := by decide +kernel
theorem dX11_nested_57 : decode cX11_nested 57 = .ok (.invokestatic 160, 3) := by decide +kernel
theorem dX11_nested_60 : decode cX11_nested 60 = .ok (.ifCond .eq 6, 3) := by decide +kernel
theorem dX11_nested_63 : decode cX11_nested 63 = .ok (.iinc 3 1, 3) := by decide +kernel
theorem dX11_nested_66 : decode cX11_nested 66 = .ok (.iinc 4 1, 3) := by decide +kernel
theorem dX11_nested_69 : decode cX11_nested 69 = .ok (.goto (-50), 3) := by decide +kernel
theorem dX11_nested_72 : decode cX11_nested 72 = .ok (.iload_n 3, 1) := by decide +kernel
theorem dX11_nested_73 : decode cX11_nested 73 = .ok (.ireturn, 1) := by decide +kernel
theorem dX11_crossing_0 : decode cX11_crossing 0 = .ok (.aload_n 0, 1) := by decide +kernel
theorem dX11_crossing_1 : decode cX11_crossing 1 = .ok (.invokevirtual 135, 3) := by decide +kernel
theorem dX11_crossing_4 : decode cX11_crossing 4 = .ok (.iconst 0, 1) := by decide +kernel
theorem dX11_crossing_5 : decode cX11_crossing 5 = .ok (.istore_n 1, 1) := by decide +kernel
theorem dX11_crossing_6 : decode cX11_crossing 6 = .ok (.iload_n 1, 1) := by decide +kernel
theorem dX11_crossing_7 : decode cX11_crossing 7 = .ok (.aload_n 0, 1) := by decide +kernel
theorem dX11_crossing_8 : decode cX11_crossing 8 = .ok (.getfield 141, 3) := by decide +kernel
theorem dX11_crossing_11 : decode cX11_crossing 11 = .ok (.if_icmp .ge 45, 3) := by decide +kernel
theorem dX11_crossing_14 : decode cX11_crossing 14 = .ok (.iconst 0, 1) := by decide +kernel
theorem dX11_crossing_15 : decode cX11_crossing 15 = .ok (.istore_n 2, 1) := by decide +kernel
theorem dX11_crossing_16 : decode cX11_crossing 16 = .ok (.iload_n 2, 1) := by decide +kernel
theorem dX11_crossing_17 : decode cX11_crossing 17 = .ok (.iload_n 1, 1) := by decide +kernel
theorem dX11_crossing_18 : decode cX11_crossing 18 = .ok (.if_icmp .ge 32, 3) := by decide +kernel
theorem dX11_crossing_21 : decode cX11_crossing 21 = .ok (.aload_n 0, 1) := by decide +kernel
theorem dX11_crossing_22 : decode cX11_crossing 22 = .ok (.getfield 26, 3) := by decide +kernel
theorem dX11_crossing_25 : decode cX11_crossing 25 = .ok (.aload_n 0, 1) := by decide +kernel
theorem dX11_crossing_26 : decode cX11_crossing 26 = .ok (.getfield 30, 3) := by decide +kernel
theorem dX11_crossing_29 : decode cX11_crossing 29 = .ok (.iload_n 1, 1) := by decide +kernel
theorem dX11_crossing_30 : decode cX11_crossing 30 = .ok (.iaload, 1) := by decide +kernel
theorem dX11_crossing_31 : decode cX11_crossing 31 = .ok (.aload_n 0, 1) := by decide +kernel
theorem dX11_crossing_32 : decode cX11_crossing 32 = .ok (.getfield 30, 3) := by decide +kernel
theorem dX11_crossing_35 : decode cX11_crossing 35 = .ok (.iload_n 2, 1) := by decide +kernel
theorem dX11_crossing_36 : decode cX11_crossing 36 = .ok (.iaload, 1) := by decide +kernel
theorem dX11_crossing_37 : decode cX11_crossing 37 = .ok (.iand, 1) := by decide +kernel
theorem dX11_crossing_38 : decode cX11_crossing 38 = .ok (.baload, 1) := by decide +kernel
theorem dX11_crossing_39 : decode cX11_crossing 39 = .ok (.ifCond .ne 5, 3) := by decide +kernel
theorem dX11_crossing_42 : decode cX11_crossing 42 = .ok (.iconst 0, 1) := by decide +kernel
theorem dX11_crossing_43 : decode cX11_crossing 43 = .ok (.ireturn, 1) := by decide +kernel
theorem dX11_crossing_44 : decode cX11_crossing 44 = .ok (.iinc 2 1, 3) := by decide +kernel
theorem dX11_crossing_47 : decode cX11_crossing 47 = .ok (.goto (-31), 3) := by decide +kernel
theorem dX11_crossing_50 : decode cX11_crossing 50 = .ok (.iinc 1 1, 3) := by decide +kernel
theorem dX11_crossing_53 : decode cX11_crossing 53 = .ok (.goto (-47), 3) := by decide +kernel
theorem dX11_crossing_56 : decode cX11_crossing 56 = .ok (.iconst 1, 1) := by decide +kernel
theorem dX11_crossing_57 : decode cX11_crossing 57 = .ok (.ireturn, 1) := by decide +kernel
theorem dX11_parts_0 : decode cX11_parts 0 = .ok (.aload_n 0, 1) := by decide +kernel
theorem dX11_parts_1 : decode cX11_parts 1 = .ok (.invokevirtual 135, 3) := by decide +kernel
theorem dX11_parts_4 : decode cX11_parts 4 = .ok (.aload_n 0, 1) := by decide +kernel
theorem dX11_parts_5 : decode cX11_parts 5 = .ok (.invokevirtual 181, 3) := by decide +kernel
theorem dX11_parts_8 : decode cX11_parts 8 = .ok (.istore_n 1, 1) := by decide +kernel
theorem dX11_parts_9 : decode cX11_parts 9 = .ok (.iconst 0, 1) := by decide +kernel
theorem dX11_parts_10 : decode cX11_parts 10 = .ok (.istore_n 2, 1) := by decide +kernel
theorem dX11_parts_11 : decode cX11_parts 11 = .ok (.iload_n 1, 1) := by decide +kernel
theorem dX11_parts_12 : decode cX11_parts 12 = .ok (.ifCond .eq 101, 3) := by decide +kernel
theorem dX11_parts_15 : decode cX11_parts 15 = .ok (.iload_n 1, 1) := by decide +kernel
theorem dX11_parts_16 : decode cX11_parts 16 = .ok (.iload_n 1, 1) := by decide +kernel
theorem dX11_parts_17 : decode cX11_parts 17 = .ok (.ineg, 1) := by decide +kernel
theorem dX11_parts_18 : decode cX11_parts 18 = .ok (.iand, 1) := by decide +kernel
theorem dX11_parts_19 : decode cX11_parts 19 = .ok (.istore_n 3, 1) := by decide +kernel
theorem dX11_parts_20 : decode cX11_parts 20 = .ok (.iconst 1, 1) := by decide +kernel
theorem dX11_parts_21 : decode cX11_parts 21 = .ok (.istore 4, 2) := by decide +kernel
theorem dX11_parts_23 : decode cX11_parts 23 = .ok (.iload 4, 2) := by decide +kernel
theorem dX11_parts_25 : decode cX11_parts 25 = .ok (.ifCond .eq 76, 3) := by decide +kernel
theorem dX11_parts_28 : decode cX11_parts 28 = .ok (.iload_n 3, 1) := by decide +kernel
theorem dX11_parts_29 : decode cX11_parts 29 = .ok (.istore 5, 2) := by decide +kernel
theorem dX11_parts_31 : decode cX11_parts 31 = .ok (.iconst 0, 1) := by decide +kernel
theorem dX11_parts_32 : decode cX11_parts 32 = .ok (.istore 6, 2) := by decide +kernel
theorem dX11_parts_34 : decode cX11_parts 34 = .ok (.iload 6, 2) := by decide +kernel
theorem dX11_parts_36 : decode cX11_parts 36 = .ok (.aload_n 0, 1) := by decide +kernel
theorem dX11_parts_37 : decode cX11_parts 37 = .ok (.getfield 141, 3) := by decide +kernel
theorem dX11_parts_40 : decode cX11_parts 40 = .ok (.if_icmp .ge 45, 3) := by decide +kernel
theorem dX11_parts_43 : decode cX11_parts 43 = .ok (.aload_n 0, 1) := by decide +kernel
theorem dX11_parts_44 : decode cX11_parts 44 = .ok (.getfield 30, 3) := by decide +kernel
theorem dX11_parts_47 : decode cX11_parts 47 = .ok (.iload 6, 2) := by decide +kernel
theorem dX11_parts_49 : decode cX11_parts 49 = .ok (.iaload, 1) := by decide +kernel
theorem dX11_parts_50 : decode cX11_parts 50 = .ok (.iload_n 3, 1) := by decide +kernel
theorem dX11_parts_51 : decode cX11_parts 51 = .ok (.iand, 1) := by decide +kernel
theorem dX11_parts_52 : decode cX11_parts 52 = .ok (.ifCond .eq 27, 3) := by decide +kernel
theorem dX11_parts_55 : decode cX11_parts 55 = .ok (.aload_n 0, 1) := by decide +kernel
theorem dX11_parts_56 : decode cX11_parts 56 = .ok (.aload_n 0, 1) := by decide +kernel
theorem dX11_parts_57 : decode cX11_parts 57 = .ok (.getfield 30, 3) := by decide +kernel
theorem dX11_parts_60 : decode cX11_parts 60 = .ok (.iload 6, 2) := by decide +kernel
theorem dX11_parts_62 : decode cX11_parts 62 = .ok (.iaload, 1) := by decide +kernel
theorem dX11_parts_63 : decode cX11_parts 63 = .ok (.invokevirtual 138, 3) := by decide +kernel
theorem dX11_parts_66 : decode cX11_parts 66 = .ok (.ifCond .eq 13, 3) := by decide +kernel
theorem dX11_parts_69 : decode cX11_parts 69 = .ok (.iload_n 3, 1) := by decide +kernel
theorem dX11_parts_70 : decode cX11_parts 70 = .ok (.aload_n 0, 1) := by decide +kernel
theorem dX11_parts_71 : decode cX11_parts 71 = .ok (.getfield 30, 3) := by decide +kernel
theorem dX11_parts_74 : decode cX11_parts 74 = .ok (.iload 6, 2) := by decide +kernel
theorem dX11_parts_76 : decode cX11_parts 76 = .ok (.iaload, 1) := by decide +kernel
theorem dX11_parts_77 : decode cX11_parts 77 = .ok (.ior, 1) := by decide +kernel
theorem dX11_parts_78 : decode cX11_parts 78 = .ok (.istore_n 3, 1) := by decide +kernel
theorem dX11_parts_79 : decode cX11_parts 79 = .ok (.iinc 6 1, 3) := by decide +kernel
theorem dX11_parts_82 : decode cX11_parts 82 = .ok (.goto (-48), 3) := by decide +kernel
theorem dX11_parts_85 : decode cX11_parts 85 = .ok (.iload_n 3, 1) := by decide +kernel
theorem dX11_parts_86 : decode cX11_parts 86 = .ok (.iload 5, 2) := by decide +kernel
theorem dX11_parts_88 : decode cX11_parts 88 = .ok (.if_icmp .eq 7, 3) := by decide +kernel
theorem dX11_parts_91 : decode cX11_parts 91 = .ok (.iconst 1, 1) := by decide +kernel
theorem dX11_parts_92 : decode cX11_parts 92 = .ok (.goto 4, 3) := by decide +kernel
theorem dX11_parts_95 : decode cX11_parts 95 = .ok (.iconst 0, 1) := by decide +kernel
theorem dX11_parts_96 : decode cX11_parts 96 = .ok (.istore 4, 2) := by decide +kernel
theorem dX11_parts_98 : decode cX11_parts 98 = .ok (.goto (-75), 3) := by decide +kernel
theorem dX11_parts_101 : decode cX11_parts 101 = .ok (.iload_n 1, 1) := by decide +kernel
theorem dX11_parts_102 : decode cX11_parts 102 = .ok (.iload_n 3, 1) := by decide +kernel
theorem dX11_parts_103 : decode cX11_parts 103 = .ok (.iconst (-1), 1) := by decide +kernel
theorem dX11_parts_104 : decode cX11_parts 104 = .ok (.ixor, 1) := by decide +kernel
theorem dX11_parts_105 : decode cX11_parts 105 = .ok (.iand, 1) := by decide +kernel
theorem dX11_parts_106 : decode cX11_parts 106 = .ok (.istore_n 1, 1) := by decide +kernel
theorem dX11_parts_107 : decode cX11_parts 107 = .ok (.iinc 2 1, 3) := by decide +kernel
theorem dX11_parts_110 : decode cX11_parts 110 = .ok (.goto (-99), 3) := by decide +kernel
theorem dX11_parts_113 : decode cX11_parts 113 = .ok (.iload_n 2, 1) := by decide +kernel
theorem dX11_parts_114 : decode cX11_parts 114 = .ok (.ireturn, 1) := by decide +kernel
theorem dX11_shattered_0 : decode cX11_shattered 0 = .ok (.aload_n 0, 1) := by decide +kernel
theorem dX11_shattered_1 : decode cX11_shattered 1 = .ok (.iload_n 1, 1) := by decide +kernel
theorem dX11_shattered_2 : decode cX11_shattered 2 = .ok (.invokevirtual 95, 3) := by decide +kernel
theorem dX11_shattered_5 : decode cX11_shattered 5 = .ok (.ifCond .ne 5, 3) := by decide +kernel
theorem dX11_shattered_8 : decode cX11_shattered 8 = .ok (.iconst (-1), 1) := by decide +kernel
theorem dX11_shattered_9 : decode cX11_shattered 9 = .ok (.ireturn, 1) := by decide +kernel
theorem dX11_shattered_10 : decode cX11_shattered 10 = .ok (.aload_n 0, 1) := by decide +kernel
theorem dX11_shattered_11 : decode cX11_shattered 11 = .ok (.invokevirtual 135, 3) := by decide +kernel
theorem dX11_shattered_14 : decode cX11_shattered 14 = .ok (.aload_n 0, 1) := by decide +kernel
theorem dX11_shattered_15 : decode cX11_shattered 15 = .ok (.iload_n 1, 1) := by decide +kernel
theorem dX11_shattered_16 : decode cX11_shattered 16 = .ok (.invokevirtual 206, 3) := by decide +kernel
theorem dX11_shattered_19 : decode cX11_shattered 19 = .ok (.ifCond .eq 7, 3) := by decide +kernel
theorem dX11_shattered_22 : decode cX11_shattered 22 = .ok (.iconst 1, 1) := by decide +kernel
theorem dX11_shattered_23 : decode cX11_shattered 23 = .ok (.goto 4, 3) := by decide +kernel
theorem dX11_shattered_26 : decode cX11_shattered 26 = .ok (.iconst 0, 1) := by decide +kernel
theorem dX11_shattered_27 : decode cX11_shattered 27 = .ok (.ireturn, 1) := by decide +kernel
theorem dX11_fewest_0 : decode cX11_fewest 0 = .ok (.aload_n 0, 1) := by decide +kernel
theorem dX11_fewest_1 : decode cX11_fewest 1 = .ok (.iload_n 1, 1) := by decide +kernel
theorem dX11_fewest_2 : decode cX11_fewest 2 = .ok (.invokevirtual 95, 3) := by decide +kernel
theorem dX11_fewest_5 : decode cX11_fewest 5 = .ok (.ifCond .ne 5, 3) := by decide +kernel
theorem dX11_fewest_8 : decode cX11_fewest 8 = .ok (.iconst (-1), 1) := by decide +kernel
theorem dX11_fewest_9 : decode cX11_fewest 9 = .ok (.ireturn, 1) := by decide +kernel
theorem dX11_fewest_10 : decode cX11_fewest 10 = .ok (.iconst 0, 1) := by decide +kernel
theorem dX11_fewest_11 : decode cX11_fewest 11 = .ok (.istore_n 2, 1) := by decide +kernel
theorem dX11_fewest_12 : decode cX11_fewest 12 = .ok (.iload_n 2, 1) := by decide +kernel
theorem dX11_fewest_13 : decode cX11_fewest 13 = .ok (.sipush 128, 3) := by decide +kernel
theorem dX11_fewest_16 : decode cX11_fewest 16 = .ok (.if_icmp .ge 26, 3) := by decide +kernel
theorem dX11_fewest_19 : decode cX11_fewest 19 = .ok (.aload_n 0, 1) := by decide +kernel
theorem dX11_fewest_20 : decode cX11_fewest 20 = .ok (.getfield 57, 3) := by decide +kernel
theorem dX11_fewest_23 : decode cX11_fewest 23 = .ok (.iload_n 2, 1) := by decide +kernel
theorem dX11_fewest_24 : decode cX11_fewest 24 = .ok (.iload_n 2, 1) := by decide +kernel
theorem dX11_fewest_25 : decode cX11_fewest 25 = .ok (.ifCond .ne 7, 3) := by decide +kernel
theorem dX11_fewest_28 : decode cX11_fewest 28 = .ok (.iconst 0, 1) := by decide +kernel
theorem dX11_fewest_29 : decode cX11_fewest 29 = .ok (.goto 6, 3) := by decide +kernel
theorem dX11_fewest_32 : decode cX11_fewest 32 = .ok (.sipush 128, 3) := by decide +kernel
theorem dX11_fewest_35 : decode cX11_fewest 35 = .ok (.iastore, 1) := by decide +kernel
theorem dX11_fewest_36 : decode cX11_fewest 36 = .ok (.iinc 2 1, 3) := by decide +kernel
theorem dX11_fewest_39 : decode cX11_fewest 39 = .ok (.goto (-27), 3) := by decide +kernel
theorem dX11_fewest_42 : decode cX11_fewest 42 = .ok (.iconst 1, 1) := by decide +kernel
theorem dX11_fewest_43 : decode cX11_fewest 43 = .ok (.istore_n 2, 1) := by decide +kernel
theorem dX11_fewest_44 : decode cX11_fewest 44 = .ok (.iload_n 2, 1) := by decide +kernel
theorem dX11_fewest_45 : decode cX11_fewest 45 = .ok (.ifCond .eq 91, 3) := by decide +kernel
theorem dX11_fewest_48 : decode cX11_fewest 48 = .ok (.iconst 0, 1) := by decide +kernel
theorem dX11_fewest_49 : decode cX11_fewest 49 = .ok (.istore_n 2, 1) := by decide +kernel
theorem dX11_fewest_50 : decode cX11_fewest 50 = .ok (.iconst 0, 1) := by decide +kernel
theorem dX11_fewest_51 : decode cX11_fewest 51 = .ok (.istore_n 3, 1) := by decide +kernel
theorem dX11_fewest_52 : decode cX11_fewest 52 = .ok (.iload_n 3, 1) := by decide +kernel
theorem dX11_fewest_53 : decode cX11_fewest 53 = .ok (.sipush 128, 3) := by decide +kernel
theorem dX11_fewest_56 : decode cX11_fewest 56 = .ok (.if_icmp .ge 77, 3) := by decide +kernel
theorem dX11_fewest_59 : decode cX11_fewest 59 = .ok (.iconst 0, 1) := by decide +kernel
theorem dX11_fewest_60 : decode cX11_fewest 60 = .ok (.istore 4, 2) := by decide +kernel
theorem dX11_fewest_62 : decode cX11_fewest 62 = .ok (.iload 4, 2) := by decide +kernel
theorem dX11_fewest_64 : decode cX11_fewest 64 = .ok (.aload_n 0, 1) := by decide +kernel
theorem dX11_fewest_65 : decode cX11_fewest 65 = .ok (.invokevirtual 80, 3) := by decide +kernel
theorem dX11_fewest_68 : decode cX11_fewest 68 = .ok (.if_icmp .ge 59, 3) := by decide +kernel
theorem dX11_fewest_71 : decode cX11_fewest 71 = .ok (.aload_n 0, 1) := by decide +kernel
theorem dX11_fewest_72 : decode cX11_fewest 72 = .ok (.getfield 57, 3) := by decide +kernel
theorem dX11_fewest_75 : decode cX11_fewest 75 = .ok (.iload_n 3, 1) := by decide +kernel
theorem dX11_fewest_76 : decode cX11_fewest 76 = .ok (.iaload, 1) := by decide +kernel
theorem dX11_fewest_77 : decode cX11_fewest 77 = .ok (.iconst 1, 1) := by decide +kernel
theorem dX11_fewest_78 : decode cX11_fewest 78 = .ok (.iadd, 1) := by decide +kernel
theorem dX11_fewest_79 : decode cX11_fewest 79 = .ok (.aload_n 0, 1) := by decide +kernel
theorem dX11_fewest_80 : decode cX11_fewest 80 = .ok (.getfield 57, 3) := by decide +kernel
theorem dX11_fewest_83 : decode cX11_fewest 83 = .ok (.iload_n 3, 1) := by decide +kernel
theorem dX11_fewest_84 : decode cX11_fewest 84 = .ok (.aload_n 0, 1) := by decide +kernel
theorem dX11_fewest_85 : decode cX11_fewest 85 = .ok (.iload 4, 2) := by decide +kernel
theorem dX11_fewest_87 : decode cX11_fewest 87 = .ok (.invokevirtual 112, 3) := by decide +kernel
theorem dX11_fewest_90 : decode cX11_fewest 90 = .ok (.ior, 1) := by decide +kernel
theorem dX11_fewest_91 : decode cX11_fewest 91 = .ok (.iaload, 1) := by decide +kernel
theorem dX11_fewest_92 : decode cX11_fewest 92 = .ok (.if_icmp .lt 6, 3) := by decide +kernel
theorem dX11_fewest_95 : decode cX11_fewest 95 = .ok (.goto 26, 3) := by decide +kernel
theorem dX11_fewest_98 : decode cX11_fewest 98 = .ok (.aload_n 0, 1) := by decide +kernel
theorem dX11_fewest_99 : decode cX11_fewest 99 = .ok (.getfield 57, 3) := by decide +kernel
theorem dX11_fewest_102 : decode cX11_fewest 102 = .ok (.iload_n 3, 1) := by decide +kernel
theorem dX11_fewest_103 : decode cX11_fewest 103 = .ok (.aload_n 0, 1) := by decide +kernel
theorem dX11_fewest_104 : decode cX11_fewest 104 = .ok (.iload 4, 2) := by decide +kernel
theorem dX11_fewest_106 : decode cX11_fewest 106 = .ok (.invokevirtual 112, 3) := by decide +kernel
theorem dX11_fewest_109 : decode cX11_fewest 109 = .ok (.ior, 1) := by decide +kernel
theorem dX11_fewest_110 : decode cX11_fewest 110 = .ok (.aload_n 0, 1) := by decide +kernel
theorem dX11_fewest_111 : decode cX11_fewest 111 = .ok (.getfield 57, 3) := by decide +kernel
theorem dX11_fewest_114 : decode cX11_fewest 114 = .ok (.iload_n 3, 1) := by decide +kernel
theorem dX11_fewest_115 : decode cX11_fewest 115 = .ok (.iaload, 1) := by decide +kernel
theorem dX11_fewest_116 : decode cX11_fewest 116 = .ok (.iconst 1, 1) := by decide +kernel
theorem dX11_fewest_117 : decode cX11_fewest 117 = .ok (.iadd, 1) := by decide +kernel
theorem dX11_fewest_118 : decode cX11_fewest 118 = .ok (.iastore, 1) := by decide +kernel
theorem dX11_fewest_119 : decode cX11_fewest 119 = .ok (.iconst 1, 1) := by decide +kernel
theorem dX11_fewest_120 : decode cX11_fewest 120 = .ok (.istore_n 2, 1) := by decide +kernel
theorem dX11_fewest_121 : decode cX11_fewest 121 = .ok (.iinc 4 1, 3) := by decide +kernel
theorem dX11_fewest_124 : decode cX11_fewest 124 = .ok (.goto (-62), 3) := by decide +kernel
theorem dX11_fewest_127 : decode cX11_fewest 127 = .ok (.iinc 3 1, 3) := by decide +kernel
theorem dX11_fewest_130 : decode cX11_fewest 130 = .ok (.goto (-78), 3) := by decide +kernel
theorem dX11_fewest_133 : decode cX11_fewest 133 = .ok (.goto (-89), 3) := by decide +kernel
theorem dX11_fewest_136 : decode cX11_fewest 136 = .ok (.aload_n 0, 1) := by decide +kernel
theorem dX11_fewest_137 : decode cX11_fewest 137 = .ok (.getfield 57, 3) := by decide +kernel
theorem dX11_fewest_140 : decode cX11_fewest 140 = .ok (.iload_n 1, 1) := by decide +kernel
theorem dX11_fewest_141 : decode cX11_fewest 141 = .ok (.iaload, 1) := by decide +kernel
theorem dX11_fewest_142 : decode cX11_fewest 142 = .ok (.sipush 128, 3) := by decide +kernel
theorem dX11_fewest_145 : decode cX11_fewest 145 = .ok (.if_icmp .ne 8, 3) := by decide +kernel
theorem dX11_fewest_148 : decode cX11_fewest 148 = .ok (.bipush (-2), 2) := by decide +kernel
theorem dX11_fewest_150 : decode cX11_fewest 150 = .ok (.goto 9, 3) := by decide +kernel
theorem dX11_fewest_153 : decode cX11_fewest 153 = .ok (.aload_n 0, 1) := by decide +kernel
theorem dX11_fewest_154 : decode cX11_fewest 154 = .ok (.getfield 57, 3) := by decide +kernel
theorem dX11_fewest_157 : decode cX11_fewest 157 = .ok (.iload_n 1, 1) := by decide +kernel
theorem dX11_fewest_158 : decode cX11_fewest 158 = .ok (.iaload, 1) := by decide +kernel
theorem dX11_fewest_159 : decode cX11_fewest 159 = .ok (.ireturn, 1) := by decide +kernel
theorem dX11_withOne_0 : decode cX11_withOne 0 = .ok (.aload_n 0, 1) := by decide +kernel
theorem dX11_withOne_1 : decode cX11_withOne 1 = .ok (.aload_n 0, 1) := by decide +kernel
theorem dX11_withOne_2 : decode cX11_withOne 2 = .ok (.getfield 36, 3) := by decide +kernel
theorem dX11_withOne_5 : decode cX11_withOne 5 = .ok (.iconst (-1), 1) := by decide +kernel
theorem dX11_withOne_6 : decode cX11_withOne 6 = .ok (.iload_n 1, 1) := by decide +kernel
theorem dX11_withOne_7 : decode cX11_withOne 7 = .ok (.invokevirtual 153, 3) := by decide +kernel
theorem dX11_withOne_10 : decode cX11_withOne 10 = .ok (.aload_n 0, 1) := by decide +kernel
theorem dX11_withOne_11 : decode cX11_withOne 11 = .ok (.getfield 36, 3) := by decide +kernel
theorem dX11_withOne_14 : decode cX11_withOne 14 = .ok (.invokestatic 167, 3) := by decide +kernel
theorem dX11_withOne_17 : decode cX11_withOne 17 = .ok (.ireturn, 1) := by decide +kernel
theorem dX11_withSet_0 : decode cX11_withSet 0 = .ok (.aload_n 0, 1) := by decide +kernel
theorem dX11_withSet_1 : decode cX11_withSet 1 = .ok (.iload_n 1, 1) := by decide +kernel
theorem dX11_withSet_2 : decode cX11_withSet 2 = .ok (.invokevirtual 95, 3) := by decide +kernel
theorem dX11_withSet_5 : decode cX11_withSet 5 = .ok (.ifCond .eq 15, 3) := by decide +kernel
theorem dX11_withSet_8 : decode cX11_withSet 8 = .ok (.iload_n 1, 1) := by decide +kernel
theorem dX11_withSet_9 : decode cX11_withSet 9 = .ok (.ifCond .eq 11, 3) := by decide +kernel
theorem dX11_withSet_12 : decode cX11_withSet 12 = .ok (.aload_n 0, 1) := by decide +kernel
theorem dX11_withSet_13 : decode cX11_withSet 13 = .ok (.iload_n 1, 1) := by decide +kernel
theorem dX11_withSet_14 : decode cX11_withSet 14 = .ok (.invokevirtual 244, 3) := by decide +kernel
theorem dX11_withSet_17 : decode cX11_withSet 17 = .ok (.goto 4, 3) := by decide +kernel
theorem dX11_withSet_20 : decode cX11_withSet 20 = .ok (.iconst (-1), 1) := by decide +kernel
theorem dX11_withSet_21 : decode cX11_withSet 21 = .ok (.ireturn, 1) := by decide +kernel
theorem dX11_withoutGenerator_0 : decode cX11_withoutGenerator 0 = .ok (.aload_n 0, 1) := by decide +kernel
theorem dX11_withoutGenerator_1 : decode cX11_withoutGenerator 1 = .ok (.iload_n 1, 1) := by decide +kernel
theorem dX11_withoutGenerator_2 : decode cX11_withoutGenerator 2 = .ok (.invokevirtual 105, 3) := by decide +kernel
theorem dX11_withoutGenerator_5 : decode cX11_withoutGenerator 5 = .ok (.ifCond .ne 5, 3) := by decide +kernel
theorem dX11_withoutGenerator_8 : decode cX11_withoutGenerator 8 = .ok (.iconst (-1), 1) := by decide +kernel
theorem dX11_withoutGenerator_9 : decode cX11_withoutGenerator 9 = .ok (.ireturn, 1) := by decide +kernel
theorem dX11_withoutGenerator_10 : decode cX11_withoutGenerator 10 = .ok (.aload_n 0, 1) := by decide +kernel
theorem dX11_withoutGenerator_11 : decode cX11_withoutGenerator 11 = .ok (.aload_n 0, 1) := by decide +kernel
theorem dX11_withoutGenerator_12 : decode cX11_withoutGenerator 12 = .ok (.getfield 36, 3) := by decide +kernel
theorem dX11_withoutGenerator_15 : decode cX11_withoutGenerator 15 = .ok (.iload_n 1, 1) := by decide +kernel
theorem dX11_withoutGenerator_16 : decode cX11_withoutGenerator 16 = .ok (.iconst 0, 1) := by decide +kernel
theorem dX11_withoutGenerator_17 : decode cX11_withoutGenerator 17 = .ok (.invokevirtual 153, 3) := by decide +kernel
theorem dX11_withoutGenerator_20 : decode cX11_withoutGenerator 20 = .ok (.aload_n 0, 1) := by decide +kernel
theorem dX11_withoutGenerator_21 : decode cX11_withoutGenerator 21 = .ok (.getfield 36, 3) := by decide +kernel
theorem dX11_withoutGenerator_24 : decode cX11_withoutGenerator 24 = .ok (.invokestatic 167, 3) := by decide +kernel
theorem dX11_withoutGenerator_27 : decode cX11_withoutGenerator 27 = .ok (.ireturn, 1) := by decide +kernel
theorem dX11_gentlest_0 : decode cX11_gentlest 0 = .ok (.aload_n 0, 1) := by decide +kernel
theorem dX11_gentlest_1 : decode cX11_gentlest 1 = .ok (.invokevirtual 135, 3) := by decide +kernel
theorem dX11_gentlest_4 : decode cX11_gentlest 4 = .ok (.bipush (-2), 2) := by decide +kernel
theorem dX11_gentlest_6 : decode cX11_gentlest 6 = .ok (.istore_n 1, 1) := by decide +kernel
theorem dX11_gentlest_7 : decode cX11_gentlest 7 = .ok (.sipush 129, 3) := by decide +kernel
theorem dX11_gentlest_10 : decode cX11_gentlest 10 = .ok (.istore_n 2, 1) := by decide +kernel
theorem dX11_gentlest_11 : decode cX11_gentlest 11 = .ok (.iconst 1, 1) := by decide +kernel
theorem dX11_gentlest_12 : decode cX11_gentlest 12 = .ok (.istore_n 3, 1) := by decide +kernel
theorem dX11_gentlest_13 : decode cX11_gentlest 13 = .ok (.iload_n 3, 1) := by decide +kernel
theorem dX11_gentlest_14 : decode cX11_gentlest 14 = .ok (.bipush 7, 2) := by decide +kernel
theorem dX11_gentlest_16 : decode cX11_gentlest 16 = .ok (.if_icmp .gt 72, 3) := by decide +kernel
theorem dX11_gentlest_19 : decode cX11_gentlest 19 = .ok (.iconst 1, 1) := by decide +kernel
theorem dX11_gentlest_20 : decode cX11_gentlest 20 = .ok (.istore 4, 2) := by decide +kernel
theorem dX11_gentlest_22 : decode cX11_gentlest 22 = .ok (.iload 4, 2) := by decide +kernel
theorem dX11_gentlest_24 : decode cX11_gentlest 24 = .ok (.aload_n 0, 1) := by decide +kernel
theorem dX11_gentlest_25 : decode cX11_gentlest 25 = .ok (.invokevirtual 88, 3) := by decide +kernel
theorem dX11_gentlest_28 : decode cX11_gentlest 28 = .ok (.if_icmp .gt 54, 3) := by decide +kernel
theorem dX11_gentlest_31 : decode cX11_gentlest 31 = .ok (.iload 4, 2) := by decide +kernel
theorem dX11_gentlest_33 : decode cX11_gentlest 33 = .ok (.invokestatic 157, 3) := by decide +kernel
theorem dX11_gentlest_36 : decode cX11_gentlest 36 = .ok (.iload_n 3, 1) := by decide +kernel
theorem dX11_gentlest_37 : decode cX11_gentlest 37 = .ok (.if_icmp .ne 39, 3) := by decide +kernel
theorem dX11_gentlest_40 : decode cX11_gentlest 40 = .ok (.aload_n 0, 1) := by decide +kernel
theorem dX11_gentlest_41 : decode cX11_gentlest 41 = .ok (.getfield 26, 3) := by decide +kernel
theorem dX11_gentlest_44 : decode cX11_gentlest 44 = .ok (.iload 4, 2) := by decide +kernel
theorem dX11_gentlest_46 : decode cX11_gentlest 46 = .ok (.baload, 1) := by decide +kernel
theorem dX11_gentlest_47 : decode cX11_gentlest 47 = .ok (.ifCond .eq 6, 3) := by decide +kernel
theorem dX11_gentlest_50 : decode cX11_gentlest 50 = .ok (.goto 26, 3) := by decide +kernel
theorem dX11_gentlest_53 : decode cX11_gentlest 53 = .ok (.aload_n 0, 1) := by decide +kernel
theorem dX11_gentlest_54 : decode cX11_gentlest 54 = .ok (.iload 4, 2) := by decide +kernel
theorem dX11_gentlest_56 : decode cX11_gentlest 56 = .ok (.invokevirtual 244, 3) := by decide +kernel
theorem dX11_gentlest_59 : decode cX11_gentlest 59 = .ok (.istore 5, 2) := by decide +kernel
theorem dX11_gentlest_61 : decode cX11_gentlest 61 = .ok (.iload 5, 2) := by decide +kernel
theorem dX11_gentlest_63 : decode cX11_gentlest 63 = .ok (.iload_n 2, 1) := by decide +kernel
theorem dX11_gentlest_64 : decode cX11_gentlest 64 = .ok (.if_icmp .lt 6, 3) := by decide +kernel
theorem dX11_gentlest_67 : decode cX11_gentlest 67 = .ok (.goto 9, 3) := by decide +kernel
theorem dX11_gentlest_70 : decode cX11_gentlest 70 = .ok (.iload 5, 2) := by decide +kernel
theorem dX11_gentlest_72 : decode cX11_gentlest 72 = .ok (.istore_n 2, 1) := by decide +kernel
theorem dX11_gentlest_73 : decode cX11_gentlest 73 = .ok (.iload 4, 2) := by decide +kernel
theorem dX11_gentlest_75 : decode cX11_gentlest 75 = .ok (.istore_n 1, 1) := by decide +kernel
theorem dX11_gentlest_76 : decode cX11_gentlest 76 = .ok (.iinc 4 1, 3) := by decide +kernel
theorem dX11_gentlest_79 : decode cX11_gentlest 79 = .ok (.goto (-57), 3) := by decide +kernel
theorem dX11_gentlest_82 : decode cX11_gentlest 82 = .ok (.iinc 3 1, 3) := by decide +kernel
theorem dX11_gentlest_85 : decode cX11_gentlest 85 = .ok (.goto (-72), 3) := by decide +kernel
theorem dX11_gentlest_88 : decode cX11_gentlest 88 = .ok (.iload_n 1, 1) := by decide +kernel
theorem dX11_gentlest_89 : decode cX11_gentlest 89 = .ok (.ireturn, 1) := by decide +kernel
theorem dX11_spoiler_0 : decode cX11_spoiler 0 = .ok (.bipush (-2), 2) := by decide +kernel
theorem dX11_spoiler_2 : decode cX11_spoiler 2 = .ok (.istore_n 1, 1) := by decide +kernel
theorem dX11_spoiler_3 : decode cX11_spoiler 3 = .ok (.bipush 8, 2) := by decide +kernel
theorem dX11_spoiler_5 : decode cX11_spoiler 5 = .ok (.istore_n 2, 1) := by decide +kernel
theorem dX11_spoiler_6 : decode cX11_spoiler 6 = .ok (.iconst 1, 1) := by decide +kernel
theorem dX11_spoiler_7 : decode cX11_spoiler 7 = .ok (.istore_n 3, 1) := by decide +kernel
theorem dX11_spoiler_8 : decode cX11_spoiler 8 = .ok (.iload_n 3, 1) := by decide +kernel
theorem dX11_spoiler_9 : decode cX11_spoiler 9 = .ok (.bipush 7, 2) := by decide +kernel
theorem dX11_spoiler_11 : decode cX11_spoiler 11 = .ok (.if_icmp .gt 78, 3) := by decide +kernel
theorem dX11_spoiler_14 : decode cX11_spoiler 14 = .ok (.iconst 1, 1) := by decide +kernel
theorem dX11_spoiler_15 : decode cX11_spoiler 15 = .ok (.istore 4, 2) := by decide +kernel
theorem dX11_spoiler_17 : decode cX11_spoiler 17 = .ok (.iload 4, 2) := by decide +kernel
theorem dX11_spoiler_19 : decode cX11_spoiler 19 = .ok (.aload_n 0, 1) := by decide +kernel
theorem dX11_spoiler_20 : decode cX11_spoiler 20 = .ok (.invokevirtual 88, 3) := by decide +kernel
theorem dX11_spoiler_23 : decode cX11_spoiler 23 = .ok (.if_icmp .gt 60, 3) := by decide +kernel
theorem dX11_spoiler_26 : decode cX11_spoiler 26 = .ok (.iload 4, 2) := by decide +kernel
theorem dX11_spoiler_28 : decode cX11_spoiler 28 = .ok (.invokestatic 157, 3) := by decide +kernel
theorem dX11_spoiler_31 : decode cX11_spoiler 31 = .ok (.iload_n 3, 1) := by decide +kernel
theorem dX11_spoiler_32 : decode cX11_spoiler 32 = .ok (.if_icmp .eq 6, 3) := by decide +kernel
theorem dX11_spoiler_35 : decode cX11_spoiler 35 = .ok (.goto 42, 3) := by decide +kernel
theorem dX11_spoiler_38 : decode cX11_spoiler 38 = .ok (.aload_n 0, 1) := by decide +kernel
theorem dX11_spoiler_39 : decode cX11_spoiler 39 = .ok (.aload_n 0, 1) := by decide +kernel
theorem dX11_spoiler_40 : decode cX11_spoiler 40 = .ok (.getfield 36, 3) := by decide +kernel
theorem dX11_spoiler_43 : decode cX11_spoiler 43 = .ok (.iconst (-1), 1) := by decide +kernel
theorem dX11_spoiler_44 : decode cX11_spoiler 44 = .ok (.iload 4, 2) := by decide +kernel
theorem dX11_spoiler_46 : decode cX11_spoiler 46 = .ok (.invokevirtual 153, 3) := by decide +kernel
theorem dX11_spoiler_49 : decode cX11_spoiler 49 = .ok (.aload_n 0, 1) := by decide +kernel
theorem dX11_spoiler_50 : decode cX11_spoiler 50 = .ok (.aload_n 0, 1) := by decide +kernel
theorem dX11_spoiler_51 : decode cX11_spoiler 51 = .ok (.getfield 36, 3) := by decide +kernel
theorem dX11_spoiler_54 : decode cX11_spoiler 54 = .ok (.invokevirtual 188, 3) := by decide +kernel
theorem dX11_spoiler_57 : decode cX11_spoiler 57 = .ok (.invokestatic 157, 3) := by decide +kernel
theorem dX11_spoiler_60 : decode cX11_spoiler 60 = .ok (.istore 5, 2) := by decide +kernel
theorem dX11_spoiler_62 : decode cX11_spoiler 62 = .ok (.iload 5, 2) := by decide +kernel
theorem dX11_spoiler_64 : decode cX11_spoiler 64 = .ok (.iload_n 2, 1) := by decide +kernel
theorem dX11_spoiler_65 : decode cX11_spoiler 65 = .ok (.if_icmp .lt 6, 3) := by decide +kernel
theorem dX11_spoiler_68 : decode cX11_spoiler 68 = .ok (.goto 9, 3) := by decide +kernel
theorem dX11_spoiler_71 : decode cX11_spoiler 71 = .ok (.iload 5, 2) := by decide +kernel
theorem dX11_spoiler_73 : decode cX11_spoiler 73 = .ok (.istore_n 2, 1) := by decide +kernel
theorem dX11_spoiler_74 : decode cX11_spoiler 74 = .ok (.iload 4, 2) := by decide +kernel
theorem dX11_spoiler_76 : decode cX11_spoiler 76 = .ok (.istore_n 1, 1) := by decide +kernel
theorem dX11_spoiler_77 : decode cX11_spoiler 77 = .ok (.iinc 4 1, 3) := by decide +kernel
theorem dX11_spoiler_80 : decode cX11_spoiler 80 = .ok (.goto (-63), 3) := by decide +kernel
theorem dX11_spoiler_83 : decode cX11_spoiler 83 = .ok (.iinc 3 1, 3) := by decide +kernel
theorem dX11_spoiler_86 : decode cX11_spoiler 86 = .ok (.goto (-78), 3) := by decide +kernel
theorem dX11_spoiler_89 : decode cX11_spoiler 89 = .ok (.iload_n 1, 1) := by decide +kernel
theorem dX11_spoiler_90 : decode cX11_spoiler 90 = .ok (.ireturn, 1) := by decide +kernel
theorem dX11_sumOf_0 : decode cX11_sumOf 0 = .ok (.iload_n 1, 1) := by decide +kernel
theorem dX11_sumOf_1 : decode cX11_sumOf 1 = .ok (.istore_n 2, 1) := by decide +kernel
theorem dX11_sumOf_2 : decode cX11_sumOf 2 = .ok (.iconst 0, 1) := by decide +kernel
theorem dX11_sumOf_3 : decode cX11_sumOf 3 = .ok (.istore_n 3, 1) := by decide +kernel
theorem dX11_sumOf_4 : decode cX11_sumOf 4 = .ok (.aload_n 0, 1) := by decide +kernel
theorem dX11_sumOf_5 : decode cX11_sumOf 5 = .ok (.getfield 13, 3) := by decide +kernel
theorem dX11_sumOf_8 : decode cX11_sumOf 8 = .ok (.iconst 0, 1) := by decide +kernel
theorem dX11_sumOf_9 : decode cX11_sumOf 9 = .ok (.iaload, 1) := by decide +kernel
theorem dX11_sumOf_10 : decode cX11_sumOf 10 = .ok (.iconst 1, 1) := by decide +kernel
theorem dX11_sumOf_11 : decode cX11_sumOf 11 = .ok (.isub, 1) := by decide +kernel
theorem dX11_sumOf_12 : decode cX11_sumOf 12 = .ok (.istore 4, 2) := by decide +kernel
theorem dX11_sumOf_14 : decode cX11_sumOf 14 = .ok (.iload 4, 2) := by decide +kernel
theorem dX11_sumOf_16 : decode cX11_sumOf 16 = .ok (.ifCond .lt 33, 3) := by decide +kernel
theorem dX11_sumOf_19 : decode cX11_sumOf 19 = .ok (.aload_n 0, 1) := by decide +kernel
theorem dX11_sumOf_20 : decode cX11_sumOf 20 = .ok (.getfield 60, 3) := by decide +kernel
theorem dX11_sumOf_23 : decode cX11_sumOf 23 = .ok (.iload 4, 2) := by decide +kernel
theorem dX11_sumOf_25 : decode cX11_sumOf 25 = .ok (.iload_n 2, 1) := by decide +kernel
theorem dX11_sumOf_26 : decode cX11_sumOf 26 = .ok (.iconst 3, 1) := by decide +kernel
theorem dX11_sumOf_27 : decode cX11_sumOf 27 = .ok (.irem, 1) := by decide +kernel
theorem dX11_sumOf_28 : decode cX11_sumOf 28 = .ok (.iastore, 1) := by decide +kernel
theorem dX11_sumOf_29 : decode cX11_sumOf 29 = .ok (.iload_n 3, 1) := by decide +kernel
theorem dX11_sumOf_30 : decode cX11_sumOf 30 = .ok (.aload_n 0, 1) := by decide +kernel
theorem dX11_sumOf_31 : decode cX11_sumOf 31 = .ok (.getfield 60, 3) := by decide +kernel
theorem dX11_sumOf_34 : decode cX11_sumOf 34 = .ok (.iload 4, 2) := by decide +kernel
theorem dX11_sumOf_36 : decode cX11_sumOf 36 = .ok (.iaload, 1) := by decide +kernel
theorem dX11_sumOf_37 : decode cX11_sumOf 37 = .ok (.iadd, 1) := by decide +kernel
theorem dX11_sumOf_38 : decode cX11_sumOf 38 = .ok (.istore_n 3, 1) := by decide +kernel
theorem dX11_sumOf_39 : decode cX11_sumOf 39 = .ok (.iload_n 2, 1) := by decide +kernel
theorem dX11_sumOf_40 : decode cX11_sumOf 40 = .ok (.iconst 3, 1) := by decide +kernel
theorem dX11_sumOf_41 : decode cX11_sumOf 41 = .ok (.idiv, 1) := by decide +kernel
theorem dX11_sumOf_42 : decode cX11_sumOf 42 = .ok (.istore_n 2, 1) := by decide +kernel
theorem dX11_sumOf_43 : decode cX11_sumOf 43 = .ok (.iinc 4 (-1), 3) := by decide +kernel
theorem dX11_sumOf_46 : decode cX11_sumOf 46 = .ok (.goto (-32), 3) := by decide +kernel
theorem dX11_sumOf_49 : decode cX11_sumOf 49 = .ok (.iload_n 3, 1) := by decide +kernel
theorem dX11_sumOf_50 : decode cX11_sumOf 50 = .ok (.ireturn, 1) := by decide +kernel
theorem dX11_isProved_0 : decode cX11_isProved 0 = .ok (.iconst 0, 1) := by decide +kernel
theorem dX11_isProved_1 : decode cX11_isProved 1 = .ok (.istore_n 1, 1) := by decide +kernel
theorem dX11_isProved_2 : decode cX11_isProved 2 = .ok (.iconst 0, 1) := by decide +kernel
theorem dX11_isProved_3 : decode cX11_isProved 3 = .ok (.istore_n 2, 1) := by decide +kernel
theorem dX11_isProved_4 : decode cX11_isProved 4 = .ok (.iconst 0, 1) := by decide +kernel
theorem dX11_isProved_5 : decode cX11_isProved 5 = .ok (.istore_n 3, 1) := by decide +kernel
theorem dX11_isProved_6 : decode cX11_isProved 6 = .ok (.iload_n 3, 1) := by decide +kernel
theorem dX11_isProved_7 : decode cX11_isProved 7 = .ok (.aload_n 0, 1) := by decide +kernel
theorem dX11_isProved_8 : decode cX11_isProved 8 = .ok (.getfield 13, 3) := by decide +kernel
theorem dX11_isProved_11 : decode cX11_isProved 11 = .ok (.iconst 0, 1) := by decide +kernel
theorem dX11_isProved_12 : decode cX11_isProved 12 = .ok (.iaload, 1) := by decide +kernel
theorem dX11_isProved_13 : decode cX11_isProved 13 = .ok (.if_icmp .ge 47, 3) := by decide +kernel
theorem dX11_isProved_16 : decode cX11_isProved 16 = .ok (.iload_n 1, 1) := by decide +kernel
theorem dX11_isProved_17 : decode cX11_isProved 17 = .ok (.aload_n 0, 1) := by decide +kernel
theorem dX11_isProved_18 : decode cX11_isProved 18 = .ok (.getfield 60, 3) := by decide +kernel
theorem dX11_isProved_21 : decode cX11_isProved 21 = .ok (.iload_n 3, 1) := by decide +kernel
theorem dX11_isProved_22 : decode cX11_isProved 22 = .ok (.iaload, 1) := by decide +kernel
theorem dX11_isProved_23 : decode cX11_isProved 23 = .ok (.aload_n 0, 1) := by decide +kernel
theorem dX11_isProved_24 : decode cX11_isProved 24 = .ok (.getfield 26, 3) := by decide +kernel
theorem dX11_isProved_27 : decode cX11_isProved 27 = .ok (.iload_n 3, 1) := by decide +kernel
theorem dX11_isProved_28 : decode cX11_isProved 28 = .ok (.invokestatic 171, 3) := by decide +kernel
theorem dX11_isProved_31 : decode cX11_isProved 31 = .ok (.imul, 1) := by decide +kernel
theorem dX11_isProved_32 : decode cX11_isProved 32 = .ok (.iadd, 1) := by decide +kernel
theorem dX11_isProved_33 : decode cX11_isProved 33 = .ok (.istore_n 1, 1) := by decide +kernel
theorem dX11_isProved_34 : decode cX11_isProved 34 = .ok (.aload_n 0, 1) := by decide +kernel
theorem dX11_isProved_35 : decode cX11_isProved 35 = .ok (.invokevirtual 181, 3) := by decide +kernel
theorem dX11_isProved_38 : decode cX11_isProved 38 = .ok (.iload_n 3, 1) := by decide +kernel
theorem dX11_isProved_39 : decode cX11_isProved 39 = .ok (.invokestatic 128, 3) := by decide +kernel
theorem dX11_isProved_42 : decode cX11_isProved 42 = .ok (.ifCond .eq 12, 3) := by decide +kernel
theorem dX11_isProved_45 : decode cX11_isProved 45 = .ok (.iload_n 2, 1) := by decide +kernel
theorem dX11_isProved_46 : decode cX11_isProved 46 = .ok (.aload_n 0, 1) := by decide +kernel
theorem dX11_isProved_47 : decode cX11_isProved 47 = .ok (.getfield 60, 3) := by decide +kernel
theorem dX11_isProved_50 : decode cX11_isProved 50 = .ok (.iload_n 3, 1) := by decide +kernel
theorem dX11_isProved_51 : decode cX11_isProved 51 = .ok (.iaload, 1) := by decide +kernel
theorem dX11_isProved_52 : decode cX11_isProved 52 = .ok (.iadd, 1) := by decide +kernel
theorem dX11_isProved_53 : decode cX11_isProved 53 = .ok (.istore_n 2, 1) := by decide +kernel
theorem dX11_isProved_54 : decode cX11_isProved 54 = .ok (.iinc 3 1, 3) := by decide +kernel
theorem dX11_isProved_57 : decode cX11_isProved 57 = .ok (.goto (-51), 3) := by decide +kernel
theorem dX11_isProved_60 : decode cX11_isProved 60 = .ok (.iload_n 2, 1) := by decide +kernel
theorem dX11_isProved_61 : decode cX11_isProved 61 = .ok (.ifCond .le 19, 3) := by decide +kernel
theorem dX11_isProved_64 : decode cX11_isProved 64 = .ok (.iconst 2, 1) := by decide +kernel
theorem dX11_isProved_65 : decode cX11_isProved 65 = .ok (.iload_n 1, 1) := by decide +kernel
theorem dX11_isProved_66 : decode cX11_isProved 66 = .ok (.imul, 1) := by decide +kernel
theorem dX11_isProved_67 : decode cX11_isProved 67 = .ok (.iload_n 2, 1) := by decide +kernel
theorem dX11_isProved_68 : decode cX11_isProved 68 = .ok (.aload_n 0, 1) := by decide +kernel
theorem dX11_isProved_69 : decode cX11_isProved 69 = .ok (.getfield 141, 3) := by decide +kernel
theorem dX11_isProved_72 : decode cX11_isProved 72 = .ok (.imul, 1) := by decide +kernel
theorem dX11_isProved_73 : decode cX11_isProved 73 = .ok (.if_icmp .lt 7, 3) := by decide +kernel
theorem dX11_isProved_76 : decode cX11_isProved 76 = .ok (.iconst 1, 1) := by decide +kernel
theorem dX11_isProved_77 : decode cX11_isProved 77 = .ok (.goto 4, 3) := by decide +kernel
theorem dX11_isProved_80 : decode cX11_isProved 80 = .ok (.iconst 0, 1) := by decide +kernel
theorem dX11_isProved_81 : decode cX11_isProved 81 = .ok (.ireturn, 1) := by decide +kernel
theorem dX11_proof_0 : decode cX11_proof 0 = .ok (.aload_n 0, 1) := by decide +kernel
theorem dX11_proof_1 : decode cX11_proof 1 = .ok (.invokevirtual 135, 3) := by decide +kernel
theorem dX11_proof_4 : decode cX11_proof 4 = .ok (.iconst 1, 1) := by decide +kernel
theorem dX11_proof_5 : decode cX11_proof 5 = .ok (.istore_n 1, 1) := by decide +kernel
theorem dX11_proof_6 : decode cX11_proof 6 = .ok (.iconst 0, 1) := by decide +kernel
theorem dX11_proof_7 : decode cX11_proof 7 = .ok (.istore_n 2, 1) := by decide +kernel
theorem dX11_proof_8 : decode cX11_proof 8 = .ok (.iload_n 2, 1) := by decide +kernel
theorem dX11_proof_9 : decode cX11_proof 9 = .ok (.aload_n 0, 1) := by decide +kernel
theorem dX11_proof_10 : decode cX11_proof 10 = .ok (.getfield 13, 3) := by decide +kernel
theorem dX11_proof_13 : decode cX11_proof 13 = .ok (.iconst 0, 1) := by decide +kernel
theorem dX11_proof_14 : decode cX11_proof 14 = .ok (.iaload, 1) := by decide +kernel
theorem dX11_proof_15 : decode cX11_proof 15 = .ok (.if_icmp .ge 13, 3) := by decide +kernel
theorem dX11_proof_18 : decode cX11_proof 18 = .ok (.iload_n 1, 1) := by decide +kernel
theorem dX11_proof_19 : decode cX11_proof 19 = .ok (.iconst 3, 1) := by decide +kernel
theorem dX11_proof_20 : decode cX11_proof 20 = .ok (.imul, 1) := by decide +kernel
theorem dX11_proof_21 : decode cX11_proof 21 = .ok (.istore_n 1, 1) := by decide +kernel
theorem dX11_proof_22 : decode cX11_proof 22 = .ok (.iinc 2 1, 3) := by decide +kernel
theorem dX11_proof_25 : decode cX11_proof 25 = .ok (.goto (-17), 3) := by decide +kernel
theorem dX11_proof_28 : decode cX11_proof 28 = .ok (.sipush 128, 3) := by decide +kernel
theorem dX11_proof_31 : decode cX11_proof 31 = .ok (.istore_n 2, 1) := by decide +kernel
theorem dX11_proof_32 : decode cX11_proof 32 = .ok (.bipush (-2), 2) := by decide +kernel
theorem dX11_proof_34 : decode cX11_proof 34 = .ok (.istore_n 3, 1) := by decide +kernel
theorem dX11_proof_35 : decode cX11_proof 35 = .ok (.iconst 1, 1) := by decide +kernel
theorem dX11_proof_36 : decode cX11_proof 36 = .ok (.istore 4, 2) := by decide +kernel
theorem dX11_proof_38 : decode cX11_proof 38 = .ok (.iload 4, 2) := by decide +kernel
theorem dX11_proof_40 : decode cX11_proof 40 = .ok (.iload_n 1, 1) := by decide +kernel
theorem dX11_proof_41 : decode cX11_proof 41 = .ok (.if_icmp .ge 71, 3) := by decide +kernel
theorem dX11_proof_44 : decode cX11_proof 44 = .ok (.aload_n 0, 1) := by decide +kernel
theorem dX11_proof_45 : decode cX11_proof 45 = .ok (.iload 4, 2) := by decide +kernel
theorem dX11_proof_47 : decode cX11_proof 47 = .ok (.invokevirtual 247, 3) := by decide +kernel
theorem dX11_proof_50 : decode cX11_proof 50 = .ok (.istore 5, 2) := by decide +kernel
theorem dX11_proof_52 : decode cX11_proof 52 = .ok (.iload 5, 2) := by decide +kernel
theorem dX11_proof_54 : decode cX11_proof 54 = .ok (.iload_n 2, 1) := by decide +kernel
theorem dX11_proof_55 : decode cX11_proof 55 = .ok (.if_icmp .ge 51, 3) := by decide +kernel
theorem dX11_proof_58 : decode cX11_proof 58 = .ok (.aload_n 0, 1) := by decide +kernel
theorem dX11_proof_59 : decode cX11_proof 59 = .ok (.invokevirtual 250, 3) := by decide +kernel
theorem dX11_proof_62 : decode cX11_proof 62 = .ok (.ifCond .ne 6, 3) := by decide +kernel
theorem dX11_proof_65 : decode cX11_proof 65 = .ok (.goto 41, 3) := by decide +kernel
theorem dX11_proof_68 : decode cX11_proof 68 = .ok (.iload 5, 2) := by decide +kernel
theorem dX11_proof_70 : decode cX11_proof 70 = .ok (.istore_n 2, 1) := by decide +kernel
theorem dX11_proof_71 : decode cX11_proof 71 = .ok (.iconst 0, 1) := by decide +kernel
theorem dX11_proof_72 : decode cX11_proof 72 = .ok (.istore_n 3, 1) := by decide +kernel
theorem dX11_proof_73 : decode cX11_proof 73 = .ok (.iconst 0, 1) := by decide +kernel
theorem dX11_proof_74 : decode cX11_proof 74 = .ok (.istore 6, 2) := by decide +kernel
theorem dX11_proof_76 : decode cX11_proof 76 = .ok (.iload 6, 2) := by decide +kernel
theorem dX11_proof_78 : decode cX11_proof 78 = .ok (.aload_n 0, 1) := by decide +kernel
theorem dX11_proof_79 : decode cX11_proof 79 = .ok (.getfield 13, 3) := by decide +kernel
theorem dX11_proof_82 : decode cX11_proof 82 = .ok (.iconst 0, 1) := by decide +kernel
theorem dX11_proof_83 : decode cX11_proof 83 = .ok (.iaload, 1) := by decide +kernel
theorem dX11_proof_84 : decode cX11_proof 84 = .ok (.if_icmp .ge 22, 3) := by decide +kernel
theorem dX11_proof_87 : decode cX11_proof 87 = .ok (.bipush 10, 2) := by decide +kernel
theorem dX11_proof_89 : decode cX11_proof 89 = .ok (.iload_n 3, 1) := by decide +kernel
theorem dX11_proof_90 : decode cX11_proof 90 = .ok (.imul, 1) := by decide +kernel
theorem dX11_proof_91 : decode cX11_proof 91 = .ok (.aload_n 0, 1) := by decide +kernel
theorem dX11_proof_92 : decode cX11_proof 92 = .ok (.getfield 60, 3) := by decide +kernel
theorem dX11_proof_95 : decode cX11_proof 95 = .ok (.iload 6, 2) := by decide +kernel
theorem dX11_proof_97 : decode cX11_proof 97 = .ok (.iaload, 1) := by decide +kernel
theorem dX11_proof_98 : decode cX11_proof 98 = .ok (.iadd, 1) := by decide +kernel
theorem dX11_proof_99 : decode cX11_proof 99 = .ok (.istore_n 3, 1) := by decide +kernel
theorem dX11_proof_100 : decode cX11_proof 100 = .ok (.iinc 6 1, 3) := by decide +kernel
theorem dX11_proof_103 : decode cX11_proof 103 = .ok (.goto (-27), 3) := by decide +kernel
theorem dX11_proof_106 : decode cX11_proof 106 = .ok (.iinc 4 1, 3) := by decide +kernel
theorem dX11_proof_109 : decode cX11_proof 109 = .ok (.goto (-71), 3) := by decide +kernel
theorem dX11_proof_112 : decode cX11_proof 112 = .ok (.iload_n 3, 1) := by decide +kernel
theorem dX11_proof_113 : decode cX11_proof 113 = .ok (.ireturn, 1) := by decide +kernel
theorem dX11_listed_0 : decode cX11_listed 0 = .ok (.iload_n 1, 1) := by decide +kernel
theorem dX11_listed_1 : decode cX11_listed 1 = .ok (.iconst 0, 1) := by decide +kernel
theorem dX11_listed_2 : decode cX11_listed 2 = .ok (.aload_n 0, 1) := by decide +kernel
theorem dX11_listed_3 : decode cX11_listed 3 = .ok (.invokevirtual 147, 3) := by decide +kernel
theorem dX11_listed_6 : decode cX11_listed 6 = .ok (.iconst 1, 1) := by decide +kernel
theorem dX11_listed_7 : decode cX11_listed 7 = .ok (.isub, 1) := by decide +kernel
theorem dX11_listed_8 : decode cX11_listed 8 = .ok (.invokestatic 84, 3) := by decide +kernel
theorem dX11_listed_11 : decode cX11_listed 11 = .ok (.ifCond .eq 15, 3) := by decide +kernel
theorem dX11_listed_14 : decode cX11_listed 14 = .ok (.aload_n 0, 1) := by decide +kernel
theorem dX11_listed_15 : decode cX11_listed 15 = .ok (.getfield 13, 3) := by decide +kernel
theorem dX11_listed_18 : decode cX11_listed 18 = .ok (.bipush 22, 2) := by decide +kernel
theorem dX11_listed_20 : decode cX11_listed 20 = .ok (.iload_n 1, 1) := by decide +kernel
theorem dX11_listed_21 : decode cX11_listed 21 = .ok (.iadd, 1) := by decide +kernel
theorem dX11_listed_22 : decode cX11_listed 22 = .ok (.iaload, 1) := by decide +kernel
theorem dX11_listed_23 : decode cX11_listed 23 = .ok (.goto 4, 3) := by decide +kernel
theorem dX11_listed_26 : decode cX11_listed 26 = .ok (.iconst (-1), 1) := by decide +kernel
theorem dX11_listed_27 : decode cX11_listed 27 = .ok (.ireturn, 1) := by decide +kernel
theorem dX11_refused_0 : decode cX11_refused 0 = .ok (.iload_n 1, 1) := by decide +kernel
theorem dX11_refused_1 : decode cX11_refused 1 = .ok (.iconst 0, 1) := by decide +kernel
theorem dX11_refused_2 : decode cX11_refused 2 = .ok (.iconst 2, 1) := by decide +kernel
theorem dX11_refused_3 : decode cX11_refused 3 = .ok (.invokestatic 84, 3) := by decide +kernel
theorem dX11_refused_6 : decode cX11_refused 6 = .ok (.ifCond .ne 5, 3) := by decide +kernel
theorem dX11_refused_9 : decode cX11_refused 9 = .ok (.iconst (-1), 1) := by decide +kernel
theorem dX11_refused_10 : decode cX11_refused 10 = .ok (.ireturn, 1) := by decide +kernel
theorem dX11_refused_11 : decode cX11_refused 11 = .ok (.iconst 0, 1) := by decide +kernel
theorem dX11_refused_12 : decode cX11_refused 12 = .ok (.istore_n 2, 1) := by decide +kernel
theorem dX11_refused_13 : decode cX11_refused 13 = .ok (.iload_n 2, 1) := by decide +kernel
theorem dX11_refused_14 : decode cX11_refused 14 = .ok (.aload_n 0, 1) := by decide +kernel
theorem dX11_refused_15 : decode cX11_refused 15 = .ok (.invokevirtual 147, 3) := by decide +kernel
theorem dX11_refused_18 : decode cX11_refused 18 = .ok (.if_icmp .ge 77, 3) := by decide +kernel
theorem dX11_refused_21 : decode cX11_refused 21 = .ok (.iload_n 2, 1) := by decide +kernel
theorem dX11_refused_22 : decode cX11_refused 22 = .ok (.iconst 1, 1) := by decide +kernel
theorem dX11_refused_23 : decode cX11_refused 23 = .ok (.iadd, 1) := by decide +kernel
theorem dX11_refused_24 : decode cX11_refused 24 = .ok (.istore_n 3, 1) := by decide +kernel
theorem dX11_refused_25 : decode cX11_refused 25 = .ok (.iload_n 3, 1) := by decide +kernel
theorem dX11_refused_26 : decode cX11_refused 26 = .ok (.aload_n 0, 1) := by decide +kernel
theorem dX11_refused_27 : decode cX11_refused 27 = .ok (.invokevirtual 147, 3) := by decide +kernel
theorem dX11_refused_30 : decode cX11_refused 30 = .ok (.if_icmp .ge 59, 3) := by decide +kernel
theorem dX11_refused_33 : decode cX11_refused 33 = .ok (.aload_n 0, 1) := by decide +kernel
theorem dX11_refused_34 : decode cX11_refused 34 = .ok (.getfield 13, 3) := by decide +kernel
theorem dX11_refused_37 : decode cX11_refused 37 = .ok (.bipush 22, 2) := by decide +kernel
theorem dX11_refused_39 : decode cX11_refused 39 = .ok (.iload_n 2, 1) := by decide +kernel
theorem dX11_refused_40 : decode cX11_refused 40 = .ok (.iadd, 1) := by decide +kernel
theorem dX11_refused_41 : decode cX11_refused 41 = .ok (.iaload, 1) := by decide +kernel
theorem dX11_refused_42 : decode cX11_refused 42 = .ok (.aload_n 0, 1) := by decide +kernel
theorem dX11_refused_43 : decode cX11_refused 43 = .ok (.getfield 13, 3) := by decide +kernel
theorem dX11_refused_46 : decode cX11_refused 46 = .ok (.bipush 22, 2) := by decide +kernel
theorem dX11_refused_48 : decode cX11_refused 48 = .ok (.iload_n 3, 1) := by decide +kernel
theorem dX11_refused_49 : decode cX11_refused 49 = .ok (.iadd, 1) := by decide +kernel
theorem dX11_refused_50 : decode cX11_refused 50 = .ok (.iaload, 1) := by decide +kernel
theorem dX11_refused_51 : decode cX11_refused 51 = .ok (.ior, 1) := by decide +kernel
theorem dX11_refused_52 : decode cX11_refused 52 = .ok (.istore 4, 2) := by decide +kernel
theorem dX11_refused_54 : decode cX11_refused 54 = .ok (.aload_n 0, 1) := by decide +kernel
theorem dX11_refused_55 : decode cX11_refused 55 = .ok (.iload 4, 2) := by decide +kernel
theorem dX11_refused_57 : decode cX11_refused 57 = .ok (.invokevirtual 150, 3) := by decide +kernel
theorem dX11_refused_60 : decode cX11_refused 60 = .ok (.ifCond .ne 23, 3) := by decide +kernel
theorem dX11_refused_63 : decode cX11_refused 63 = .ok (.iload_n 1, 1) := by decide +kernel
theorem dX11_refused_64 : decode cX11_refused 64 = .ok (.ifCond .ne 7, 3) := by decide +kernel
theorem dX11_refused_67 : decode cX11_refused 67 = .ok (.iload_n 2, 1) := by decide +kernel
theorem dX11_refused_68 : decode cX11_refused 68 = .ok (.goto 14, 3) := by decide +kernel
theorem dX11_refused_71 : decode cX11_refused 71 = .ok (.iload_n 1, 1) := by decide +kernel
theorem dX11_refused_72 : decode cX11_refused 72 = .ok (.iconst 1, 1) := by decide +kernel
theorem dX11_refused_73 : decode cX11_refused 73 = .ok (.if_icmp .ne 7, 3) := by decide +kernel
theorem dX11_refused_76 : decode cX11_refused 76 = .ok (.iload_n 3, 1) := by decide +kernel
theorem dX11_refused_77 : decode cX11_refused 77 = .ok (.goto 5, 3) := by decide +kernel
theorem dX11_refused_80 : decode cX11_refused 80 = .ok (.iload 4, 2) := by decide +kernel
theorem dX11_refused_82 : decode cX11_refused 82 = .ok (.ireturn, 1) := by decide +kernel
theorem dX11_refused_83 : decode cX11_refused 83 = .ok (.iinc 3 1, 3) := by decide +kernel
theorem dX11_refused_86 : decode cX11_refused 86 = .ok (.goto (-61), 3) := by decide +kernel
theorem dX11_refused_89 : decode cX11_refused 89 = .ok (.iinc 2 1, 3) := by decide +kernel
theorem dX11_refused_92 : decode cX11_refused 92 = .ok (.goto (-79), 3) := by decide +kernel
theorem dX11_refused_95 : decode cX11_refused 95 = .ok (.bipush (-2), 2) := by decide +kernel
theorem dX11_refused_97 : decode cX11_refused 97 = .ok (.ireturn, 1) := by decide +kernel
theorem dX11_needs_0 : decode cX11_needs 0 = .ok (.iconst 0, 1) := by decide +kernel
theorem dX11_needs_1 : decode cX11_needs 1 = .ok (.istore_n 1, 1) := by decide +kernel
theorem dX11_needs_2 : decode cX11_needs 2 = .ok (.iload_n 1, 1) := by decide +kernel
theorem dX11_needs_3 : decode cX11_needs 3 = .ok (.sipush 128, 3) := by decide +kernel
theorem dX11_needs_6 : decode cX11_needs 6 = .ok (.if_icmp .ge 24, 3) := by decide +kernel
theorem dX11_needs_9 : decode cX11_needs 9 = .ok (.aload_n 0, 1) := by decide +kernel
theorem dX11_needs_10 : decode cX11_needs 10 = .ok (.getfield 36, 3) := by decide +kernel
theorem dX11_needs_13 : decode cX11_needs 13 = .ok (.iload_n 1, 1) := by decide +kernel
theorem dX11_needs_14 : decode cX11_needs 14 = .ok (.iload_n 1, 1) := by decide +kernel
theorem dX11_needs_15 : decode cX11_needs 15 = .ok (.ifCond .ne 7, 3) := by decide +kernel
theorem dX11_needs_18 : decode cX11_needs 18 = .ok (.iconst 1, 1) := by decide +kernel
theorem dX11_needs_19 : decode cX11_needs 19 = .ok (.goto 4, 3) := by decide +kernel
theorem dX11_needs_22 : decode cX11_needs 22 = .ok (.iconst 0, 1) := by decide +kernel
theorem dX11_needs_23 : decode cX11_needs 23 = .ok (.bastore, 1) := by decide +kernel
theorem dX11_needs_24 : decode cX11_needs 24 = .ok (.iinc 1 1, 3) := by decide +kernel
theorem dX11_needs_27 : decode cX11_needs 27 = .ok (.goto (-25), 3) := by decide +kernel
theorem dX11_needs_30 : decode cX11_needs 30 = .ok (.iconst 0, 1) := by decide +kernel
theorem dX11_needs_31 : decode cX11_needs 31 = .ok (.istore_n 1, 1) := by decide +kernel
theorem dX11_needs_32 : decode cX11_needs 32 = .ok (.iload_n 1, 1) := by decide +kernel
theorem dX11_needs_33 : decode cX11_needs 33 = .ok (.aload_n 0, 1) := by decide +kernel
theorem dX11_needs_34 : decode cX11_needs 34 = .ok (.invokevirtual 147, 3) := by decide +kernel
theorem dX11_needs_37 : decode cX11_needs 37 = .ok (.if_icmp .ge 50, 3) := by decide +kernel
theorem dX11_needs_40 : decode cX11_needs 40 = .ok (.iconst 0, 1) := by decide +kernel
theorem dX11_needs_41 : decode cX11_needs 41 = .ok (.istore_n 2, 1) := by decide +kernel
theorem dX11_needs_42 : decode cX11_needs 42 = .ok (.iload_n 2, 1) := by decide +kernel
theorem dX11_needs_43 : decode cX11_needs 43 = .ok (.sipush 128, 3) := by decide +kernel
theorem dX11_needs_46 : decode cX11_needs 46 = .ok (.if_icmp .ge 35, 3) := by decide +kernel
theorem dX11_needs_49 : decode cX11_needs 49 = .ok (.aload_n 0, 1) := by decide +kernel
theorem dX11_needs_50 : decode cX11_needs 50 = .ok (.getfield 36, 3) := by decide +kernel
theorem dX11_needs_53 : decode cX11_needs 53 = .ok (.iload_n 2, 1) := by decide +kernel
theorem dX11_needs_54 : decode cX11_needs 54 = .ok (.baload, 1) := by decide +kernel
theorem dX11_needs_55 : decode cX11_needs 55 = .ok (.ifCond .eq 20, 3) := by decide +kernel
theorem dX11_needs_58 : decode cX11_needs 58 = .ok (.aload_n 0, 1) := by decide +kernel
theorem dX11_needs_59 : decode cX11_needs 59 = .ok (.getfield 36, 3) := by decide +kernel
theorem dX11_needs_62 : decode cX11_needs 62 = .ok (.iload_n 2, 1) := by decide +kernel
theorem dX11_needs_63 : decode cX11_needs 63 = .ok (.aload_n 0, 1) := by decide +kernel
theorem dX11_needs_64 : decode cX11_needs 64 = .ok (.getfield 13, 3) := by decide +kernel
theorem dX11_needs_67 : decode cX11_needs 67 = .ok (.bipush 22, 2) := by decide +kernel
theorem dX11_needs_69 : decode cX11_needs 69 = .ok (.iload_n 1, 1) := by decide +kernel
theorem dX11_needs_70 : decode cX11_needs 70 = .ok (.iadd, 1) := by decide +kernel
theorem dX11_needs_71 : decode cX11_needs 71 = .ok (.iaload, 1) := by decide +kernel
theorem dX11_needs_72 : decode cX11_needs 72 = .ok (.ior, 1) := by decide +kernel
theorem dX11_needs_73 : decode cX11_needs 73 = .ok (.iconst 1, 1) := by decide +kernel
theorem dX11_needs_74 : decode cX11_needs 74 = .ok (.bastore, 1) := by decide +kernel
theorem dX11_needs_75 : decode cX11_needs 75 = .ok (.iinc 2 1, 3) := by decide +kernel
theorem dX11_needs_78 : decode cX11_needs 78 = .ok (.goto (-36), 3) := by decide +kernel
theorem dX11_needs_81 : decode cX11_needs 81 = .ok (.iinc 1 1, 3) := by decide +kernel
theorem dX11_needs_84 : decode cX11_needs 84 = .ok (.goto (-52), 3) := by decide +kernel
theorem dX11_needs_87 : decode cX11_needs 87 = .ok (.aload_n 0, 1) := by decide +kernel
theorem dX11_needs_88 : decode cX11_needs 88 = .ok (.getfield 36, 3) := by decide +kernel
theorem dX11_needs_91 : decode cX11_needs 91 = .ok (.invokestatic 167, 3) := by decide +kernel
theorem dX11_needs_94 : decode cX11_needs 94 = .ok (.iconst 1, 1) := by decide +kernel
theorem dX11_needs_95 : decode cX11_needs 95 = .ok (.isub, 1) := by decide +kernel
theorem dX11_needs_96 : decode cX11_needs 96 = .ok (.aload_n 0, 1) := by decide +kernel
theorem dX11_needs_97 : decode cX11_needs 97 = .ok (.invokevirtual 147, 3) := by decide +kernel
theorem dX11_needs_100 : decode cX11_needs 100 = .ok (.isub, 1) := by decide +kernel
theorem dX11_needs_101 : decode cX11_needs 101 = .ok (.ireturn, 1) := by decide +kernel
theorem dX11_writes_0 : decode cX11_writes 0 = .ok (.aload_n 0, 1) := by decide +kernel
theorem dX11_writes_1 : decode cX11_writes 1 = .ok (.getfield 63, 3) := by decide +kernel
theorem dX11_writes_4 : decode cX11_writes 4 = .ok (.aload_n 0, 1) := by decide +kernel
theorem dX11_writes_5 : decode cX11_writes 5 = .ok (.getfield 254, 3) := by decide +kernel
theorem dX11_writes_8 : decode cX11_writes 8 = .ok (.iload_n 1, 1) := by decide +kernel
theorem dX11_writes_9 : decode cX11_writes 9 = .ok (.iastore, 1) := by decide +kernel
theorem dX11_writes_10 : decode cX11_writes 10 = .ok (.aload_n 0, 1) := by decide +kernel
theorem dX11_writes_11 : decode cX11_writes 11 = .ok (.dup, 1) := by decide +kernel
theorem dX11_writes_12 : decode cX11_writes 12 = .ok (.getfield 254, 3) := by decide +kernel
theorem dX11_writes_15 : decode cX11_writes 15 = .ok (.iconst 1, 1) := by decide +kernel
theorem dX11_writes_16 : decode cX11_writes 16 = .ok (.iadd, 1) := by decide +kernel
theorem dX11_writes_17 : decode cX11_writes 17 = .ok (.putfield 254, 3) := by decide +kernel
theorem dX11_writes_20 : decode cX11_writes 20 = .ok (.return_, 1) := by decide +kernel
theorem dX11_writesWord_0 : decode cX11_writesWord 0 = .ok (.aload_n 0, 1) := by decide +kernel
theorem dX11_writesWord_1 : decode cX11_writesWord 1 = .ok (.iload_n 1, 1) := by decide +kernel
theorem dX11_writesWord_2 : decode cX11_writesWord 2 = .ok (.invokevirtual 257, 3) := by decide +kernel
theorem dX11_writesWord_5 : decode cX11_writesWord 5 = .ok (.istore_n 2, 1) := by decide +kernel
theorem dX11_writesWord_6 : decode cX11_writesWord 6 = .ok (.aload_n 0, 1) := by decide +kernel
theorem dX11_writesWord_7 : decode cX11_writesWord 7 = .ok (.getfield 69, 3) := by decide +kernel
theorem dX11_writesWord_10 : decode cX11_writesWord 10 = .ok (.iload_n 2, 1) := by decide +kernel
theorem dX11_writesWord_11 : decode cX11_writesWord 11 = .ok (.baload, 1) := by decide +kernel
theorem dX11_writesWord_12 : decode cX11_writesWord 12 = .ok (.ifCond .eq 19, 3) := by decide +kernel
theorem dX11_writesWord_15 : decode cX11_writesWord 15 = .ok (.aload_n 0, 1) := by decide +kernel
theorem dX11_writesWord_16 : decode cX11_writesWord 16 = .ok (.aload_n 0, 1) := by decide +kernel
theorem dX11_writesWord_17 : decode cX11_writesWord 17 = .ok (.getfield 69, 3) := by decide +kernel
theorem dX11_writesWord_20 : decode cX11_writesWord 20 = .ok (.iload_n 2, 1) := by decide +kernel
theorem dX11_writesWord_21 : decode cX11_writesWord 21 = .ok (.baload, 1) := by decide +kernel
theorem dX11_writesWord_22 : decode cX11_writesWord 22 = .ok (.invokevirtual 260, 3) := by decide +kernel
theorem dX11_writesWord_25 : decode cX11_writesWord 25 = .ok (.iinc 2 1, 3) := by decide +kernel
theorem dX11_writesWord_28 : decode cX11_writesWord 28 = .ok (.goto (-22), 3) := by decide +kernel
theorem dX11_writesWord_31 : decode cX11_writesWord 31 = .ok (.aload_n 0, 1) := by decide +kernel
theorem dX11_writesWord_32 : decode cX11_writesWord 32 = .ok (.bipush 32, 2) := by decide +kernel
theorem dX11_writesWord_34 : decode cX11_writesWord 34 = .ok (.invokevirtual 260, 3) := by decide +kernel
theorem dX11_writesWord_37 : decode cX11_writesWord 37 = .ok (.return_, 1) := by decide +kernel
theorem dX11_spell_0 : decode cX11_spell 0 = .ok (.iload_n 1, 1) := by decide +kernel
theorem dX11_spell_1 : decode cX11_spell 1 = .ok (.iconst (-1), 1) := by decide +kernel
theorem dX11_spell_2 : decode cX11_spell 2 = .ok (.if_icmp .ge 5, 3) := by decide +kernel
theorem dX11_spell_5 : decode cX11_spell 5 = .ok (.iconst (-1), 1) := by decide +kernel
theorem dX11_spell_6 : decode cX11_spell 6 = .ok (.ireturn, 1) := by decide +kernel
theorem dX11_spell_7 : decode cX11_spell 7 = .ok (.aload_n 0, 1) := by decide +kernel
theorem dX11_spell_8 : decode cX11_spell 8 = .ok (.iconst 0, 1) := by decide +kernel
theorem dX11_spell_9 : decode cX11_spell 9 = .ok (.putfield 254, 3) := by decide +kernel
theorem dX11_spell_12 : decode cX11_spell 12 = .ok (.aload_n 0, 1) := by decide +kernel
theorem dX11_spell_13 : decode cX11_spell 13 = .ok (.iconst 0, 1) := by decide +kernel
theorem dX11_spell_14 : decode cX11_spell 14 = .ok (.invokevirtual 263, 3) := by decide +kernel
theorem dX11_spell_17 : decode cX11_spell 17 = .ok (.aload_n 0, 1) := by decide +kernel
theorem dX11_spell_18 : decode cX11_spell 18 = .ok (.bipush 48, 2) := by decide +kernel
theorem dX11_spell_20 : decode cX11_spell 20 = .ok (.aload_n 0, 1) := by decide +kernel
theorem dX11_spell_21 : decode cX11_spell 21 = .ok (.getfield 13, 3) := by decide +kernel
theorem dX11_spell_24 : decode cX11_spell 24 = .ok (.iconst 0, 1) := by decide +kernel
theorem dX11_spell_25 : decode cX11_spell 25 = .ok (.iaload, 1) := by decide +kernel
theorem dX11_spell_26 : decode cX11_spell 26 = .ok (.iadd, 1) := by decide +kernel
theorem dX11_spell_27 : decode cX11_spell 27 = .ok (.invokevirtual 260, 3) := by decide +kernel
theorem dX11_spell_30 : decode cX11_spell 30 = .ok (.aload_n 0, 1) := by decide +kernel
theorem dX11_spell_31 : decode cX11_spell 31 = .ok (.bipush 59, 2) := by decide +kernel
theorem dX11_spell_33 : decode cX11_spell 33 = .ok (.invokevirtual 260, 3) := by decide +kernel
theorem dX11_spell_36 : decode cX11_spell 36 = .ok (.iconst 0, 1) := by decide +kernel
theorem dX11_spell_37 : decode cX11_spell 37 = .ok (.istore_n 2, 1) := by decide +kernel
theorem dX11_spell_38 : decode cX11_spell 38 = .ok (.iload_n 2, 1) := by decide +kernel
theorem dX11_spell_39 : decode cX11_spell 39 = .ok (.aload_n 0, 1) := by decide +kernel
theorem dX11_spell_40 : decode cX11_spell 40 = .ok (.getfield 13, 3) := by decide +kernel
theorem dX11_spell_43 : decode cX11_spell 43 = .ok (.iconst 0, 1) := by decide +kernel
theorem dX11_spell_44 : decode cX11_spell 44 = .ok (.iaload, 1) := by decide +kernel
theorem dX11_spell_45 : decode cX11_spell 45 = .ok (.if_icmp .ge 64, 3) := by decide +kernel
theorem dX11_spell_48 : decode cX11_spell 48 = .ok (.aload_n 0, 1) := by decide +kernel
theorem dX11_spell_49 : decode cX11_spell 49 = .ok (.getfield 13, 3) := by decide +kernel
theorem dX11_spell_52 : decode cX11_spell 52 = .ok (.iconst 3, 1) := by decide +kernel
theorem dX11_spell_53 : decode cX11_spell 53 = .ok (.iload_n 2, 1) := by decide +kernel
theorem dX11_spell_54 : decode cX11_spell 54 = .ok (.iadd, 1) := by decide +kernel
theorem dX11_spell_55 : decode cX11_spell 55 = .ok (.iaload, 1) := by decide +kernel
theorem dX11_spell_56 : decode cX11_spell 56 = .ok (.iconst 1, 1) := by decide +kernel
theorem dX11_spell_57 : decode cX11_spell 57 = .ok (.if_icmp .ne 6, 3) := by decide +kernel
theorem dX11_spell_60 : decode cX11_spell 60 = .ok (.goto 43, 3) := by decide +kernel
theorem dX11_spell_63 : decode cX11_spell 63 = .ok (.aload_n 0, 1) := by decide +kernel
theorem dX11_spell_64 : decode cX11_spell 64 = .ok (.iconst 1, 1) := by decide +kernel
theorem dX11_spell_65 : decode cX11_spell 65 = .ok (.invokevirtual 263, 3) := by decide +kernel
theorem dX11_spell_68 : decode cX11_spell 68 = .ok (.aload_n 0, 1) := by decide +kernel
theorem dX11_spell_69 : decode cX11_spell 69 = .ok (.bipush 97, 2) := by decide +kernel
theorem dX11_spell_71 : decode cX11_spell 71 = .ok (.iload_n 2, 1) := by decide +kernel
theorem dX11_spell_72 : decode cX11_spell 72 = .ok (.iadd, 1) := by decide +kernel
theorem dX11_spell_73 : decode cX11_spell 73 = .ok (.invokevirtual 260, 3) := by decide +kernel
theorem dX11_spell_76 : decode cX11_spell 76 = .ok (.aload_n 0, 1) := by decide +kernel
theorem dX11_spell_77 : decode cX11_spell 77 = .ok (.bipush 32, 2) := by decide +kernel
theorem dX11_spell_79 : decode cX11_spell 79 = .ok (.invokevirtual 260, 3) := by decide +kernel
theorem dX11_spell_82 : decode cX11_spell 82 = .ok (.aload_n 0, 1) := by decide +kernel
theorem dX11_spell_83 : decode cX11_spell 83 = .ok (.bipush 48, 2) := by decide +kernel
theorem dX11_spell_85 : decode cX11_spell 85 = .ok (.aload_n 0, 1) := by decide +kernel
theorem dX11_spell_86 : decode cX11_spell 86 = .ok (.getfield 13, 3) := by decide +kernel
theorem dX11_spell_89 : decode cX11_spell 89 = .ok (.iconst 3, 1) := by decide +kernel
theorem dX11_spell_90 : decode cX11_spell 90 = .ok (.iload_n 2, 1) := by decide +kernel
theorem dX11_spell_91 : decode cX11_spell 91 = .ok (.iadd, 1) := by decide +kernel
theorem dX11_spell_92 : decode cX11_spell 92 = .ok (.iaload, 1) := by decide +kernel
theorem dX11_spell_93 : decode cX11_spell 93 = .ok (.iadd, 1) := by decide +kernel
theorem dX11_spell_94 : decode cX11_spell 94 = .ok (.invokevirtual 260, 3) := by decide +kernel
theorem dX11_spell_97 : decode cX11_spell 97 = .ok (.aload_n 0, 1) := by decide +kernel
theorem dX11_spell_98 : decode cX11_spell 98 = .ok (.bipush 59, 2) := by decide +kernel
theorem dX11_spell_100 : decode cX11_spell 100 = .ok (.invokevirtual 260, 3) := by decide +kernel
theorem dX11_spell_103 : decode cX11_spell 103 = .ok (.iinc 2 1, 3) := by decide +kernel
theorem dX11_spell_106 : decode cX11_spell 106 = .ok (.goto (-68), 3) := by decide +kernel
theorem dX11_spell_109 : decode cX11_spell 109 = .ok (.iconst 0, 1) := by decide +kernel
theorem dX11_spell_110 : decode cX11_spell 110 = .ok (.istore_n 2, 1) := by decide +kernel
theorem dX11_spell_111 : decode cX11_spell 111 = .ok (.iload_n 2, 1) := by decide +kernel
theorem dX11_spell_112 : decode cX11_spell 112 = .ok (.aload_n 0, 1) := by decide +kernel
theorem dX11_spell_113 : decode cX11_spell 113 = .ok (.invokevirtual 80, 3) := by decide +kernel
theorem dX11_spell_116 : decode cX11_spell 116 = .ok (.if_icmp .ge 58, 3) := by decide +kernel
theorem dX11_spell_119 : decode cX11_spell 119 = .ok (.aload_n 0, 1) := by decide +kernel
theorem dX11_spell_120 : decode cX11_spell 120 = .ok (.iconst 2, 1) := by decide +kernel
theorem dX11_spell_121 : decode cX11_spell 121 = .ok (.invokevirtual 263, 3) := by decide +kernel
theorem dX11_spell_124 : decode cX11_spell 124 = .ok (.iconst 0, 1) := by decide +kernel
theorem dX11_spell_125 : decode cX11_spell 125 = .ok (.istore_n 3, 1) := by decide +kernel
theorem dX11_spell_126 : decode cX11_spell 126 = .ok (.iload_n 3, 1) := by decide +kernel
theorem dX11_spell_127 : decode cX11_spell 127 = .ok (.aload_n 0, 1) := by decide +kernel
theorem dX11_spell_128 : decode cX11_spell 128 = .ok (.getfield 13, 3) := by decide +kernel
theorem dX11_spell_131 : decode cX11_spell 131 = .ok (.iconst 0, 1) := by decide +kernel
theorem dX11_spell_132 : decode cX11_spell 132 = .ok (.iaload, 1) := by decide +kernel
theorem dX11_spell_133 : decode cX11_spell 133 = .ok (.if_icmp .ge 29, 3) := by decide +kernel
theorem dX11_spell_136 : decode cX11_spell 136 = .ok (.aload_n 0, 1) := by decide +kernel
theorem dX11_spell_137 : decode cX11_spell 137 = .ok (.iload_n 2, 1) := by decide +kernel
theorem dX11_spell_138 : decode cX11_spell 138 = .ok (.invokevirtual 112, 3) := by decide +kernel
theorem dX11_spell_141 : decode cX11_spell 141 = .ok (.iload_n 3, 1) := by decide +kernel
theorem dX11_spell_142 : decode cX11_spell 142 = .ok (.invokestatic 128, 3) := by decide +kernel
theorem dX11_spell_145 : decode cX11_spell 145 = .ok (.ifCond .eq 11, 3) := by decide +kernel
theorem dX11_spell_148 : decode cX11_spell 148 = .ok (.aload_n 0, 1) := by decide +kernel
theorem dX11_spell_149 : decode cX11_spell 149 = .ok (.bipush 97, 2) := by decide +kernel
theorem dX11_spell_151 : decode cX11_spell 151 = .ok (.iload_n 3, 1) := by decide +kernel
theorem dX11_spell_152 : decode cX11_spell 152 = .ok (.iadd, 1) := by decide +kernel
theorem dX11_spell_153 : decode cX11_spell 153 = .ok (.invokevirtual 260, 3) := by decide +kernel
theorem dX11_spell_156 : decode cX11_spell 156 = .ok (.iinc 3 1, 3) := by decide +kernel
theorem dX11_spell_159 : decode cX11_spell 159 = .ok (.goto (-33), 3) := by decide +kernel
theorem dX11_spell_162 : decode cX11_spell 162 = .ok (.aload_n 0, 1) := by decide +kernel
theorem dX11_spell_163 : decode cX11_spell 163 = .ok (.bipush 59, 2) := by decide +kernel
theorem dX11_spell_165 : decode cX11_spell 165 = .ok (.invokevirtual 260, 3) := by decide +kernel
theorem dX11_spell_168 : decode cX11_spell 168 = .ok (.iinc 2 1, 3) := by decide +kernel
theorem dX11_spell_171 : decode cX11_spell 171 = .ok (.goto (-60), 3) := by decide +kernel
theorem dX11_spell_174 : decode cX11_spell 174 = .ok (.iload_n 1, 1) := by decide +kernel
theorem dX11_spell_175 : decode cX11_spell 175 = .ok (.iconst (-1), 1) := by decide +kernel
theorem dX11_spell_176 : decode cX11_spell 176 = .ok (.if_icmp .ne 10, 3) := by decide +kernel
theorem dX11_spell_179 : decode cX11_spell 179 = .ok (.aload_n 0, 1) := by decide +kernel
theorem dX11_spell_180 : decode cX11_spell 180 = .ok (.getfield 254, 3) := by decide +kernel
theorem dX11_spell_183 : decode cX11_spell 183 = .ok (.goto 22, 3) := by decide +kernel
theorem dX11_spell_186 : decode cX11_spell 186 = .ok (.iload_n 1, 1) := by decide +kernel
theorem dX11_spell_187 : decode cX11_spell 187 = .ok (.aload_n 0, 1) := by decide +kernel
theorem dX11_spell_188 : decode cX11_spell 188 = .ok (.getfield 254, 3) := by decide +kernel
theorem dX11_spell_191 : decode cX11_spell 191 = .ok (.if_icmp .ge 12, 3) := by decide +kernel
theorem dX11_spell_194 : decode cX11_spell 194 = .ok (.aload_n 0, 1) := by decide +kernel
theorem dX11_spell_195 : decode cX11_spell 195 = .ok (.getfield 63, 3) := by decide +kernel
theorem dX11_spell_198 : decode cX11_spell 198 = .ok (.iload_n 1, 1) := by decide +kernel
theorem dX11_spell_199 : decode cX11_spell 199 = .ok (.iaload, 1) := by decide +kernel
theorem dX11_spell_200 : decode cX11_spell 200 = .ok (.goto 5, 3) := by decide +kernel
theorem dX11_spell_203 : decode cX11_spell 203 = .ok (.bipush (-2), 2) := by decide +kernel
theorem dX11_spell_205 : decode cX11_spell 205 = .ok (.ireturn, 1) := by decide +kernel
theorem dX11_idle_0 : decode cX11_idle 0 = .ok (.aload_n 0, 1) := by decide +kernel
theorem dX11_idle_1 : decode cX11_idle 1 = .ok (.invokevirtual 135, 3) := by decide +kernel
theorem dX11_idle_4 : decode cX11_idle 4 = .ok (.iconst 0, 1) := by decide +kernel
theorem dX11_idle_5 : decode cX11_idle 5 = .ok (.istore_n 1, 1) := by decide +kernel
theorem dX11_idle_6 : decode cX11_idle 6 = .ok (.iconst 0, 1) := by decide +kernel
theorem dX11_idle_7 : decode cX11_idle 7 = .ok (.istore_n 2, 1) := by decide +kernel
theorem dX11_idle_8 : decode cX11_idle 8 = .ok (.iload_n 2, 1) := by decide +kernel
theorem dX11_idle_9 : decode cX11_idle 9 = .ok (.aload_n 0, 1) := by decide +kernel
theorem dX11_idle_10 : decode cX11_idle 10 = .ok (.invokevirtual 80, 3) := by decide +kernel
theorem dX11_idle_13 : decode cX11_idle 13 = .ok (.if_icmp .ge 24, 3) := by decide +kernel
theorem dX11_idle_16 : decode cX11_idle 16 = .ok (.aload_n 0, 1) := by decide +kernel
theorem dX11_idle_17 : decode cX11_idle 17 = .ok (.aload_n 0, 1) := by decide +kernel
theorem dX11_idle_18 : decode cX11_idle 18 = .ok (.iload_n 2, 1) := by decide +kernel
theorem dX11_idle_19 : decode cX11_idle 19 = .ok (.invokevirtual 112, 3) := by decide +kernel
theorem dX11_idle_22 : decode cX11_idle 22 = .ok (.invokevirtual 138, 3) := by decide +kernel
theorem dX11_idle_25 : decode cX11_idle 25 = .ok (.ifCond .ne 6, 3) := by decide +kernel
theorem dX11_idle_28 : decode cX11_idle 28 = .ok (.iinc 1 1, 3) := by decide +kernel
theorem dX11_idle_31 : decode cX11_idle 31 = .ok (.iinc 2 1, 3) := by decide +kernel
theorem dX11_idle_34 : decode cX11_idle 34 = .ok (.goto (-26), 3) := by decide +kernel
theorem dX11_idle_37 : decode cX11_idle 37 = .ok (.iload_n 1, 1) := by decide +kernel
theorem dX11_idle_38 : decode cX11_idle 38 = .ok (.ireturn, 1) := by decide +kernel
theorem dX11_count_0 : decode cX11_count 0 = .ok (.iload_n 1, 1) := by decide +kernel
theorem dX11_count_1 : decode cX11_count 1 = .ok (.tableswitch 84 0 6 #[43, 50, 55, 60, 65, 70, 75], 43) := by decide +kernel
theorem dX11_count_44 : decode cX11_count 44 = .ok (.aload_n 0, 1) := by decide +kernel
theorem dX11_count_45 : decode cX11_count 45 = .ok (.getfield 13, 3) := by decide +kernel
theorem dX11_count_48 : decode cX11_count 48 = .ok (.iconst 0, 1) := by decide +kernel
theorem dX11_count_49 : decode cX11_count 49 = .ok (.iaload, 1) := by decide +kernel
theorem dX11_count_50 : decode cX11_count 50 = .ok (.ireturn, 1) := by decide +kernel
theorem dX11_count_51 : decode cX11_count 51 = .ok (.aload_n 0, 1) := by decide +kernel
theorem dX11_count_52 : decode cX11_count 52 = .ok (.invokevirtual 80, 3) := by decide +kernel
theorem dX11_count_55 : decode cX11_count 55 = .ok (.ireturn, 1) := by decide +kernel
theorem dX11_count_56 : decode cX11_count 56 = .ok (.aload_n 0, 1) := by decide +kernel
theorem dX11_count_57 : decode cX11_count 57 = .ok (.invokevirtual 147, 3) := by decide +kernel
theorem dX11_count_60 : decode cX11_count 60 = .ok (.ireturn, 1) := by decide +kernel
theorem dX11_count_61 : decode cX11_count 61 = .ok (.aload_n 0, 1) := by decide +kernel
theorem dX11_count_62 : decode cX11_count 62 = .ok (.getfield 77, 3) := by decide +kernel
theorem dX11_count_65 : decode cX11_count 65 = .ok (.ireturn, 1) := by decide +kernel
theorem dX11_count_66 : decode cX11_count 66 = .ok (.aload_n 0, 1) := by decide +kernel
theorem dX11_count_67 : decode cX11_count 67 = .ok (.getfield 266, 3) := by decide +kernel
theorem dX11_count_70 : decode cX11_count 70 = .ok (.ireturn, 1) := by decide +kernel
theorem dX11_count_71 : decode cX11_count 71 = .ok (.aload_n 0, 1) := by decide +kernel
theorem dX11_count_72 : decode cX11_count 72 = .ok (.invokevirtual 269, 3) := by decide +kernel
theorem dX11_count_75 : decode cX11_count 75 = .ok (.ireturn, 1) := by decide +kernel
theorem dX11_count_76 : decode cX11_count 76 = .ok (.aload_n 0, 1) := by decide +kernel
theorem dX11_count_77 : decode cX11_count 77 = .ok (.aload_n 0, 1) := by decide +kernel
theorem dX11_count_78 : decode cX11_count 78 = .ok (.invokevirtual 88, 3) := by decide +kernel
theorem dX11_count_81 : decode cX11_count 81 = .ok (.invokevirtual 212, 3) := by decide +kernel
theorem dX11_count_84 : decode cX11_count 84 = .ok (.ireturn, 1) := by decide +kernel
theorem dX11_count_85 : decode cX11_count 85 = .ok (.iconst (-1), 1) := by decide +kernel
theorem dX11_count_86 : decode cX11_count 86 = .ok (.ireturn, 1) := by decide +kernel
theorem dX11_feed_0 : decode cX11_feed 0 = .ok (.aload_n 0, 1) := by decide +kernel
theorem dX11_feed_1 : decode cX11_feed 1 = .ok (.getfield 266, 3) := by decide +kernel
theorem dX11_feed_4 : decode cX11_feed 4 = .ok (.bipush 20, 2) := by decide +kernel
theorem dX11_feed_6 : decode cX11_feed 6 = .ok (.iadd, 1) := by decide +kernel
theorem dX11_feed_7 : decode cX11_feed 7 = .ok (.sipush 300, 3) := by decide +kernel
theorem dX11_feed_10 : decode cX11_feed 10 = .ok (.if_icmp .le 5, 3) := by decide +kernel
theorem dX11_feed_13 : decode cX11_feed 13 = .ok (.iconst (-1), 1) := by decide +kernel
theorem dX11_feed_14 : decode cX11_feed 14 = .ok (.ireturn, 1) := by decide +kernel
theorem dX11_feed_15 : decode cX11_feed 15 = .ok (.iconst 0, 1) := by decide +kernel
theorem dX11_feed_16 : decode cX11_feed 16 = .ok (.istore 6, 2) := by decide +kernel
theorem dX11_feed_18 : decode cX11_feed 18 = .ok (.iload 6, 2) := by decide +kernel
theorem dX11_feed_20 : decode cX11_feed 20 = .ok (.bipush 20, 2) := by decide +kernel
theorem dX11_feed_22 : decode cX11_feed 22 = .ok (.if_icmp .ge 93, 3) := by decide +kernel
theorem dX11_feed_25 : decode cX11_feed 25 = .ok (.iload 6, 2) := by decide +kernel
theorem dX11_feed_27 : decode cX11_feed 27 = .ok (.iconst 4, 1) := by decide +kernel
theorem dX11_feed_28 : decode cX11_feed 28 = .ok (.if_icmp .ge 7, 3) := by decide +kernel
theorem dX11_feed_31 : decode cX11_feed 31 = .ok (.iload_n 1, 1) := by decide +kernel
theorem dX11_feed_32 : decode cX11_feed 32 = .ok (.goto 39, 3) := by decide +kernel
theorem dX11_feed_35 : decode cX11_feed 35 = .ok (.iload 6, 2) := by decide +kernel
theorem dX11_feed_37 : decode cX11_feed 37 = .ok (.bipush 8, 2) := by decide +kernel
theorem dX11_feed_39 : decode cX11_feed 39 = .ok (.if_icmp .ge 7, 3) := by decide +kernel
theorem dX11_feed_42 : decode cX11_feed 42 = .ok (.iload_n 2, 1) := by decide +kernel
theorem dX11_feed_43 : decode cX11_feed 43 = .ok (.goto 28, 3) := by decide +kernel
theorem dX11_feed_46 : decode cX11_feed 46 = .ok (.iload 6, 2) := by decide +kernel
theorem dX11_feed_48 : decode cX11_feed 48 = .ok (.bipush 12, 2) := by decide +kernel
theorem dX11_feed_50 : decode cX11_feed 50 = .ok (.if_icmp .ge 7, 3) := by decide +kernel
theorem dX11_feed_53 : decode cX11_feed 53 = .ok (.iload_n 3, 1) := by decide +kernel
theorem dX11_feed_54 : decode cX11_feed 54 = .ok (.goto 17, 3) := by decide +kernel
theorem dX11_feed_57 : decode cX11_feed 57 = .ok (.iload 6, 2) := by decide +kernel
theorem dX11_feed_59 : decode cX11_feed 59 = .ok (.bipush 16, 2) := by decide +kernel
theorem dX11_feed_61 : decode cX11_feed 61 = .ok (.if_icmp .ge 8, 3) := by decide +kernel
theorem dX11_feed_64 : decode cX11_feed 64 = .ok (.iload 4, 2) := by decide +kernel
theorem dX11_feed_66 : decode cX11_feed 66 = .ok (.goto 5, 3) := by decide +kernel
theorem dX11_feed_69 : decode cX11_feed 69 = .ok (.iload 5, 2) := by decide +kernel
theorem dX11_feed_71 : decode cX11_feed 71 = .ok (.istore 7, 2) := by decide +kernel
theorem dX11_feed_73 : decode cX11_feed 73 = .ok (.aload_n 0, 1) := by decide +kernel
theorem dX11_feed_74 : decode cX11_feed 74 = .ok (.getfield 66, 3) := by decide +kernel
theorem dX11_feed_77 : decode cX11_feed 77 = .ok (.aload_n 0, 1) := by decide +kernel
theorem dX11_feed_78 : decode cX11_feed 78 = .ok (.getfield 266, 3) := by decide +kernel
theorem dX11_feed_81 : decode cX11_feed 81 = .ok (.iload 7, 2) := by decide +kernel
theorem dX11_feed_83 : decode cX11_feed 83 = .ok (.bipush 24, 2) := by decide +kernel
theorem dX11_feed_85 : decode cX11_feed 85 = .ok (.bipush 8, 2) := by decide +kernel
theorem dX11_feed_87 : decode cX11_feed 87 = .ok (.iload 6, 2) := by decide +kernel
theorem dX11_feed_89 : decode cX11_feed 89 = .ok (.iconst 4, 1) := by decide +kernel
theorem dX11_feed_90 : decode cX11_feed 90 = .ok (.irem, 1) := by decide +kernel
theorem dX11_feed_91 : decode cX11_feed 91 = .ok (.imul, 1) := by decide +kernel
theorem dX11_feed_92 : decode cX11_feed 92 = .ok (.isub, 1) := by decide +kernel
theorem dX11_feed_93 : decode cX11_feed 93 = .ok (.ishr, 1) := by decide +kernel
theorem dX11_feed_94 : decode cX11_feed 94 = .ok (.sipush 255, 3) := by decide +kernel
theorem dX11_feed_97 : decode cX11_feed 97 = .ok (.iand, 1) := by decide +kernel
theorem dX11_feed_98 : decode cX11_feed 98 = .ok (.iastore, 1) := by decide +kernel
theorem dX11_feed_99 : decode cX11_feed 99 = .ok (.aload_n 0, 1) := by decide +kernel
theorem dX11_feed_100 : decode cX11_feed 100 = .ok (.dup, 1) := by decide +kernel
theorem dX11_feed_101 : decode cX11_feed 101 = .ok (.getfield 266, 3) := by decide +kernel
theorem dX11_feed_104 : decode cX11_feed 104 = .ok (.iconst 1, 1) := by decide +kernel
theorem dX11_feed_105 : decode cX11_feed 105 = .ok (.iadd, 1) := by decide +kernel
theorem dX11_feed_106 : decode cX11_feed 106 = .ok (.putfield 266, 3) := by decide +kernel
theorem dX11_feed_109 : decode cX11_feed 109 = .ok (.iinc 6 1, 3) := by decide +kernel
theorem dX11_feed_112 : decode cX11_feed 112 = .ok (.goto (-94), 3) := by decide +kernel
theorem dX11_feed_115 : decode cX11_feed 115 = .ok (.aload_n 0, 1) := by decide +kernel
theorem dX11_feed_116 : decode cX11_feed 116 = .ok (.getfield 266, 3) := by decide +kernel
theorem dX11_feed_119 : decode cX11_feed 119 = .ok (.ireturn, 1) := by decide +kernel
theorem dX11_back_0 : decode cX11_back 0 = .ok (.iload_n 1, 1) := by decide +kernel
theorem dX11_back_1 : decode cX11_back 1 = .ok (.iconst 0, 1) := by decide +kernel
theorem dX11_back_2 : decode cX11_back 2 = .ok (.aload_n 0, 1) := by decide +kernel
theorem dX11_back_3 : decode cX11_back 3 = .ok (.getfield 266, 3) := by decide +kernel
theorem dX11_back_6 : decode cX11_back 6 = .ok (.invokestatic 84, 3) := by decide +kernel
theorem dX11_back_9 : decode cX11_back 9 = .ok (.ifCond .ne 5, 3) := by decide +kernel
theorem dX11_back_12 : decode cX11_back 12 = .ok (.iconst (-1), 1) := by decide +kernel
theorem dX11_back_13 : decode cX11_back 13 = .ok (.ireturn, 1) := by decide +kernel
theorem dX11_back_14 : decode cX11_back 14 = .ok (.aload_n 0, 1) := by decide +kernel
theorem dX11_back_15 : decode cX11_back 15 = .ok (.dup, 1) := by decide +kernel
theorem dX11_back_16 : decode cX11_back 16 = .ok (.getfield 266, 3) := by decide +kernel
theorem dX11_back_19 : decode cX11_back 19 = .ok (.iload_n 1, 1) := by decide +kernel
theorem dX11_back_20 : decode cX11_back 20 = .ok (.isub, 1) := by decide +kernel
theorem dX11_back_21 : decode cX11_back 21 = .ok (.putfield 266, 3) := by decide +kernel
theorem dX11_back_24 : decode cX11_back 24 = .ok (.aload_n 0, 1) := by decide +kernel
theorem dX11_back_25 : decode cX11_back 25 = .ok (.getfield 266, 3) := by decide +kernel
theorem dX11_back_28 : decode cX11_back 28 = .ok (.ireturn, 1) := by decide +kernel
theorem dX11_wordFrom_0 : decode cX11_wordFrom 0 = .ok (.iconst 0, 1) := by decide +kernel
theorem dX11_wordFrom_1 : decode cX11_wordFrom 1 = .ok (.istore_n 2, 1) := by decide +kernel
theorem dX11_wordFrom_2 : decode cX11_wordFrom 2 = .ok (.iload_n 1, 1) := by decide +kernel
theorem dX11_wordFrom_3 : decode cX11_wordFrom 3 = .ok (.istore_n 3, 1) := by decide +kernel
theorem dX11_wordFrom_4 : decode cX11_wordFrom 4 = .ok (.iload_n 3, 1) := by decide +kernel
theorem dX11_wordFrom_5 : decode cX11_wordFrom 5 = .ok (.ifCond .le 21, 3) := by decide +kernel
theorem dX11_wordFrom_8 : decode cX11_wordFrom 8 = .ok (.aload_n 0, 1) := by decide +kernel
theorem dX11_wordFrom_9 : decode cX11_wordFrom 9 = .ok (.getfield 69, 3) := by decide +kernel
theorem dX11_wordFrom_12 : decode cX11_wordFrom 12 = .ok (.iload_n 2, 1) := by decide +kernel
theorem dX11_wordFrom_13 : decode cX11_wordFrom 13 = .ok (.baload, 1) := by decide +kernel
theorem dX11_wordFrom_14 : decode cX11_wordFrom 14 = .ok (.ifCond .ne 6, 3) := by decide +kernel
theorem dX11_wordFrom_17 : decode cX11_wordFrom 17 = .ok (.iinc 3 (-1), 3) := by decide +kernel
theorem dX11_wordFrom_20 : decode cX11_wordFrom 20 = .ok (.iinc 2 1, 3) := by decide +kernel
theorem dX11_wordFrom_23 : decode cX11_wordFrom 23 = .ok (.goto (-19), 3) := by decide +kernel
theorem dX11_wordFrom_26 : decode cX11_wordFrom 26 = .ok (.iload_n 2, 1) := by decide +kernel
theorem dX11_wordFrom_27 : decode cX11_wordFrom 27 = .ok (.ireturn, 1) := by decide +kernel
theorem dX11_here_0 : decode cX11_here 0 = .ok (.aload_n 0, 1) := by decide +kernel
theorem dX11_here_1 : decode cX11_here 1 = .ok (.getfield 272, 3) := by decide +kernel
theorem dX11_here_4 : decode cX11_here 4 = .ok (.aload_n 0, 1) := by decide +kernel
theorem dX11_here_5 : decode cX11_here 5 = .ok (.getfield 266, 3) := by decide +kernel
theorem dX11_here_8 : decode cX11_here 8 = .ok (.if_icmp .ge 15, 3) := by decide +kernel
theorem dX11_here_11 : decode cX11_here 11 = .ok (.aload_n 0, 1) := by decide +kernel
theorem dX11_here_12 : decode cX11_here 12 = .ok (.getfield 66, 3) := by decide +kernel
theorem dX11_here_15 : decode cX11_here 15 = .ok (.aload_n 0, 1) := by decide +kernel
theorem dX11_here_16 : decode cX11_here 16 = .ok (.getfield 272, 3) := by decide +kernel
theorem dX11_here_19 : decode cX11_here 19 = .ok (.iaload, 1) := by decide +kernel
theorem dX11_here_20 : decode cX11_here 20 = .ok (.goto 4, 3) := by decide +kernel
theorem dX11_here_23 : decode cX11_here 23 = .ok (.iconst (-1), 1) := by decide +kernel
theorem dX11_here_24 : decode cX11_here 24 = .ok (.ireturn, 1) := by decide +kernel
theorem dX11_goesOn_0 : decode cX11_goesOn 0 = .ok (.aload_n 0, 1) := by decide +kernel
theorem dX11_goesOn_1 : decode cX11_goesOn 1 = .ok (.getfield 275, 3) := by decide +kernel
theorem dX11_goesOn_4 : decode cX11_goesOn 4 = .ok (.istore_n 1, 1) := by decide +kernel
theorem dX11_goesOn_5 : decode cX11_goesOn 5 = .ok (.aload_n 0, 1) := by decide +kernel
theorem dX11_goesOn_6 : decode cX11_goesOn 6 = .ok (.getfield 272, 3) := by decide +kernel
theorem dX11_goesOn_9 : decode cX11_goesOn 9 = .ok (.istore_n 2, 1) := by decide +kernel
theorem dX11_goesOn_10 : decode cX11_goesOn 10 = .ok (.aload_n 0, 1) := by decide +kernel
theorem dX11_goesOn_11 : decode cX11_goesOn 11 = .ok (.invokevirtual 278, 3) := by decide +kernel
theorem dX11_goesOn_14 : decode cX11_goesOn 14 = .ok (.bipush 32, 2) := by decide +kernel
theorem dX11_goesOn_16 : decode cX11_goesOn 16 = .ok (.if_icmp .eq 12, 3) := by decide +kernel
theorem dX11_goesOn_19 : decode cX11_goesOn 19 = .ok (.aload_n 0, 1) := by decide +kernel
theorem dX11_goesOn_20 : decode cX11_goesOn 20 = .ok (.invokevirtual 278, 3) := by decide +kernel
theorem dX11_goesOn_23 : decode cX11_goesOn 23 = .ok (.bipush 10, 2) := by decide +kernel
theorem dX11_goesOn_25 : decode cX11_goesOn 25 = .ok (.if_icmp .ne 16, 3) := by decide +kernel
theorem dX11_goesOn_28 : decode cX11_goesOn 28 = .ok (.aload_n 0, 1) := by decide +kernel
theorem dX11_goesOn_29 : decode cX11_goesOn 29 = .ok (.dup, 1) := by decide +kernel
theorem dX11_goesOn_30 : decode cX11_goesOn 30 = .ok (.getfield 272, 3) := by decide +kernel
theorem dX11_goesOn_33 : decode cX11_goesOn 33 = .ok (.iconst 1, 1) := by decide +kernel
theorem dX11_goesOn_34 : decode cX11_goesOn 34 = .ok (.iadd, 1) := by decide +kernel
theorem dX11_goesOn_35 : decode cX11_goesOn 35 = .ok (.putfield 272, 3) := by decide +kernel
theorem dX11_goesOn_38 : decode cX11_goesOn 38 = .ok (.goto (-28), 3) := by decide +kernel
theorem dX11_goesOn_41 : decode cX11_goesOn 41 = .ok (.aload_n 0, 1) := by decide +kernel
theorem dX11_goesOn_42 : decode cX11_goesOn 42 = .ok (.aload_n 0, 1) := by decide +kernel
theorem dX11_goesOn_43 : decode cX11_goesOn 43 = .ok (.getfield 272, 3) := by decide +kernel
theorem dX11_goesOn_46 : decode cX11_goesOn 46 = .ok (.putfield 281, 3) := by decide +kernel
theorem dX11_goesOn_49 : decode cX11_goesOn 49 = .ok (.aload_n 0, 1) := by decide +kernel
theorem dX11_goesOn_50 : decode cX11_goesOn 50 = .ok (.getfield 281, 3) := by decide +kernel
theorem dX11_goesOn_53 : decode cX11_goesOn 53 = .ok (.iload_n 2, 1) := by decide +kernel
theorem dX11_goesOn_54 : decode cX11_goesOn 54 = .ok (.if_icmp .ne 17, 3) := by decide +kernel
theorem dX11_goesOn_57 : decode cX11_goesOn 57 = .ok (.iload_n 1, 1) := by decide +kernel
theorem dX11_goesOn_58 : decode cX11_goesOn 58 = .ok (.iconst 1, 1) := by decide +kernel
theorem dX11_goesOn_59 : decode cX11_goesOn 59 = .ok (.if_icmp .eq 8, 3) := by decide +kernel
theorem dX11_goesOn_62 : decode cX11_goesOn 62 = .ok (.iload_n 1, 1) := by decide +kernel
theorem dX11_goesOn_63 : decode cX11_goesOn 63 = .ok (.iconst 2, 1) := by decide +kernel
theorem dX11_goesOn_64 : decode cX11_goesOn 64 = .ok (.if_icmp .ne 7, 3) := by decide +kernel
theorem dX11_goesOn_67 : decode cX11_goesOn 67 = .ok (.iconst 1, 1) := by decide +kernel
theorem dX11_goesOn_68 : decode cX11_goesOn 68 = .ok (.goto 4, 3) := by decide +kernel
theorem dX11_goesOn_71 : decode cX11_goesOn 71 = .ok (.iconst 0, 1) := by decide +kernel
theorem dX11_goesOn_72 : decode cX11_goesOn 72 = .ok (.istore_n 3, 1) := by decide +kernel
theorem dX11_goesOn_73 : decode cX11_goesOn 73 = .ok (.aload_n 0, 1) := by decide +kernel
theorem dX11_goesOn_74 : decode cX11_goesOn 74 = .ok (.invokevirtual 278, 3) := by decide +kernel
theorem dX11_goesOn_77 : decode cX11_goesOn 77 = .ok (.istore 4, 2) := by decide +kernel
theorem dX11_goesOn_79 : decode cX11_goesOn 79 = .ok (.iload 4, 2) := by decide +kernel
theorem dX11_goesOn_81 : decode cX11_goesOn 81 = .ok (.iconst (-1), 1) := by decide +kernel
theorem dX11_goesOn_82 : decode cX11_goesOn 82 = .ok (.if_icmp .ne 11, 3) := by decide +kernel
theorem dX11_goesOn_85 : decode cX11_goesOn 85 = .ok (.aload_n 0, 1) := by decide +kernel
theorem dX11_goesOn_86 : decode cX11_goesOn 86 = .ok (.iconst 0, 1) := by decide +kernel
theorem dX11_goesOn_87 : decode cX11_goesOn 87 = .ok (.putfield 275, 3) := by decide +kernel
theorem dX11_goesOn_90 : decode cX11_goesOn 90 = .ok (.goto 113, 3) := by decide +kernel
theorem dX11_goesOn_93 : decode cX11_goesOn 93 = .ok (.iload 4, 2) := by decide +kernel
theorem dX11_goesOn_95 : decode cX11_goesOn 95 = .ok (.bipush 97, 2) := by decide +kernel
theorem dX11_goesOn_97 : decode cX11_goesOn 97 = .ok (.bipush 122, 2) := by decide +kernel
theorem dX11_goesOn_99 : decode cX11_goesOn 99 = .ok (.invokestatic 84, 3) := by decide +kernel
theorem dX11_goesOn_102 : decode cX11_goesOn 102 = .ok (.ifCond .eq 46, 3) := by decide +kernel
theorem dX11_goesOn_105 : decode cX11_goesOn 105 = .ok (.aload_n 0, 1) := by decide +kernel
theorem dX11_goesOn_106 : decode cX11_goesOn 106 = .ok (.invokevirtual 278, 3) := by decide +kernel
theorem dX11_goesOn_109 : decode cX11_goesOn 109 = .ok (.bipush 97, 2) := by decide +kernel
theorem dX11_goesOn_111 : decode cX11_goesOn 111 = .ok (.bipush 122, 2) := by decide +kernel
theorem dX11_goesOn_113 : decode cX11_goesOn 113 = .ok (.invokestatic 84, 3) := by decide +kernel
theorem dX11_goesOn_116 : decode cX11_goesOn 116 = .ok (.ifCond .eq 16, 3) := by decide +kernel
theorem dX11_goesOn_119 : decode cX11_goesOn 119 = .ok (.aload_n 0, 1) := by decide +kernel
theorem dX11_goesOn_120 : decode cX11_goesOn 120 = .ok (.dup, 1) := by decide +kernel
theorem dX11_goesOn_121 : decode cX11_goesOn 121 = .ok (.getfield 272, 3) := by decide +kernel
theorem dX11_goesOn_124 : decode cX11_goesOn 124 = .ok (.iconst 1, 1) := by decide +kernel
theorem dX11_goesOn_125 : decode cX11_goesOn 125 = .ok (.iadd, 1) := by decide +kernel
theorem dX11_goesOn_126 : decode cX11_goesOn 126 = .ok (.putfield 272, 3) := by decide +kernel
theorem dX11_goesOn_129 : decode cX11_goesOn 129 = .ok (.goto (-24), 3) := by decide +kernel
theorem dX11_goesOn_132 : decode cX11_goesOn 132 = .ok (.aload_n 0, 1) := by decide +kernel
theorem dX11_goesOn_133 : decode cX11_goesOn 133 = .ok (.iload_n 3, 1) := by decide +kernel
theorem dX11_goesOn_134 : decode cX11_goesOn 134 = .ok (.ifCond .eq 7, 3) := by decide +kernel
theorem dX11_goesOn_137 : decode cX11_goesOn 137 = .ok (.iconst 4, 1) := by decide +kernel
theorem dX11_goesOn_138 : decode cX11_goesOn 138 = .ok (.goto 4, 3) := by decide +kernel
theorem dX11_goesOn_141 : decode cX11_goesOn 141 = .ok (.iconst 1, 1) := by decide +kernel
theorem dX11_goesOn_142 : decode cX11_goesOn 142 = .ok (.putfield 275, 3) := by decide +kernel
theorem dX11_goesOn_145 : decode cX11_goesOn 145 = .ok (.goto 58, 3) := by decide +kernel
theorem dX11_goesOn_148 : decode cX11_goesOn 148 = .ok (.aload_n 0, 1) := by decide +kernel
theorem dX11_goesOn_149 : decode cX11_goesOn 149 = .ok (.dup, 1) := by decide +kernel
theorem dX11_goesOn_150 : decode cX11_goesOn 150 = .ok (.getfield 272, 3) := by decide +kernel
theorem dX11_goesOn_153 : decode cX11_goesOn 153 = .ok (.iconst 1, 1) := by decide +kernel
theorem dX11_goesOn_154 : decode cX11_goesOn 154 = .ok (.iadd, 1) := by decide +kernel
theorem dX11_goesOn_155 : decode cX11_goesOn 155 = .ok (.putfield 272, 3) := by decide +kernel
theorem dX11_goesOn_158 : decode cX11_goesOn 158 = .ok (.aload_n 0, 1) := by decide +kernel
theorem dX11_goesOn_159 : decode cX11_goesOn 159 = .ok (.iload 4, 2) := by decide +kernel
theorem dX11_goesOn_161 : decode cX11_goesOn 161 = .ok (.bipush 48, 2) := by decide +kernel
theorem dX11_goesOn_163 : decode cX11_goesOn 163 = .ok (.isub, 1) := by decide +kernel
theorem dX11_goesOn_164 : decode cX11_goesOn 164 = .ok (.putfield 284, 3) := by decide +kernel
theorem dX11_goesOn_167 : decode cX11_goesOn 167 = .ok (.aload_n 0, 1) := by decide +kernel
theorem dX11_goesOn_168 : decode cX11_goesOn 168 = .ok (.iload 4, 2) := by decide +kernel
theorem dX11_goesOn_170 : decode cX11_goesOn 170 = .ok (.bipush 59, 2) := by decide +kernel
theorem dX11_goesOn_172 : decode cX11_goesOn 172 = .ok (.if_icmp .ne 7, 3) := by decide +kernel
theorem dX11_goesOn_175 : decode cX11_goesOn 175 = .ok (.iconst 3, 1) := by decide +kernel
theorem dX11_goesOn_176 : decode cX11_goesOn 176 = .ok (.goto 24, 3) := by decide +kernel
theorem dX11_goesOn_179 : decode cX11_goesOn 179 = .ok (.iload 4, 2) := by decide +kernel
theorem dX11_goesOn_181 : decode cX11_goesOn 181 = .ok (.bipush 48, 2) := by decide +kernel
theorem dX11_goesOn_183 : decode cX11_goesOn 183 = .ok (.bipush 57, 2) := by decide +kernel
theorem dX11_goesOn_185 : decode cX11_goesOn 185 = .ok (.invokestatic 84, 3) := by decide +kernel
theorem dX11_goesOn_188 : decode cX11_goesOn 188 = .ok (.ifCond .eq 11, 3) := by decide +kernel
theorem dX11_goesOn_191 : decode cX11_goesOn 191 = .ok (.iload_n 3, 1) := by decide +kernel
theorem dX11_goesOn_192 : decode cX11_goesOn 192 = .ok (.ifCond .ne 7, 3) := by decide +kernel
theorem dX11_goesOn_195 : decode cX11_goesOn 195 = .ok (.iconst 2, 1) := by decide +kernel
theorem dX11_goesOn_196 : decode cX11_goesOn 196 = .ok (.goto 4, 3) := by decide +kernel
theorem dX11_goesOn_199 : decode cX11_goesOn 199 = .ok (.iconst 4, 1) := by decide +kernel
theorem dX11_goesOn_200 : decode cX11_goesOn 200 = .ok (.putfield 275, 3) := by decide +kernel
theorem dX11_goesOn_203 : decode cX11_goesOn 203 = .ok (.return_, 1) := by decide +kernel
theorem dX11_takesWord_0 : decode cX11_takesWord 0 = .ok (.aload_n 0, 1) := by decide +kernel
theorem dX11_takesWord_1 : decode cX11_takesWord 1 = .ok (.getfield 287, 3) := by decide +kernel
theorem dX11_takesWord_4 : decode cX11_takesWord 4 = .ok (.ifCond .ne 11, 3) := by decide +kernel
theorem dX11_takesWord_7 : decode cX11_takesWord 7 = .ok (.aload_n 0, 1) := by decide +kernel
theorem dX11_takesWord_8 : decode cX11_takesWord 8 = .ok (.getfield 275, 3) := by decide +kernel
theorem dX11_takesWord_11 : decode cX11_takesWord 11 = .ok (.iconst 1, 1) := by decide +kernel
theorem dX11_takesWord_12 : decode cX11_takesWord 12 = .ok (.if_icmp .eq 5, 3) := by decide +kernel
theorem dX11_takesWord_15 : decode cX11_takesWord 15 = .ok (.iconst 0, 1) := by decide +kernel
theorem dX11_takesWord_16 : decode cX11_takesWord 16 = .ok (.ireturn, 1) := by decide +kernel
theorem dX11_takesWord_17 : decode cX11_takesWord 17 = .ok (.aload_n 0, 1) := by decide +kernel
theorem dX11_takesWord_18 : decode cX11_takesWord 18 = .ok (.iload_n 1, 1) := by decide +kernel
theorem dX11_takesWord_19 : decode cX11_takesWord 19 = .ok (.invokevirtual 257, 3) := by decide +kernel
theorem dX11_takesWord_22 : decode cX11_takesWord 22 = .ok (.istore_n 2, 1) := by decide +kernel
theorem dX11_takesWord_23 : decode cX11_takesWord 23 = .ok (.iconst 0, 1) := by decide +kernel
theorem dX11_takesWord_24 : decode cX11_takesWord 24 = .ok (.istore_n 3, 1) := by decide +kernel
theorem dX11_takesWord_25 : decode cX11_takesWord 25 = .ok (.aload_n 0, 1) := by decide +kernel
theorem dX11_takesWord_26 : decode cX11_takesWord 26 = .ok (.getfield 281, 3) := by decide +kernel
theorem dX11_takesWord_29 : decode cX11_takesWord 29 = .ok (.iload_n 3, 1) := by decide +kernel
theorem dX11_takesWord_30 : decode cX11_takesWord 30 = .ok (.iadd, 1) := by decide +kernel
theorem dX11_takesWord_31 : decode cX11_takesWord 31 = .ok (.aload_n 0, 1) := by decide +kernel
theorem dX11_takesWord_32 : decode cX11_takesWord 32 = .ok (.getfield 272, 3) := by decide +kernel
theorem dX11_takesWord_35 : decode cX11_takesWord 35 = .ok (.if_icmp .ge 31, 3) := by decide +kernel
theorem dX11_takesWord_38 : decode cX11_takesWord 38 = .ok (.aload_n 0, 1) := by decide +kernel
theorem dX11_takesWord_39 : decode cX11_takesWord 39 = .ok (.getfield 69, 3) := by decide +kernel
theorem dX11_takesWord_42 : decode cX11_takesWord 42 = .ok (.iload_n 2, 1) := by decide +kernel
theorem dX11_takesWord_43 : decode cX11_takesWord 43 = .ok (.iload_n 3, 1) := by decide +kernel
theorem dX11_takesWord_44 : decode cX11_takesWord 44 = .ok (.iadd, 1) := by decide +kernel
theorem dX11_takesWord_45 : decode cX11_takesWord 45 = .ok (.baload, 1) := by decide +kernel
theorem dX11_takesWord_46 : decode cX11_takesWord 46 = .ok (.aload_n 0, 1) := by decide +kernel
theorem dX11_takesWord_47 : decode cX11_takesWord 47 = .ok (.getfield 66, 3) := by decide +kernel
theorem dX11_takesWord_50 : decode cX11_takesWord 50 = .ok (.aload_n 0, 1) := by decide +kernel
theorem dX11_takesWord_51 : decode cX11_takesWord 51 = .ok (.getfield 281, 3) := by decide +kernel
theorem dX11_takesWord_54 : decode cX11_takesWord 54 = .ok (.iload_n 3, 1) := by decide +kernel
theorem dX11_takesWord_55 : decode cX11_takesWord 55 = .ok (.iadd, 1) := by decide +kernel
theorem dX11_takesWord_56 : decode cX11_takesWord 56 = .ok (.iaload, 1) := by decide +kernel
theorem dX11_takesWord_57 : decode cX11_takesWord 57 = .ok (.if_icmp .ne 9, 3) := by decide +kernel
theorem dX11_takesWord_60 : decode cX11_takesWord 60 = .ok (.iinc 3 1, 3) := by decide +kernel
theorem dX11_takesWord_63 : decode cX11_takesWord 63 = .ok (.goto (-38), 3) := by decide +kernel
theorem dX11_takesWord_66 : decode cX11_takesWord 66 = .ok (.aload_n 0, 1) := by decide +kernel
theorem dX11_takesWord_67 : decode cX11_takesWord 67 = .ok (.getfield 281, 3) := by decide +kernel
theorem dX11_takesWord_70 : decode cX11_takesWord 70 = .ok (.iload_n 3, 1) := by decide +kernel
theorem dX11_takesWord_71 : decode cX11_takesWord 71 = .ok (.iadd, 1) := by decide +kernel
theorem dX11_takesWord_72 : decode cX11_takesWord 72 = .ok (.aload_n 0, 1) := by decide +kernel
theorem dX11_takesWord_73 : decode cX11_takesWord 73 = .ok (.getfield 272, 3) := by decide +kernel
theorem dX11_takesWord_76 : decode cX11_takesWord 76 = .ok (.if_icmp .ne 14, 3) := by decide +kernel
theorem dX11_takesWord_79 : decode cX11_takesWord 79 = .ok (.aload_n 0, 1) := by decide +kernel
theorem dX11_takesWord_80 : decode cX11_takesWord 80 = .ok (.getfield 69, 3) := by decide +kernel
theorem dX11_takesWord_83 : decode cX11_takesWord 83 = .ok (.iload_n 2, 1) := by decide +kernel
theorem dX11_takesWord_84 : decode cX11_takesWord 84 = .ok (.iload_n 3, 1) := by decide +kernel
theorem dX11_takesWord_85 : decode cX11_takesWord 85 = .ok (.iadd, 1) := by decide +kernel
theorem dX11_takesWord_86 : decode cX11_takesWord 86 = .ok (.baload, 1) := by decide +kernel
theorem dX11_takesWord_87 : decode cX11_takesWord 87 = .ok (.ifCond .eq 5, 3) := by decide +kernel
theorem dX11_takesWord_90 : decode cX11_takesWord 90 = .ok (.iconst 0, 1) := by decide +kernel
theorem dX11_takesWord_91 : decode cX11_takesWord 91 = .ok (.ireturn, 1) := by decide +kernel
theorem dX11_takesWord_92 : decode cX11_takesWord 92 = .ok (.aload_n 0, 1) := by decide +kernel
theorem dX11_takesWord_93 : decode cX11_takesWord 93 = .ok (.invokevirtual 291, 3) := by decide +kernel
theorem dX11_takesWord_96 : decode cX11_takesWord 96 = .ok (.iconst 1, 1) := by decide +kernel
theorem dX11_takesWord_97 : decode cX11_takesWord 97 = .ok (.ireturn, 1) := by decide +kernel
theorem dX11_needsNumber_0 : decode cX11_needsNumber 0 = .ok (.aload_n 0, 1) := by decide +kernel
theorem dX11_needsNumber_1 : decode cX11_needsNumber 1 = .ok (.getfield 287, 3) := by decide +kernel
theorem dX11_needsNumber_4 : decode cX11_needsNumber 4 = .ok (.ifCond .ne 23, 3) := by decide +kernel
theorem dX11_needsNumber_7 : decode cX11_needsNumber 7 = .ok (.aload_n 0, 1) := by decide +kernel
theorem dX11_needsNumber_8 : decode cX11_needsNumber 8 = .ok (.getfield 275, 3) := by decide +kernel
theorem dX11_needsNumber_11 : decode cX11_needsNumber 11 = .ok (.iconst 2, 1) := by decide +kernel
theorem dX11_needsNumber_12 : decode cX11_needsNumber 12 = .ok (.if_icmp .ne 15, 3) := by decide +kernel
theorem dX11_needsNumber_15 : decode cX11_needsNumber 15 = .ok (.aload_n 0, 1) := by decide +kernel
theorem dX11_needsNumber_16 : decode cX11_needsNumber 16 = .ok (.getfield 284, 3) := by decide +kernel
theorem dX11_needsNumber_19 : decode cX11_needsNumber 19 = .ok (.iload_n 1, 1) := by decide +kernel
theorem dX11_needsNumber_20 : decode cX11_needsNumber 20 = .ok (.iload_n 2, 1) := by decide +kernel
theorem dX11_needsNumber_21 : decode cX11_needsNumber 21 = .ok (.invokestatic 84, 3) := by decide +kernel
theorem dX11_needsNumber_24 : decode cX11_needsNumber 24 = .ok (.ifCond .ne 10, 3) := by decide +kernel
theorem dX11_needsNumber_27 : decode cX11_needsNumber 27 = .ok (.aload_n 0, 1) := by decide +kernel
theorem dX11_needsNumber_28 : decode cX11_needsNumber 28 = .ok (.iconst 1, 1) := by decide +kernel
theorem dX11_needsNumber_29 : decode cX11_needsNumber 29 = .ok (.putfield 287, 3) := by decide +kernel
theorem dX11_needsNumber_32 : decode cX11_needsNumber 32 = .ok (.iload_n 1, 1) := by decide +kernel
theorem dX11_needsNumber_33 : decode cX11_needsNumber 33 = .ok (.ireturn, 1) := by decide +kernel
theorem dX11_needsNumber_34 : decode cX11_needsNumber 34 = .ok (.aload_n 0, 1) := by decide +kernel
theorem dX11_needsNumber_35 : decode cX11_needsNumber 35 = .ok (.getfield 284, 3) := by decide +kernel
theorem dX11_needsNumber_38 : decode cX11_needsNumber 38 = .ok (.istore_n 3, 1) := by decide +kernel
theorem dX11_needsNumber_39 : decode cX11_needsNumber 39 = .ok (.aload_n 0, 1) := by decide +kernel
theorem dX11_needsNumber_40 : decode cX11_needsNumber 40 = .ok (.invokevirtual 291, 3) := by decide +kernel
theorem dX11_needsNumber_43 : decode cX11_needsNumber 43 = .ok (.iload_n 3, 1) := by decide +kernel
theorem dX11_needsNumber_44 : decode cX11_needsNumber 44 = .ok (.ireturn, 1) := by decide +kernel
theorem dX11_needsLetters_0 : decode cX11_needsLetters 0 = .ok (.iconst 0, 1) := by decide +kernel
theorem dX11_needsLetters_1 : decode cX11_needsLetters 1 = .ok (.istore_n 1, 1) := by decide +kernel
theorem dX11_needsLetters_2 : decode cX11_needsLetters 2 = .ok (.aload_n 0, 1) := by decide +kernel
theorem dX11_needsLetters_3 : decode cX11_needsLetters 3 = .ok (.getfield 281, 3) := by decide +kernel
theorem dX11_needsLetters_6 : decode cX11_needsLetters 6 = .ok (.istore_n 2, 1) := by decide +kernel
theorem dX11_needsLetters_7 : decode cX11_needsLetters 7 = .ok (.iload_n 2, 1) := by decide +kernel
theorem dX11_needsLetters_8 : decode cX11_needsLetters 8 = .ok (.aload_n 0, 1) := by decide +kernel
theorem dX11_needsLetters_9 : decode cX11_needsLetters 9 = .ok (.getfield 272, 3) := by decide +kernel
theorem dX11_needsLetters_12 : decode cX11_needsLetters 12 = .ok (.if_icmp .ge 74, 3) := by decide +kernel
theorem dX11_needsLetters_15 : decode cX11_needsLetters 15 = .ok (.aload_n 0, 1) := by decide +kernel
theorem dX11_needsLetters_16 : decode cX11_needsLetters 16 = .ok (.getfield 275, 3) := by decide +kernel
theorem dX11_needsLetters_19 : decode cX11_needsLetters 19 = .ok (.iconst 1, 1) := by decide +kernel
theorem dX11_needsLetters_20 : decode cX11_needsLetters 20 = .ok (.if_icmp .ne 66, 3) := by decide +kernel
theorem dX11_needsLetters_23 : decode cX11_needsLetters 23 = .ok (.aload_n 0, 1) := by decide +kernel
theorem dX11_needsLetters_24 : decode cX11_needsLetters 24 = .ok (.getfield 287, 3) := by decide +kernel
theorem dX11_needsLetters_27 : decode cX11_needsLetters 27 = .ok (.ifCond .ne 59, 3) := by decide +kernel
theorem dX11_needsLetters_30 : decode cX11_needsLetters 30 = .ok (.aload_n 0, 1) := by decide +kernel
theorem dX11_needsLetters_31 : decode cX11_needsLetters 31 = .ok (.getfield 66, 3) := by decide +kernel
theorem dX11_needsLetters_34 : decode cX11_needsLetters 34 = .ok (.iload_n 2, 1) := by decide +kernel
theorem dX11_needsLetters_35 : decode cX11_needsLetters 35 = .ok (.iaload, 1) := by decide +kernel
theorem dX11_needsLetters_36 : decode cX11_needsLetters 36 = .ok (.bipush 97, 2) := by decide +kernel
theorem dX11_needsLetters_38 : decode cX11_needsLetters 38 = .ok (.isub, 1) := by decide +kernel
theorem dX11_needsLetters_39 : decode cX11_needsLetters 39 = .ok (.istore_n 3, 1) := by decide +kernel
theorem dX11_needsLetters_40 : decode cX11_needsLetters 40 = .ok (.aload_n 0, 1) := by decide +kernel
theorem dX11_needsLetters_41 : decode cX11_needsLetters 41 = .ok (.iload_n 3, 1) := by decide +kernel
theorem dX11_needsLetters_42 : decode cX11_needsLetters 42 = .ok (.aload_n 0, 1) := by decide +kernel
theorem dX11_needsLetters_43 : decode cX11_needsLetters 43 = .ok (.getfield 17, 3) := by decide +kernel
theorem dX11_needsLetters_46 : decode cX11_needsLetters 46 = .ok (.iconst 0, 1) := by decide +kernel
theorem dX11_needsLetters_47 : decode cX11_needsLetters 47 = .ok (.iaload, 1) := by decide +kernel
theorem dX11_needsLetters_48 : decode cX11_needsLetters 48 = .ok (.if_icmp .ge 11, 3) := by decide +kernel
theorem dX11_needsLetters_51 : decode cX11_needsLetters 51 = .ok (.iload_n 1, 1) := by decide +kernel
theorem dX11_needsLetters_52 : decode cX11_needsLetters 52 = .ok (.iload_n 3, 1) := by decide +kernel
theorem dX11_needsLetters_53 : decode cX11_needsLetters 53 = .ok (.invokestatic 128, 3) := by decide +kernel
theorem dX11_needsLetters_56 : decode cX11_needsLetters 56 = .ok (.ifCond .eq 7, 3) := by decide +kernel
theorem dX11_needsLetters_59 : decode cX11_needsLetters 59 = .ok (.iconst 1, 1) := by decide +kernel
theorem dX11_needsLetters_60 : decode cX11_needsLetters 60 = .ok (.goto 4, 3) := by decide +kernel
theorem dX11_needsLetters_63 : decode cX11_needsLetters 63 = .ok (.iconst 0, 1) := by decide +kernel
theorem dX11_needsLetters_64 : decode cX11_needsLetters 64 = .ok (.putfield 287, 3) := by decide +kernel
theorem dX11_needsLetters_67 : decode cX11_needsLetters 67 = .ok (.aload_n 0, 1) := by decide +kernel
theorem dX11_needsLetters_68 : decode cX11_needsLetters 68 = .ok (.getfield 287, 3) := by decide +kernel
theorem dX11_needsLetters_71 : decode cX11_needsLetters 71 = .ok (.ifCond .ne 9, 3) := by decide +kernel
theorem dX11_needsLetters_74 : decode cX11_needsLetters 74 = .ok (.iload_n 1, 1) := by decide +kernel
theorem dX11_needsLetters_75 : decode cX11_needsLetters 75 = .ok (.iconst 1, 1) := by decide +kernel
theorem dX11_needsLetters_76 : decode cX11_needsLetters 76 = .ok (.iload_n 3, 1) := by decide +kernel
theorem dX11_needsLetters_77 : decode cX11_needsLetters 77 = .ok (.ishl, 1) := by decide +kernel
theorem dX11_needsLetters_78 : decode cX11_needsLetters 78 = .ok (.ior, 1) := by decide +kernel
theorem dX11_needsLetters_79 : decode cX11_needsLetters 79 = .ok (.istore_n 1, 1) := by decide +kernel
theorem dX11_needsLetters_80 : decode cX11_needsLetters 80 = .ok (.iinc 2 1, 3) := by decide +kernel
theorem dX11_needsLetters_83 : decode cX11_needsLetters 83 = .ok (.goto (-76), 3) := by decide +kernel
theorem dX11_needsLetters_86 : decode cX11_needsLetters 86 = .ok (.aload_n 0, 1) := by decide +kernel
theorem dX11_needsLetters_87 : decode cX11_needsLetters 87 = .ok (.aload_n 0, 1) := by decide +kernel
theorem dX11_needsLetters_88 : decode cX11_needsLetters 88 = .ok (.getfield 287, 3) := by decide +kernel
theorem dX11_needsLetters_91 : decode cX11_needsLetters 91 = .ok (.ifCond .ne 7, 3) := by decide +kernel
theorem dX11_needsLetters_94 : decode cX11_needsLetters 94 = .ok (.iload_n 1, 1) := by decide +kernel
theorem dX11_needsLetters_95 : decode cX11_needsLetters 95 = .ok (.ifCond .ne 7, 3) := by decide +kernel
theorem dX11_needsLetters_98 : decode cX11_needsLetters 98 = .ok (.iconst 1, 1) := by decide +kernel
theorem dX11_needsLetters_99 : decode cX11_needsLetters 99 = .ok (.goto 4, 3) := by decide +kernel
theorem dX11_needsLetters_102 : decode cX11_needsLetters 102 = .ok (.iconst 0, 1) := by decide +kernel
theorem dX11_needsLetters_103 : decode cX11_needsLetters 103 = .ok (.putfield 287, 3) := by decide +kernel
theorem dX11_needsLetters_106 : decode cX11_needsLetters 106 = .ok (.iload_n 1, 1) := by decide +kernel
theorem dX11_needsLetters_107 : decode cX11_needsLetters 107 = .ok (.ireturn, 1) := by decide +kernel
theorem dX11_readsWeight_0 : decode cX11_readsWeight 0 = .ok (.aload_n 0, 1) := by decide +kernel
theorem dX11_readsWeight_1 : decode cX11_readsWeight 1 = .ok (.invokevirtual 294, 3) := by decide +kernel
theorem dX11_readsWeight_4 : decode cX11_readsWeight 4 = .ok (.istore_n 1, 1) := by decide +kernel
theorem dX11_readsWeight_5 : decode cX11_readsWeight 5 = .ok (.aload_n 0, 1) := by decide +kernel
theorem dX11_readsWeight_6 : decode cX11_readsWeight 6 = .ok (.aload_n 0, 1) := by decide +kernel
theorem dX11_readsWeight_7 : decode cX11_readsWeight 7 = .ok (.getfield 287, 3) := by decide +kernel
theorem dX11_readsWeight_10 : decode cX11_readsWeight 10 = .ok (.ifCond .ne 11, 3) := by decide +kernel
theorem dX11_readsWeight_13 : decode cX11_readsWeight 13 = .ok (.iload_n 1, 1) := by decide +kernel
theorem dX11_readsWeight_14 : decode cX11_readsWeight 14 = .ok (.invokestatic 157, 3) := by decide +kernel
theorem dX11_readsWeight_17 : decode cX11_readsWeight 17 = .ok (.iconst 1, 1) := by decide +kernel
theorem dX11_readsWeight_18 : decode cX11_readsWeight 18 = .ok (.if_icmp .eq 7, 3) := by decide +kernel
theorem dX11_readsWeight_21 : decode cX11_readsWeight 21 = .ok (.iconst 1, 1) := by decide +kernel
theorem dX11_readsWeight_22 : decode cX11_readsWeight 22 = .ok (.goto 4, 3) := by decide +kernel
theorem dX11_readsWeight_25 : decode cX11_readsWeight 25 = .ok (.iconst 0, 1) := by decide +kernel
theorem dX11_readsWeight_26 : decode cX11_readsWeight 26 = .ok (.putfield 287, 3) := by decide +kernel
theorem dX11_readsWeight_29 : decode cX11_readsWeight 29 = .ok (.aload_n 0, 1) := by decide +kernel
theorem dX11_readsWeight_30 : decode cX11_readsWeight 30 = .ok (.getfield 287, 3) := by decide +kernel
theorem dX11_readsWeight_33 : decode cX11_readsWeight 33 = .ok (.ifCond .eq 4, 3) := by decide +kernel
theorem dX11_readsWeight_36 : decode cX11_readsWeight 36 = .ok (.return_, 1) := by decide +kernel
theorem dX11_readsWeight_37 : decode cX11_readsWeight 37 = .ok (.aload_n 0, 1) := by decide +kernel
theorem dX11_readsWeight_38 : decode cX11_readsWeight 38 = .ok (.invokevirtual 291, 3) := by decide +kernel
theorem dX11_readsWeight_41 : decode cX11_readsWeight 41 = .ok (.aload_n 0, 1) := by decide +kernel
theorem dX11_readsWeight_42 : decode cX11_readsWeight 42 = .ok (.iconst 0, 1) := by decide +kernel
theorem dX11_readsWeight_43 : decode cX11_readsWeight 43 = .ok (.bipush 9, 2) := by decide +kernel
theorem dX11_readsWeight_45 : decode cX11_readsWeight 45 = .ok (.invokevirtual 297, 3) := by decide +kernel
theorem dX11_readsWeight_48 : decode cX11_readsWeight 48 = .ok (.istore_n 2, 1) := by decide +kernel
theorem dX11_readsWeight_49 : decode cX11_readsWeight 49 = .ok (.iconst 0, 1) := by decide +kernel
theorem dX11_readsWeight_50 : decode cX11_readsWeight 50 = .ok (.istore_n 3, 1) := by decide +kernel
theorem dX11_readsWeight_51 : decode cX11_readsWeight 51 = .ok (.iload_n 3, 1) := by decide +kernel
theorem dX11_readsWeight_52 : decode cX11_readsWeight 52 = .ok (.bipush 7, 2) := by decide +kernel
theorem dX11_readsWeight_54 : decode cX11_readsWeight 54 = .ok (.if_icmp .ge 26, 3) := by decide +kernel
theorem dX11_readsWeight_57 : decode cX11_readsWeight 57 = .ok (.iload_n 1, 1) := by decide +kernel
theorem dX11_readsWeight_58 : decode cX11_readsWeight 58 = .ok (.iload_n 3, 1) := by decide +kernel
theorem dX11_readsWeight_59 : decode cX11_readsWeight 59 = .ok (.invokestatic 128, 3) := by decide +kernel
theorem dX11_readsWeight_62 : decode cX11_readsWeight 62 = .ok (.ifCond .eq 12, 3) := by decide +kernel
theorem dX11_readsWeight_65 : decode cX11_readsWeight 65 = .ok (.aload_n 0, 1) := by decide +kernel
theorem dX11_readsWeight_66 : decode cX11_readsWeight 66 = .ok (.getfield 17, 3) := by decide +kernel
theorem dX11_readsWeight_69 : decode cX11_readsWeight 69 = .ok (.iconst 3, 1) := by decide +kernel
theorem dX11_readsWeight_70 : decode cX11_readsWeight 70 = .ok (.iload_n 3, 1) := by decide +kernel
theorem dX11_readsWeight_71 : decode cX11_readsWeight 71 = .ok (.iadd, 1) := by decide +kernel
theorem dX11_readsWeight_72 : decode cX11_readsWeight 72 = .ok (.iload_n 2, 1) := by decide +kernel
theorem dX11_readsWeight_73 : decode cX11_readsWeight 73 = .ok (.iastore, 1) := by decide +kernel
theorem dX11_readsWeight_74 : decode cX11_readsWeight 74 = .ok (.iinc 3 1, 3) := by decide +kernel
theorem dX11_readsWeight_77 : decode cX11_readsWeight 77 = .ok (.goto (-26), 3) := by decide +kernel
theorem dX11_readsWeight_80 : decode cX11_readsWeight 80 = .ok (.return_, 1) := by decide +kernel
theorem dX11_readsSet_0 : decode cX11_readsSet 0 = .ok (.aload_n 0, 1) := by decide +kernel
theorem dX11_readsSet_1 : decode cX11_readsSet 1 = .ok (.getfield 17, 3) := by decide +kernel
theorem dX11_readsSet_4 : decode cX11_readsSet 4 = .ok (.iconst 1, 1) := by decide +kernel
theorem dX11_readsSet_5 : decode cX11_readsSet 5 = .ok (.iaload, 1) := by decide +kernel
theorem dX11_readsSet_6 : decode cX11_readsSet 6 = .ok (.bipush 12, 2) := by decide +kernel
theorem dX11_readsSet_8 : decode cX11_readsSet 8 = .ok (.if_icmp .ne 14, 3) := by decide +kernel
theorem dX11_readsSet_11 : decode cX11_readsSet 11 = .ok (.aload_n 0, 1) := by decide +kernel
theorem dX11_readsSet_12 : decode cX11_readsSet 12 = .ok (.iload_n 1, 1) := by decide +kernel
theorem dX11_readsSet_13 : decode cX11_readsSet 13 = .ok (.putfield 281, 3) := by decide +kernel
theorem dX11_readsSet_16 : decode cX11_readsSet 16 = .ok (.aload_n 0, 1) := by decide +kernel
theorem dX11_readsSet_17 : decode cX11_readsSet 17 = .ok (.iconst 1, 1) := by decide +kernel
theorem dX11_readsSet_18 : decode cX11_readsSet 18 = .ok (.putfield 287, 3) := by decide +kernel
theorem dX11_readsSet_21 : decode cX11_readsSet 21 = .ok (.return_, 1) := by decide +kernel
theorem dX11_readsSet_22 : decode cX11_readsSet 22 = .ok (.aload_n 0, 1) := by decide +kernel
theorem dX11_readsSet_23 : decode cX11_readsSet 23 = .ok (.invokevirtual 294, 3) := by decide +kernel
theorem dX11_readsSet_26 : decode cX11_readsSet 26 = .ok (.istore_n 2, 1) := by decide +kernel
theorem dX11_readsSet_27 : decode cX11_readsSet 27 = .ok (.aload_n 0, 1) := by decide +kernel
theorem dX11_readsSet_28 : decode cX11_readsSet 28 = .ok (.aload_n 0, 1) := by decide +kernel
theorem dX11_readsSet_29 : decode cX11_readsSet 29 = .ok (.getfield 287, 3) := by decide +kernel
theorem dX11_readsSet_32 : decode cX11_readsSet 32 = .ok (.ifCond .ne 22, 3) := by decide +kernel
theorem dX11_readsSet_35 : decode cX11_readsSet 35 = .ok (.aload_n 0, 1) := by decide +kernel
theorem dX11_readsSet_36 : decode cX11_readsSet 36 = .ok (.getfield 17, 3) := by decide +kernel
theorem dX11_readsSet_39 : decode cX11_readsSet 39 = .ok (.bipush 10, 2) := by decide +kernel
theorem dX11_readsSet_41 : decode cX11_readsSet 41 = .ok (.aload_n 0, 1) := by decide +kernel
theorem dX11_readsSet_42 : decode cX11_readsSet 42 = .ok (.getfield 17, 3) := by decide +kernel
theorem dX11_readsSet_45 : decode cX11_readsSet 45 = .ok (.iconst 1, 1) := by decide +kernel
theorem dX11_readsSet_46 : decode cX11_readsSet 46 = .ok (.iaload, 1) := by decide +kernel
theorem dX11_readsSet_47 : decode cX11_readsSet 47 = .ok (.iload_n 2, 1) := by decide +kernel
theorem dX11_readsSet_48 : decode cX11_readsSet 48 = .ok (.invokestatic 91, 3) := by decide +kernel
theorem dX11_readsSet_51 : decode cX11_readsSet 51 = .ok (.ifCond .eq 7, 3) := by decide +kernel
theorem dX11_readsSet_54 : decode cX11_readsSet 54 = .ok (.iconst 1, 1) := by decide +kernel
theorem dX11_readsSet_55 : decode cX11_readsSet 55 = .ok (.goto 4, 3) := by decide +kernel
theorem dX11_readsSet_58 : decode cX11_readsSet 58 = .ok (.iconst 0, 1) := by decide +kernel
theorem dX11_readsSet_59 : decode cX11_readsSet 59 = .ok (.putfield 287, 3) := by decide +kernel
theorem dX11_readsSet_62 : decode cX11_readsSet 62 = .ok (.aload_n 0, 1) := by decide +kernel
theorem dX11_readsSet_63 : decode cX11_readsSet 63 = .ok (.getfield 287, 3) := by decide +kernel
theorem dX11_readsSet_66 : decode cX11_readsSet 66 = .ok (.ifCond .eq 4, 3) := by decide +kernel
theorem dX11_readsSet_69 : decode cX11_readsSet 69 = .ok (.return_, 1) := by decide +kernel
theorem dX11_readsSet_70 : decode cX11_readsSet 70 = .ok (.aload_n 0, 1) := by decide +kernel
theorem dX11_readsSet_71 : decode cX11_readsSet 71 = .ok (.getfield 17, 3) := by decide +kernel
theorem dX11_readsSet_74 : decode cX11_readsSet 74 = .ok (.bipush 10, 2) := by decide +kernel
theorem dX11_readsSet_76 : decode cX11_readsSet 76 = .ok (.aload_n 0, 1) := by decide +kernel
theorem dX11_readsSet_77 : decode cX11_readsSet 77 = .ok (.getfield 17, 3) := by decide +kernel
theorem dX11_readsSet_80 : decode cX11_readsSet 80 = .ok (.iconst 1, 1) := by decide +kernel
theorem dX11_readsSet_81 : decode cX11_readsSet 81 = .ok (.iaload, 1) := by decide +kernel
theorem dX11_readsSet_82 : decode cX11_readsSet 82 = .ok (.iadd, 1) := by decide +kernel
theorem dX11_readsSet_83 : decode cX11_readsSet 83 = .ok (.iload_n 2, 1) := by decide +kernel
theorem dX11_readsSet_84 : decode cX11_readsSet 84 = .ok (.iastore, 1) := by decide +kernel
theorem dX11_readsSet_85 : decode cX11_readsSet 85 = .ok (.aload_n 0, 1) := by decide +kernel
theorem dX11_readsSet_86 : decode cX11_readsSet 86 = .ok (.getfield 17, 3) := by decide +kernel
theorem dX11_readsSet_89 : decode cX11_readsSet 89 = .ok (.iconst 1, 1) := by decide +kernel
theorem dX11_readsSet_90 : decode cX11_readsSet 90 = .ok (.dup2, 1) := by decide +kernel
theorem dX11_readsSet_91 : decode cX11_readsSet 91 = .ok (.iaload, 1) := by decide +kernel
theorem dX11_readsSet_92 : decode cX11_readsSet 92 = .ok (.iconst 1, 1) := by decide +kernel
theorem dX11_readsSet_93 : decode cX11_readsSet 93 = .ok (.iadd, 1) := by decide +kernel
theorem dX11_readsSet_94 : decode cX11_readsSet 94 = .ok (.iastore, 1) := by decide +kernel
theorem dX11_readsSet_95 : decode cX11_readsSet 95 = .ok (.aload_n 0, 1) := by decide +kernel
theorem dX11_readsSet_96 : decode cX11_readsSet 96 = .ok (.invokevirtual 291, 3) := by decide +kernel
theorem dX11_readsSet_99 : decode cX11_readsSet 99 = .ok (.return_, 1) := by decide +kernel
theorem dX11_readsOne_0 : decode cX11_readsOne 0 = .ok (.aload_n 0, 1) := by decide +kernel
theorem dX11_readsOne_1 : decode cX11_readsOne 1 = .ok (.getfield 281, 3) := by decide +kernel
theorem dX11_readsOne_4 : decode cX11_readsOne 4 = .ok (.istore_n 2, 1) := by decide +kernel
theorem dX11_readsOne_5 : decode cX11_readsOne 5 = .ok (.iload_n 1, 1) := by decide +kernel
theorem dX11_readsOne_6 : decode cX11_readsOne 6 = .ok (.ifCond .eq 27, 3) := by decide +kernel
theorem dX11_readsOne_9 : decode cX11_readsOne 9 = .ok (.aload_n 0, 1) := by decide +kernel
theorem dX11_readsOne_10 : decode cX11_readsOne 10 = .ok (.iconst 0, 1) := by decide +kernel
theorem dX11_readsOne_11 : decode cX11_readsOne 11 = .ok (.invokevirtual 300, 3) := by decide +kernel
theorem dX11_readsOne_14 : decode cX11_readsOne 14 = .ok (.ifCond .eq 19, 3) := by decide +kernel
theorem dX11_readsOne_17 : decode cX11_readsOne 17 = .ok (.aload_n 0, 1) := by decide +kernel
theorem dX11_readsOne_18 : decode cX11_readsOne 18 = .ok (.getfield 17, 3) := by decide +kernel
theorem dX11_readsOne_21 : decode cX11_readsOne 21 = .ok (.iconst 0, 1) := by decide +kernel
theorem dX11_readsOne_22 : decode cX11_readsOne 22 = .ok (.aload_n 0, 1) := by decide +kernel
theorem dX11_readsOne_23 : decode cX11_readsOne 23 = .ok (.iconst 1, 1) := by decide +kernel
theorem dX11_readsOne_24 : decode cX11_readsOne 24 = .ok (.bipush 7, 2) := by decide +kernel
theorem dX11_readsOne_26 : decode cX11_readsOne 26 = .ok (.invokevirtual 297, 3) := by decide +kernel
theorem dX11_readsOne_29 : decode cX11_readsOne 29 = .ok (.iastore, 1) := by decide +kernel
theorem dX11_readsOne_30 : decode cX11_readsOne 30 = .ok (.goto 39, 3) := by decide +kernel
theorem dX11_readsOne_33 : decode cX11_readsOne 33 = .ok (.aload_n 0, 1) := by decide +kernel
theorem dX11_readsOne_34 : decode cX11_readsOne 34 = .ok (.iconst 1, 1) := by decide +kernel
theorem dX11_readsOne_35 : decode cX11_readsOne 35 = .ok (.invokevirtual 300, 3) := by decide +kernel
theorem dX11_readsOne_38 : decode cX11_readsOne 38 = .ok (.ifCond .eq 10, 3) := by decide +kernel
theorem dX11_readsOne_41 : decode cX11_readsOne 41 = .ok (.aload_n 0, 1) := by decide +kernel
theorem dX11_readsOne_42 : decode cX11_readsOne 42 = .ok (.invokevirtual 303, 3) := by decide +kernel
theorem dX11_readsOne_45 : decode cX11_readsOne 45 = .ok (.goto 24, 3) := by decide +kernel
theorem dX11_readsOne_48 : decode cX11_readsOne 48 = .ok (.aload_n 0, 1) := by decide +kernel
theorem dX11_readsOne_49 : decode cX11_readsOne 49 = .ok (.iconst 2, 1) := by decide +kernel
theorem dX11_readsOne_50 : decode cX11_readsOne 50 = .ok (.invokevirtual 300, 3) := by decide +kernel
theorem dX11_readsOne_53 : decode cX11_readsOne 53 = .ok (.ifCond .eq 11, 3) := by decide +kernel
theorem dX11_readsOne_56 : decode cX11_readsOne 56 = .ok (.aload_n 0, 1) := by decide +kernel
theorem dX11_readsOne_57 : decode cX11_readsOne 57 = .ok (.iload_n 2, 1) := by decide +kernel
theorem dX11_readsOne_58 : decode cX11_readsOne 58 = .ok (.invokevirtual 306, 3) := by decide +kernel
theorem dX11_readsOne_61 : decode cX11_readsOne 61 = .ok (.goto 8, 3) := by decide +kernel
theorem dX11_readsOne_64 : decode cX11_readsOne 64 = .ok (.aload_n 0, 1) := by decide +kernel
theorem dX11_readsOne_65 : decode cX11_readsOne 65 = .ok (.iconst 1, 1) := by decide +kernel
theorem dX11_readsOne_66 : decode cX11_readsOne 66 = .ok (.putfield 287, 3) := by decide +kernel
theorem dX11_readsOne_69 : decode cX11_readsOne 69 = .ok (.aload_n 0, 1) := by decide +kernel
theorem dX11_readsOne_70 : decode cX11_readsOne 70 = .ok (.getfield 287, 3) := by decide +kernel
theorem dX11_readsOne_73 : decode cX11_readsOne 73 = .ok (.ifCond .eq 4, 3) := by decide +kernel
theorem dX11_readsOne_76 : decode cX11_readsOne 76 = .ok (.return_, 1) := by decide +kernel
theorem dX11_readsOne_77 : decode cX11_readsOne 77 = .ok (.aload_n 0, 1) := by decide +kernel
theorem dX11_readsOne_78 : decode cX11_readsOne 78 = .ok (.getfield 275, 3) := by decide +kernel
theorem dX11_readsOne_81 : decode cX11_readsOne 81 = .ok (.iconst 3, 1) := by decide +kernel
theorem dX11_readsOne_82 : decode cX11_readsOne 82 = .ok (.if_icmp .ne 10, 3) := by decide +kernel
theorem dX11_readsOne_85 : decode cX11_readsOne 85 = .ok (.aload_n 0, 1) := by decide +kernel
theorem dX11_readsOne_86 : decode cX11_readsOne 86 = .ok (.invokevirtual 291, 3) := by decide +kernel
theorem dX11_readsOne_89 : decode cX11_readsOne 89 = .ok (.goto 8, 3) := by decide +kernel
theorem dX11_readsOne_92 : decode cX11_readsOne 92 = .ok (.aload_n 0, 1) := by decide +kernel
theorem dX11_readsOne_93 : decode cX11_readsOne 93 = .ok (.iconst 1, 1) := by decide +kernel
theorem dX11_readsOne_94 : decode cX11_readsOne 94 = .ok (.putfield 287, 3) := by decide +kernel
theorem dX11_readsOne_97 : decode cX11_readsOne 97 = .ok (.return_, 1) := by decide +kernel
theorem dX11_keepsList_0 : decode cX11_keepsList 0 = .ok (.iconst 1, 1) := by decide +kernel
theorem dX11_keepsList_1 : decode cX11_keepsList 1 = .ok (.istore_n 1, 1) := by decide +kernel
theorem dX11_keepsList_2 : decode cX11_keepsList 2 = .ok (.iconst 0, 1) := by decide +kernel
theorem dX11_keepsList_3 : decode cX11_keepsList 3 = .ok (.istore_n 2, 1) := by decide +kernel
theorem dX11_keepsList_4 : decode cX11_keepsList 4 = .ok (.iload_n 2, 1) := by decide +kernel
theorem dX11_keepsList_5 : decode cX11_keepsList 5 = .ok (.aload_n 0, 1) := by decide +kernel
theorem dX11_keepsList_6 : decode cX11_keepsList 6 = .ok (.invokevirtual 147, 3) := by decide +kernel
theorem dX11_keepsList_9 : decode cX11_keepsList 9 = .ok (.if_icmp .ge 39, 3) := by decide +kernel
theorem dX11_keepsList_12 : decode cX11_keepsList 12 = .ok (.iload_n 1, 1) := by decide +kernel
theorem dX11_keepsList_13 : decode cX11_keepsList 13 = .ok (.ifCond .eq 27, 3) := by decide +kernel
theorem dX11_keepsList_16 : decode cX11_keepsList 16 = .ok (.aload_n 0, 1) := by decide +kernel
theorem dX11_keepsList_17 : decode cX11_keepsList 17 = .ok (.getfield 13, 3) := by decide +kernel
theorem dX11_keepsList_20 : decode cX11_keepsList 20 = .ok (.bipush 22, 2) := by decide +kernel
theorem dX11_keepsList_22 : decode cX11_keepsList 22 = .ok (.iload_n 2, 1) := by decide +kernel
theorem dX11_keepsList_23 : decode cX11_keepsList 23 = .ok (.iadd, 1) := by decide +kernel
theorem dX11_keepsList_24 : decode cX11_keepsList 24 = .ok (.iaload, 1) := by decide +kernel
theorem dX11_keepsList_25 : decode cX11_keepsList 25 = .ok (.iconst 1, 1) := by decide +kernel
theorem dX11_keepsList_26 : decode cX11_keepsList 26 = .ok (.aload_n 0, 1) := by decide +kernel
theorem dX11_keepsList_27 : decode cX11_keepsList 27 = .ok (.getfield 17, 3) := by decide +kernel
theorem dX11_keepsList_30 : decode cX11_keepsList 30 = .ok (.iconst 0, 1) := by decide +kernel
theorem dX11_keepsList_31 : decode cX11_keepsList 31 = .ok (.iaload, 1) := by decide +kernel
theorem dX11_keepsList_32 : decode cX11_keepsList 32 = .ok (.ishl, 1) := by decide +kernel
theorem dX11_keepsList_33 : decode cX11_keepsList 33 = .ok (.if_icmp .ge 7, 3) := by decide +kernel
theorem dX11_keepsList_36 : decode cX11_keepsList 36 = .ok (.iconst 1, 1) := by decide +kernel
theorem dX11_keepsList_37 : decode cX11_keepsList 37 = .ok (.goto 4, 3) := by decide +kernel
theorem dX11_keepsList_40 : decode cX11_keepsList 40 = .ok (.iconst 0, 1) := by decide +kernel
theorem dX11_keepsList_41 : decode cX11_keepsList 41 = .ok (.istore_n 1, 1) := by decide +kernel
theorem dX11_keepsList_42 : decode cX11_keepsList 42 = .ok (.iinc 2 1, 3) := by decide +kernel
theorem dX11_keepsList_45 : decode cX11_keepsList 45 = .ok (.goto (-41), 3) := by decide +kernel
theorem dX11_keepsList_48 : decode cX11_keepsList 48 = .ok (.iload_n 1, 1) := by decide +kernel
theorem dX11_keepsList_49 : decode cX11_keepsList 49 = .ok (.ifCond .ne 4, 3) := by decide +kernel
theorem dX11_keepsList_52 : decode cX11_keepsList 52 = .ok (.return_, 1) := by decide +kernel
theorem dX11_keepsList_53 : decode cX11_keepsList 53 = .ok (.aload_n 0, 1) := by decide +kernel
theorem dX11_keepsList_54 : decode cX11_keepsList 54 = .ok (.getfield 17, 3) := by decide +kernel
theorem dX11_keepsList_57 : decode cX11_keepsList 57 = .ok (.iconst 2, 1) := by decide +kernel
theorem dX11_keepsList_58 : decode cX11_keepsList 58 = .ok (.aload_n 0, 1) := by decide +kernel
theorem dX11_keepsList_59 : decode cX11_keepsList 59 = .ok (.invokevirtual 147, 3) := by decide +kernel
theorem dX11_keepsList_62 : decode cX11_keepsList 62 = .ok (.iastore, 1) := by decide +kernel
theorem dX11_keepsList_63 : decode cX11_keepsList 63 = .ok (.iconst 0, 1) := by decide +kernel
theorem dX11_keepsList_64 : decode cX11_keepsList 64 = .ok (.istore_n 2, 1) := by decide +kernel
theorem dX11_keepsList_65 : decode cX11_keepsList 65 = .ok (.iload_n 2, 1) := by decide +kernel
theorem dX11_keepsList_66 : decode cX11_keepsList 66 = .ok (.aload_n 0, 1) := by decide +kernel
theorem dX11_keepsList_67 : decode cX11_keepsList 67 = .ok (.invokevirtual 147, 3) := by decide +kernel
theorem dX11_keepsList_70 : decode cX11_keepsList 70 = .ok (.if_icmp .ge 27, 3) := by decide +kernel
theorem dX11_keepsList_73 : decode cX11_keepsList 73 = .ok (.aload_n 0, 1) := by decide +kernel
theorem dX11_keepsList_74 : decode cX11_keepsList 74 = .ok (.getfield 17, 3) := by decide +kernel
theorem dX11_keepsList_77 : decode cX11_keepsList 77 = .ok (.bipush 22, 2) := by decide +kernel
theorem dX11_keepsList_79 : decode cX11_keepsList 79 = .ok (.iload_n 2, 1) := by decide +kernel
theorem dX11_keepsList_80 : decode cX11_keepsList 80 = .ok (.iadd, 1) := by decide +kernel
theorem dX11_keepsList_81 : decode cX11_keepsList 81 = .ok (.aload_n 0, 1) := by decide +kernel
theorem dX11_keepsList_82 : decode cX11_keepsList 82 = .ok (.getfield 13, 3) := by decide +kernel
theorem dX11_keepsList_85 : decode cX11_keepsList 85 = .ok (.bipush 22, 2) := by decide +kernel
theorem dX11_keepsList_87 : decode cX11_keepsList 87 = .ok (.iload_n 2, 1) := by decide +kernel
theorem dX11_keepsList_88 : decode cX11_keepsList 88 = .ok (.iadd, 1) := by decide +kernel
theorem dX11_keepsList_89 : decode cX11_keepsList 89 = .ok (.iaload, 1) := by decide +kernel
theorem dX11_keepsList_90 : decode cX11_keepsList 90 = .ok (.iastore, 1) := by decide +kernel
theorem dX11_keepsList_91 : decode cX11_keepsList 91 = .ok (.iinc 2 1, 3) := by decide +kernel
theorem dX11_keepsList_94 : decode cX11_keepsList 94 = .ok (.goto (-29), 3) := by decide +kernel
theorem dX11_keepsList_97 : decode cX11_keepsList 97 = .ok (.return_, 1) := by decide +kernel
theorem dX11_text_0 : decode cX11_text 0 = .ok (.aload_n 0, 1) := by decide +kernel
theorem dX11_text_1 : decode cX11_text 1 = .ok (.getfield 17, 3) := by decide +kernel
theorem dX11_text_4 : decode cX11_text 4 = .ok (.invokestatic 73, 3) := by decide +kernel
theorem dX11_text_7 : decode cX11_text 7 = .ok (.aload_n 0, 1) := by decide +kernel
theorem dX11_text_8 : decode cX11_text 8 = .ok (.iconst 0, 1) := by decide +kernel
theorem dX11_text_9 : decode cX11_text 9 = .ok (.putfield 272, 3) := by decide +kernel
theorem dX11_text_12 : decode cX11_text 12 = .ok (.aload_n 0, 1) := by decide +kernel
theorem dX11_text_13 : decode cX11_text 13 = .ok (.iconst 3, 1) := by decide +kernel
theorem dX11_text_14 : decode cX11_text 14 = .ok (.putfield 275, 3) := by decide +kernel
theorem dX11_text_17 : decode cX11_text 17 = .ok (.aload_n 0, 1) := by decide +kernel
theorem dX11_text_18 : decode cX11_text 18 = .ok (.iconst 0, 1) := by decide +kernel
theorem dX11_text_19 : decode cX11_text 19 = .ok (.putfield 287, 3) := by decide +kernel
theorem dX11_text_22 : decode cX11_text 22 = .ok (.aload_n 0, 1) := by decide +kernel
theorem dX11_text_23 : decode cX11_text 23 = .ok (.invokevirtual 291, 3) := by decide +kernel
theorem dX11_text_26 : decode cX11_text 26 = .ok (.iconst 1, 1) := by decide +kernel
theorem dX11_text_27 : decode cX11_text 27 = .ok (.istore_n 1, 1) := by decide +kernel
theorem dX11_text_28 : decode cX11_text 28 = .ok (.aload_n 0, 1) := by decide +kernel
theorem dX11_text_29 : decode cX11_text 29 = .ok (.getfield 287, 3) := by decide +kernel
theorem dX11_text_32 : decode cX11_text 32 = .ok (.ifCond .ne 20, 3) := by decide +kernel
theorem dX11_text_35 : decode cX11_text 35 = .ok (.aload_n 0, 1) := by decide +kernel
theorem dX11_text_36 : decode cX11_text 36 = .ok (.getfield 275, 3) := by decide +kernel
theorem dX11_text_39 : decode cX11_text 39 = .ok (.ifCond .eq 13, 3) := by decide +kernel
theorem dX11_text_42 : decode cX11_text 42 = .ok (.aload_n 0, 1) := by decide +kernel
theorem dX11_text_43 : decode cX11_text 43 = .ok (.iload_n 1, 1) := by decide +kernel
theorem dX11_text_44 : decode cX11_text 44 = .ok (.invokevirtual 309, 3) := by decide +kernel
theorem dX11_text_47 : decode cX11_text 47 = .ok (.iconst 0, 1) := by decide +kernel
theorem dX11_text_48 : decode cX11_text 48 = .ok (.istore_n 1, 1) := by decide +kernel
theorem dX11_text_49 : decode cX11_text 49 = .ok (.goto (-21), 3) := by decide +kernel
theorem dX11_text_52 : decode cX11_text 52 = .ok (.aload_n 0, 1) := by decide +kernel
theorem dX11_text_53 : decode cX11_text 53 = .ok (.iconst 0, 1) := by decide +kernel
theorem dX11_text_54 : decode cX11_text 54 = .ok (.putfield 266, 3) := by decide +kernel
theorem dX11_text_57 : decode cX11_text 57 = .ok (.aload_n 0, 1) := by decide +kernel
theorem dX11_text_58 : decode cX11_text 58 = .ok (.getfield 287, 3) := by decide +kernel
theorem dX11_text_61 : decode cX11_text 61 = .ok (.ifCond .eq 11, 3) := by decide +kernel
theorem dX11_text_64 : decode cX11_text 64 = .ok (.bipush (-4), 2) := by decide +kernel
theorem dX11_text_66 : decode cX11_text 66 = .ok (.aload_n 0, 1) := by decide +kernel
theorem dX11_text_67 : decode cX11_text 67 = .ok (.getfield 281, 3) := by decide +kernel
theorem dX11_text_70 : decode cX11_text 70 = .ok (.isub, 1) := by decide +kernel
theorem dX11_text_71 : decode cX11_text 71 = .ok (.ireturn, 1) := by decide +kernel
theorem dX11_text_72 : decode cX11_text 72 = .ok (.aload_n 0, 1) := by decide +kernel
theorem dX11_text_73 : decode cX11_text 73 = .ok (.invokevirtual 312, 3) := by decide +kernel
theorem dX11_text_76 : decode cX11_text 76 = .ok (.iconst 0, 1) := by decide +kernel
theorem dX11_text_77 : decode cX11_text 77 = .ok (.istore_n 2, 1) := by decide +kernel
theorem dX11_text_78 : decode cX11_text 78 = .ok (.iload_n 2, 1) := by decide +kernel
theorem dX11_text_79 : decode cX11_text 79 = .ok (.bipush 42, 2) := by decide +kernel
theorem dX11_text_81 : decode cX11_text 81 = .ok (.if_icmp .ge 21, 3) := by decide +kernel
theorem dX11_text_84 : decode cX11_text 84 = .ok (.aload_n 0, 1) := by decide +kernel
theorem dX11_text_85 : decode cX11_text 85 = .ok (.getfield 13, 3) := by decide +kernel
theorem dX11_text_88 : decode cX11_text 88 = .ok (.iload_n 2, 1) := by decide +kernel
theorem dX11_text_89 : decode cX11_text 89 = .ok (.aload_n 0, 1) := by decide +kernel
theorem dX11_text_90 : decode cX11_text 90 = .ok (.getfield 17, 3) := by decide +kernel
theorem dX11_text_93 : decode cX11_text 93 = .ok (.iload_n 2, 1) := by decide +kernel
theorem dX11_text_94 : decode cX11_text 94 = .ok (.iaload, 1) := by decide +kernel
theorem dX11_text_95 : decode cX11_text 95 = .ok (.iastore, 1) := by decide +kernel
theorem dX11_text_96 : decode cX11_text 96 = .ok (.iinc 2 1, 3) := by decide +kernel
theorem dX11_text_99 : decode cX11_text 99 = .ok (.goto (-21), 3) := by decide +kernel
theorem dX11_text_102 : decode cX11_text 102 = .ok (.aload_n 0, 1) := by decide +kernel
theorem dX11_text_103 : decode cX11_text 103 = .ok (.iconst 0, 1) := by decide +kernel
theorem dX11_text_104 : decode cX11_text 104 = .ok (.putfield 77, 3) := by decide +kernel
theorem dX11_text_107 : decode cX11_text 107 = .ok (.aload_n 0, 1) := by decide +kernel
theorem dX11_text_108 : decode cX11_text 108 = .ok (.invokevirtual 80, 3) := by decide +kernel
theorem dX11_text_111 : decode cX11_text 111 = .ok (.ireturn, 1) := by decide +kernel
theorem dJ6_bitCount_0f7a4_0 : decode cJ6_bitCount_0f7a4 0 = .ok (.iload_n 0, 1) := by decide +kernel
theorem dJ6_bitCount_0f7a4_1 : decode cJ6_bitCount_0f7a4 1 = .ok (.iload_n 0, 1) := by decide +kernel
theorem dJ6_bitCount_0f7a4_2 : decode cJ6_bitCount_0f7a4 2 = .ok (.iconst 1, 1) := by decide +kernel
theorem dJ6_bitCount_0f7a4_3 : decode cJ6_bitCount_0f7a4 3 = .ok (.iushr, 1) := by decide +kernel
theorem dJ6_bitCount_0f7a4_4 : decode cJ6_bitCount_0f7a4 4 = .ok (.ldc_w 265, 3) := by decide +kernel
theorem dJ6_bitCount_0f7a4_7 : decode cJ6_bitCount_0f7a4 7 = .ok (.iand, 1) := by decide +kernel
theorem dJ6_bitCount_0f7a4_8 : decode cJ6_bitCount_0f7a4 8 = .ok (.isub, 1) := by decide +kernel
theorem dJ6_bitCount_0f7a4_9 : decode cJ6_bitCount_0f7a4 9 = .ok (.istore_n 0, 1) := by decide +kernel
theorem dJ6_bitCount_0f7a4_10 : decode cJ6_bitCount_0f7a4 10 = .ok (.iload_n 0, 1) := by decide +kernel
theorem dJ6_bitCount_0f7a4_11 : decode cJ6_bitCount_0f7a4 11 = .ok (.ldc_w 266, 3) := by decide +kernel
theorem dJ6_bitCount_0f7a4_14 : decode cJ6_bitCount_0f7a4 14 = .ok (.iand, 1) := by decide +kernel
theorem dJ6_bitCount_0f7a4_15 : decode cJ6_bitCount_0f7a4 15 = .ok (.iload_n 0, 1) := by decide +kernel
theorem dJ6_bitCount_0f7a4_16 : decode cJ6_bitCount_0f7a4 16 = .ok (.iconst 2, 1) := by decide +kernel
theorem dJ6_bitCount_0f7a4_17 : decode cJ6_bitCount_0f7a4 17 = .ok (.iushr, 1) := by decide +kernel
theorem dJ6_bitCount_0f7a4_18 : decode cJ6_bitCount_0f7a4 18 = .ok (.ldc_w 266, 3) := by decide +kernel
theorem dJ6_bitCount_0f7a4_21 : decode cJ6_bitCount_0f7a4 21 = .ok (.iand, 1) := by decide +kernel
theorem dJ6_bitCount_0f7a4_22 : decode cJ6_bitCount_0f7a4 22 = .ok (.iadd, 1) := by decide +kernel
theorem dJ6_bitCount_0f7a4_23 : decode cJ6_bitCount_0f7a4 23 = .ok (.istore_n 0, 1) := by decide +kernel
theorem dJ6_bitCount_0f7a4_24 : decode cJ6_bitCount_0f7a4 24 = .ok (.iload_n 0, 1) := by decide +kernel
theorem dJ6_bitCount_0f7a4_25 : decode cJ6_bitCount_0f7a4 25 = .ok (.iload_n 0, 1) := by decide +kernel
theorem dJ6_bitCount_0f7a4_26 : decode cJ6_bitCount_0f7a4 26 = .ok (.iconst 4, 1) := by decide +kernel
theorem dJ6_bitCount_0f7a4_27 : decode cJ6_bitCount_0f7a4 27 = .ok (.iushr, 1) := by decide +kernel
theorem dJ6_bitCount_0f7a4_28 : decode cJ6_bitCount_0f7a4 28 = .ok (.iadd, 1) := by decide +kernel
theorem dJ6_bitCount_0f7a4_29 : decode cJ6_bitCount_0f7a4 29 = .ok (.ldc_w 267, 3) := by decide +kernel
theorem dJ6_bitCount_0f7a4_32 : decode cJ6_bitCount_0f7a4 32 = .ok (.iand, 1) := by decide +kernel
theorem dJ6_bitCount_0f7a4_33 : decode cJ6_bitCount_0f7a4 33 = .ok (.istore_n 0, 1) := by decide +kernel
theorem dJ6_bitCount_0f7a4_34 : decode cJ6_bitCount_0f7a4 34 = .ok (.iload_n 0, 1) := by decide +kernel
theorem dJ6_bitCount_0f7a4_35 : decode cJ6_bitCount_0f7a4 35 = .ok (.iload_n 0, 1) := by decide +kernel
theorem dJ6_bitCount_0f7a4_36 : decode cJ6_bitCount_0f7a4 36 = .ok (.bipush 8, 2) := by decide +kernel
theorem dJ6_bitCount_0f7a4_38 : decode cJ6_bitCount_0f7a4 38 = .ok (.iushr, 1) := by decide +kernel
theorem dJ6_bitCount_0f7a4_39 : decode cJ6_bitCount_0f7a4 39 = .ok (.iadd, 1) := by decide +kernel
theorem dJ6_bitCount_0f7a4_40 : decode cJ6_bitCount_0f7a4 40 = .ok (.istore_n 0, 1) := by decide +kernel
theorem dJ6_bitCount_0f7a4_41 : decode cJ6_bitCount_0f7a4 41 = .ok (.iload_n 0, 1) := by decide +kernel
theorem dJ6_bitCount_0f7a4_42 : decode cJ6_bitCount_0f7a4 42 = .ok (.iload_n 0, 1) := by decide +kernel
theorem dJ6_bitCount_0f7a4_43 : decode cJ6_bitCount_0f7a4 43 = .ok (.bipush 16, 2) := by decide +kernel
theorem dJ6_bitCount_0f7a4_45 : decode cJ6_bitCount_0f7a4 45 = .ok (.iushr, 1) := by decide +kernel
theorem dJ6_bitCount_0f7a4_46 : decode cJ6_bitCount_0f7a4 46 = .ok (.iadd, 1) := by decide +kernel
theorem dJ6_bitCount_0f7a4_47 : decode cJ6_bitCount_0f7a4 47 = .ok (.istore_n 0, 1) := by decide +kernel
theorem dJ6_bitCount_0f7a4_48 : decode cJ6_bitCount_0f7a4 48 = .ok (.iload_n 0, 1) := by decide +kernel
theorem dJ6_bitCount_0f7a4_49 : decode cJ6_bitCount_0f7a4 49 = .ok (.bipush 63, 2) := by decide +kernel
theorem dJ6_bitCount_0f7a4_51 : decode cJ6_bitCount_0f7a4 51 = .ok (.iand, 1) := by decide +kernel
theorem dJ6_bitCount_0f7a4_52 : decode cJ6_bitCount_0f7a4 52 = .ok (.ireturn, 1) := by decide +kernel
theorem dJ9_floorMod_7cf53_0 : decode cJ9_floorMod_7cf53 0 = .ok (.iload_n 0, 1) := by decide +kernel
theorem dJ9_floorMod_7cf53_1 : decode cJ9_floorMod_7cf53 1 = .ok (.iload_n 1, 1) := by decide +kernel
theorem dJ9_floorMod_7cf53_2 : decode cJ9_floorMod_7cf53 2 = .ok (.irem, 1) := by decide +kernel
theorem dJ9_floorMod_7cf53_3 : decode cJ9_floorMod_7cf53 3 = .ok (.istore_n 2, 1) := by decide +kernel
theorem dJ9_floorMod_7cf53_4 : decode cJ9_floorMod_7cf53 4 = .ok (.iload_n 0, 1) := by decide +kernel
theorem dJ9_floorMod_7cf53_5 : decode cJ9_floorMod_7cf53 5 = .ok (.iload_n 1, 1) := by decide +kernel
theorem dJ9_floorMod_7cf53_6 : decode cJ9_floorMod_7cf53 6 = .ok (.ixor, 1) := by decide +kernel
theorem dJ9_floorMod_7cf53_7 : decode cJ9_floorMod_7cf53 7 = .ok (.ifCond .ge 11, 3) := by decide +kernel
theorem dJ9_floorMod_7cf53_10 : decode cJ9_floorMod_7cf53 10 = .ok (.iload_n 2, 1) := by decide +kernel
theorem dJ9_floorMod_7cf53_11 : decode cJ9_floorMod_7cf53 11 = .ok (.ifCond .eq 7, 3) := by decide +kernel
theorem dJ9_floorMod_7cf53_14 : decode cJ9_floorMod_7cf53 14 = .ok (.iload_n 2, 1) := by decide +kernel
theorem dJ9_floorMod_7cf53_15 : decode cJ9_floorMod_7cf53 15 = .ok (.iload_n 1, 1) := by decide +kernel
theorem dJ9_floorMod_7cf53_16 : decode cJ9_floorMod_7cf53 16 = .ok (.iadd, 1) := by decide +kernel
theorem dJ9_floorMod_7cf53_17 : decode cJ9_floorMod_7cf53 17 = .ok (.ireturn, 1) := by decide +kernel
theorem dJ9_floorMod_7cf53_18 : decode cJ9_floorMod_7cf53 18 = .ok (.iload_n 2, 1) := by decide +kernel
theorem dJ9_floorMod_7cf53_19 : decode cJ9_floorMod_7cf53 19 = .ok (.ireturn, 1) := by decide +kernel
theorem dJ9_max_7cf53_0 : decode cJ9_max_7cf53 0 = .ok (.iload_n 0, 1) := by decide +kernel
theorem dJ9_max_7cf53_1 : decode cJ9_max_7cf53 1 = .ok (.iload_n 1, 1) := by decide +kernel
theorem dJ9_max_7cf53_2 : decode cJ9_max_7cf53 2 = .ok (.if_icmp .lt 7, 3) := by decide +kernel
theorem dJ9_max_7cf53_5 : decode cJ9_max_7cf53 5 = .ok (.iload_n 0, 1) := by decide +kernel
theorem dJ9_max_7cf53_6 : decode cJ9_max_7cf53 6 = .ok (.goto 4, 3) := by decide +kernel
theorem dJ9_max_7cf53_9 : decode cJ9_max_7cf53 9 = .ok (.iload_n 1, 1) := by decide +kernel
theorem dJ9_max_7cf53_10 : decode cJ9_max_7cf53 10 = .ok (.ireturn, 1) := by decide +kernel
theorem dJ9_min_7cf53_0 : decode cJ9_min_7cf53 0 = .ok (.iload_n 0, 1) := by decide +kernel
theorem dJ9_min_7cf53_1 : decode cJ9_min_7cf53 1 = .ok (.iload_n 1, 1) := by decide +kernel
theorem dJ9_min_7cf53_2 : decode cJ9_min_7cf53 2 = .ok (.if_icmp .gt 7, 3) := by decide +kernel
theorem dJ9_min_7cf53_5 : decode cJ9_min_7cf53 5 = .ok (.iload_n 0, 1) := by decide +kernel
theorem dJ9_min_7cf53_6 : decode cJ9_min_7cf53 6 = .ok (.goto 4, 3) := by decide +kernel
theorem dJ9_min_7cf53_9 : decode cJ9_min_7cf53 9 = .ok (.iload_n 1, 1) := by decide +kernel
theorem dJ9_min_7cf53_10 : decode cJ9_min_7cf53 10 = .ok (.ireturn, 1) := by decide +kernel
theorem dJ0_length_8abf5_0 : decode cJ0_length_8abf5 0 = .ok (.aload_n 0, 1) := by decide +kernel
theorem dJ0_length_8abf5_1 : decode cJ0_length_8abf5 1 = .ok (.getfield 9, 3) := by decide +kernel
theorem dJ0_length_8abf5_4 : decode cJ0_length_8abf5 4 = .ok (.arraylength, 1) := by decide +kernel
theorem dJ0_length_8abf5_5 : decode cJ0_length_8abf5 5 = .ok (.aload_n 0, 1) := by decide +kernel
theorem dJ0_length_8abf5_6 : decode cJ0_length_8abf5 6 = .ok (.invokevirtual 335, 3) := by decide +kernel
theorem dJ0_length_8abf5_9 : decode cJ0_length_8abf5 9 = .ok (.ishr, 1) := by decide +kernel
theorem dJ0_length_8abf5_10 : decode cJ0_length_8abf5 10 = .ok (.ireturn, 1) := by decide +kernel
theorem dJ0_charAt_5068e_0 : decode cJ0_charAt_5068e 0 = .ok (.aload_n 0, 1) := by decide +kernel
theorem dJ0_charAt_5068e_1 : decode cJ0_charAt_5068e 1 = .ok (.invokevirtual 492, 3) := by decide +kernel
theorem dJ0_charAt_5068e_4 : decode cJ0_charAt_5068e 4 = .ok (.ifCond .eq 12, 3) := by decide +kernel
theorem dJ0_charAt_5068e_7 : decode cJ0_charAt_5068e 7 = .ok (.aload_n 0, 1) := by decide +kernel
theorem dJ0_charAt_5068e_8 : decode cJ0_charAt_5068e 8 = .ok (.getfield 9, 3) := by decide +kernel
theorem dJ0_charAt_5068e_11 : decode cJ0_charAt_5068e 11 = .ok (.iload_n 1, 1) := by decide +kernel
theorem dJ0_charAt_5068e_12 : decode cJ0_charAt_5068e 12 = .ok (.invokestatic 495, 3) := by decide +kernel
theorem dJ0_charAt_5068e_15 : decode cJ0_charAt_5068e 15 = .ok (.ireturn, 1) := by decide +kernel
theorem dJ0_charAt_5068e_16 : decode cJ0_charAt_5068e 16 = .ok (.aload_n 0, 1) := by decide +kernel
theorem dJ0_charAt_5068e_17 : decode cJ0_charAt_5068e 17 = .ok (.getfield 9, 3) := by decide +kernel
theorem dJ0_charAt_5068e_20 : decode cJ0_charAt_5068e 20 = .ok (.iload_n 1, 1) := by decide +kernel
theorem dJ0_charAt_5068e_21 : decode cJ0_charAt_5068e 21 = .ok (.invokestatic 498, 3) := by decide +kernel
theorem dJ0_charAt_5068e_24 : decode cJ0_charAt_5068e 24 = .ok (.ireturn, 1) := by decide +kernel
theorem dJ0_coder_7d493_0 : decode cJ0_coder_7d493 0 = .ok (.getstatic 38, 3) := by decide +kernel
theorem dJ0_coder_7d493_3 : decode cJ0_coder_7d493 3 = .ok (.ifCond .eq 10, 3) := by decide +kernel
theorem dJ0_coder_7d493_6 : decode cJ0_coder_7d493 6 = .ok (.aload_n 0, 1) := by decide +kernel
theorem dJ0_coder_7d493_7 : decode cJ0_coder_7d493 7 = .ok (.getfield 15, 3) := by decide +kernel
theorem dJ0_coder_7d493_10 : decode cJ0_coder_7d493 10 = .ok (.goto 4, 3) := by decide +kernel
theorem dJ0_coder_7d493_13 : decode cJ0_coder_7d493 13 = .ok (.iconst 1, 1) := by decide +kernel
theorem dJ0_coder_7d493_14 : decode cJ0_coder_7d493 14 = .ok (.ireturn, 1) := by decide +kernel
theorem dJ0_isLatin1_aae02_0 : decode cJ0_isLatin1_aae02 0 = .ok (.getstatic 38, 3) := by decide +kernel
theorem dJ0_isLatin1_aae02_3 : decode cJ0_isLatin1_aae02 3 = .ok (.ifCond .eq 14, 3) := by decide +kernel
theorem dJ0_isLatin1_aae02_6 : decode cJ0_isLatin1_aae02 6 = .ok (.aload_n 0, 1) := by decide +kernel
theorem dJ0_isLatin1_aae02_7 : decode cJ0_isLatin1_aae02 7 = .ok (.getfield 15, 3) := by decide +kernel
theorem dJ0_isLatin1_aae02_10 : decode cJ0_isLatin1_aae02 10 = .ok (.ifCond .ne 7, 3) := by decide +kernel
theorem dJ0_isLatin1_aae02_13 : decode cJ0_isLatin1_aae02 13 = .ok (.iconst 1, 1) := by decide +kernel
theorem dJ0_isLatin1_aae02_14 : decode cJ0_isLatin1_aae02 14 = .ok (.goto 4, 3) := by decide +kernel
theorem dJ0_isLatin1_aae02_17 : decode cJ0_isLatin1_aae02 17 = .ok (.iconst 0, 1) := by decide +kernel
theorem dJ0_isLatin1_aae02_18 : decode cJ0_isLatin1_aae02 18 = .ok (.ireturn, 1) := by decide +kernel
theorem dJ0_checkIndex_df160_0 : decode cJ0_checkIndex_df160 0 = .ok (.iload_n 0, 1) := by decide +kernel
theorem dJ0_checkIndex_df160_1 : decode cJ0_checkIndex_df160 1 = .ok (.iload_n 1, 1) := by decide +kernel
theorem dJ0_checkIndex_df160_2 : decode cJ0_checkIndex_df160 2 = .ok (.getstatic 1053, 3) := by decide +kernel
theorem dJ0_checkIndex_df160_5 : decode cJ0_checkIndex_df160 5 = .ok (.invokestatic 1059, 3) := by decide +kernel
theorem dJ0_checkIndex_df160_8 : decode cJ0_checkIndex_df160 8 = .ok (.pop, 1) := by decide +kernel
theorem dJ0_checkIndex_df160_9 : decode cJ0_checkIndex_df160 9 = .ok (.return_, 1) := by decide +kernel
theorem dJ1_charAt_3b067_0 : decode cJ1_charAt_3b067 0 = .ok (.iload_n 1, 1) := by decide +kernel
theorem dJ1_charAt_3b067_1 : decode cJ1_charAt_3b067 1 = .ok (.aload_n 0, 1) := by decide +kernel
theorem dJ1_charAt_3b067_2 : decode cJ1_charAt_3b067 2 = .ok (.arraylength, 1) := by decide +kernel
theorem dJ1_charAt_3b067_3 : decode cJ1_charAt_3b067 3 = .ok (.invokestatic 9, 3) := by decide +kernel
theorem dJ1_charAt_3b067_6 : decode cJ1_charAt_3b067 6 = .ok (.aload_n 0, 1) := by decide +kernel
theorem dJ1_charAt_3b067_7 : decode cJ1_charAt_3b067 7 = .ok (.iload_n 1, 1) := by decide +kernel
theorem dJ1_charAt_3b067_8 : decode cJ1_charAt_3b067 8 = .ok (.baload, 1) := by decide +kernel
theorem dJ1_charAt_3b067_9 : decode cJ1_charAt_3b067 9 = .ok (.sipush 255, 3) := by decide +kernel
theorem dJ1_charAt_3b067_12 : decode cJ1_charAt_3b067 12 = .ok (.iand, 1) := by decide +kernel
theorem dJ1_charAt_3b067_13 : decode cJ1_charAt_3b067 13 = .ok (.i2c, 1) := by decide +kernel
theorem dJ1_charAt_3b067_14 : decode cJ1_charAt_3b067 14 = .ok (.ireturn, 1) := by decide +kernel
theorem dJ2_getChar_3b067_0 : decode cJ2_getChar_3b067 0 = .ok (.getstatic 44, 3) := by decide +kernel
theorem dJ2_getChar_3b067_3 : decode cJ2_getChar_3b067 3 = .ok (.ifCond .ne 25, 3) := by decide +kernel
theorem dJ2_getChar_3b067_6 : decode cJ2_getChar_3b067 6 = .ok (.iload_n 1, 1) := by decide +kernel
theorem dJ2_getChar_3b067_7 : decode cJ2_getChar_3b067 7 = .ok (.ifCond .lt 11, 3) := by decide +kernel
theorem dJ2_getChar_3b067_10 : decode cJ2_getChar_3b067 10 = .ok (.iload_n 1, 1) := by decide +kernel
theorem dJ2_getChar_3b067_11 : decode cJ2_getChar_3b067 11 = .ok (.aload_n 0, 1) := by decide +kernel
theorem dJ2_getChar_3b067_12 : decode cJ2_getChar_3b067 12 = .ok (.invokestatic 48, 3) := by decide +kernel
theorem dJ2_getChar_3b067_15 : decode cJ2_getChar_3b067 15 = .ok (.if_icmp .lt 13, 3) := by decide +kernel
theorem dJ2_getChar_3b067_18 : decode cJ2_getChar_3b067 18 = .ok (.new 52, 3) := by decide +kernel
theorem dJ2_getChar_3b067_21 : decode cJ2_getChar_3b067 21 = .ok (.dup, 1) := by decide +kernel
theorem dJ2_getChar_3b067_22 : decode cJ2_getChar_3b067 22 = .ok (.ldc 54, 2) := by decide +kernel
theorem dJ2_getChar_3b067_24 : decode cJ2_getChar_3b067 24 = .ok (.invokespecial 56, 3) := by decide +kernel
theorem dJ2_getChar_3b067_27 : decode cJ2_getChar_3b067 27 = .ok (.athrow, 1) := by decide +kernel
theorem dJ2_getChar_3b067_28 : decode cJ2_getChar_3b067 28 = .ok (.iload_n 1, 1) := by decide +kernel
theorem dJ2_getChar_3b067_29 : decode cJ2_getChar_3b067 29 = .ok (.iconst 1, 1) := by decide +kernel
theorem dJ2_getChar_3b067_30 : decode cJ2_getChar_3b067 30 = .ok (.ishl, 1) := by decide +kernel
theorem dJ2_getChar_3b067_31 : decode cJ2_getChar_3b067 31 = .ok (.istore_n 1, 1) := by decide +kernel
theorem dJ2_getChar_3b067_32 : decode cJ2_getChar_3b067 32 = .ok (.aload_n 0, 1) := by decide +kernel
theorem dJ2_getChar_3b067_33 : decode cJ2_getChar_3b067 33 = .ok (.iload_n 1, 1) := by decide +kernel
theorem dJ2_getChar_3b067_34 : decode cJ2_getChar_3b067 34 = .ok (.iinc 1 1, 3) := by decide +kernel
theorem dJ2_getChar_3b067_37 : decode cJ2_getChar_3b067 37 = .ok (.baload, 1) := by decide +kernel
theorem dJ2_getChar_3b067_38 : decode cJ2_getChar_3b067 38 = .ok (.sipush 255, 3) := by decide +kernel
theorem dJ2_getChar_3b067_41 : decode cJ2_getChar_3b067 41 = .ok (.iand, 1) := by decide +kernel
theorem dJ2_getChar_3b067_42 : decode cJ2_getChar_3b067 42 = .ok (.getstatic 59, 3) := by decide +kernel
theorem dJ2_getChar_3b067_45 : decode cJ2_getChar_3b067 45 = .ok (.ishl, 1) := by decide +kernel
theorem dJ2_getChar_3b067_46 : decode cJ2_getChar_3b067 46 = .ok (.aload_n 0, 1) := by decide +kernel
theorem dJ2_getChar_3b067_47 : decode cJ2_getChar_3b067 47 = .ok (.iload_n 1, 1) := by decide +kernel
theorem dJ2_getChar_3b067_48 : decode cJ2_getChar_3b067 48 = .ok (.baload, 1) := by decide +kernel
theorem dJ2_getChar_3b067_49 : decode cJ2_getChar_3b067 49 = .ok (.sipush 255, 3) := by decide +kernel
theorem dJ2_getChar_3b067_52 : decode cJ2_getChar_3b067 52 = .ok (.iand, 1) := by decide +kernel
theorem dJ2_getChar_3b067_53 : decode cJ2_getChar_3b067 53 = .ok (.getstatic 63, 3) := by decide +kernel
theorem dJ2_getChar_3b067_56 : decode cJ2_getChar_3b067 56 = .ok (.ishl, 1) := by decide +kernel
theorem dJ2_getChar_3b067_57 : decode cJ2_getChar_3b067 57 = .ok (.ior, 1) := by decide +kernel
theorem dJ2_getChar_3b067_58 : decode cJ2_getChar_3b067 58 = .ok (.i2c, 1) := by decide +kernel
theorem dJ2_getChar_3b067_59 : decode cJ2_getChar_3b067 59 = .ok (.ireturn, 1) := by decide +kernel
theorem dJ2_length_9d52b_0 : decode cJ2_length_9d52b 0 = .ok (.aload_n 0, 1) := by decide +kernel
theorem dJ2_length_9d52b_1 : decode cJ2_length_9d52b 1 = .ok (.arraylength, 1) := by decide +kernel
theorem dJ2_length_9d52b_2 : decode cJ2_length_9d52b 2 = .ok (.iconst 1, 1) := by decide +kernel
theorem dJ2_length_9d52b_3 : decode cJ2_length_9d52b 3 = .ok (.ishr, 1) := by decide +kernel
theorem dJ2_length_9d52b_4 : decode cJ2_length_9d52b 4 = .ok (.ireturn, 1) := by decide +kernel
theorem dJ2_charAt_3b067_0 : decode cJ2_charAt_3b067 0 = .ok (.iload_n 1, 1) := by decide +kernel
theorem dJ2_charAt_3b067_1 : decode cJ2_charAt_3b067 1 = .ok (.aload_n 0, 1) := by decide +kernel
theorem dJ2_charAt_3b067_2 : decode cJ2_charAt_3b067 2 = .ok (.invokestatic 67, 3) := by decide +kernel
theorem dJ2_charAt_3b067_5 : decode cJ2_charAt_3b067 5 = .ok (.aload_n 0, 1) := by decide +kernel
theorem dJ2_charAt_3b067_6 : decode cJ2_charAt_3b067 6 = .ok (.iload_n 1, 1) := by decide +kernel
theorem dJ2_charAt_3b067_7 : decode cJ2_charAt_3b067 7 = .ok (.invokestatic 71, 3) := by decide +kernel
theorem dJ2_charAt_3b067_10 : decode cJ2_charAt_3b067 10 = .ok (.ireturn, 1) := by decide +kernel
theorem dJ2_checkIndex_2214a_0 : decode cJ2_checkIndex_2214a 0 = .ok (.iload_n 0, 1) := by decide +kernel
theorem dJ2_checkIndex_2214a_1 : decode cJ2_checkIndex_2214a 1 = .ok (.aload_n 1, 1) := by decide +kernel
theorem dJ2_checkIndex_2214a_2 : decode cJ2_checkIndex_2214a 2 = .ok (.invokestatic 48, 3) := by decide +kernel
theorem dJ2_checkIndex_2214a_5 : decode cJ2_checkIndex_2214a 5 = .ok (.invokestatic 414, 3) := by decide +kernel
theorem dJ2_checkIndex_2214a_8 : decode cJ2_checkIndex_2214a 8 = .ok (.return_, 1) := by decide +kernel
theorem dJ7_fill_53178_0 : decode cJ7_fill_53178 0 = .ok (.iconst 0, 1) := by decide +kernel
theorem dJ7_fill_53178_1 : decode cJ7_fill_53178 1 = .ok (.istore_n 2, 1) := by decide +kernel
theorem dJ7_fill_53178_2 : decode cJ7_fill_53178 2 = .ok (.aload_n 0, 1) := by decide +kernel
theorem dJ7_fill_53178_3 : decode cJ7_fill_53178 3 = .ok (.arraylength, 1) := by decide +kernel
theorem dJ7_fill_53178_4 : decode cJ7_fill_53178 4 = .ok (.istore_n 3, 1) := by decide +kernel
theorem dJ7_fill_53178_5 : decode cJ7_fill_53178 5 = .ok (.iload_n 2, 1) := by decide +kernel
theorem dJ7_fill_53178_6 : decode cJ7_fill_53178 6 = .ok (.iload_n 3, 1) := by decide +kernel
theorem dJ7_fill_53178_7 : decode cJ7_fill_53178 7 = .ok (.if_icmp .ge 13, 3) := by decide +kernel
theorem dJ7_fill_53178_10 : decode cJ7_fill_53178 10 = .ok (.aload_n 0, 1) := by decide +kernel
theorem dJ7_fill_53178_11 : decode cJ7_fill_53178 11 = .ok (.iload_n 2, 1) := by decide +kernel
theorem dJ7_fill_53178_12 : decode cJ7_fill_53178 12 = .ok (.iload_n 1, 1) := by decide +kernel
theorem dJ7_fill_53178_13 : decode cJ7_fill_53178 13 = .ok (.iastore, 1) := by decide +kernel
theorem dJ7_fill_53178_14 : decode cJ7_fill_53178 14 = .ok (.iinc 2 1, 3) := by decide +kernel
theorem dJ7_fill_53178_17 : decode cJ7_fill_53178 17 = .ok (.goto (-12), 3) := by decide +kernel
theorem dJ7_fill_53178_20 : decode cJ7_fill_53178 20 = .ok (.return_, 1) := by decide +kernel
theorem dJ3_checkIndex_8e157_0 : decode cJ3_checkIndex_8e157 0 = .ok (.iload_n 0, 1) := by decide +kernel
theorem dJ3_checkIndex_8e157_1 : decode cJ3_checkIndex_8e157 1 = .ok (.ifCond .lt 8, 3) := by decide +kernel
theorem dJ3_checkIndex_8e157_4 : decode cJ3_checkIndex_8e157 4 = .ok (.iload_n 0, 1) := by decide +kernel
theorem dJ3_checkIndex_8e157_5 : decode cJ3_checkIndex_8e157 5 = .ok (.iload_n 1, 1) := by decide +kernel
theorem dJ3_checkIndex_8e157_6 : decode cJ3_checkIndex_8e157 6 = .ok (.if_icmp .lt 10, 3) := by decide +kernel
theorem dJ3_checkIndex_8e157_9 : decode cJ3_checkIndex_8e157 9 = .ok (.aload_n 2, 1) := by decide +kernel
theorem dJ3_checkIndex_8e157_10 : decode cJ3_checkIndex_8e157 10 = .ok (.iload_n 0, 1) := by decide +kernel
theorem dJ3_checkIndex_8e157_11 : decode cJ3_checkIndex_8e157 11 = .ok (.iload_n 1, 1) := by decide +kernel
theorem dJ3_checkIndex_8e157_12 : decode cJ3_checkIndex_8e157 12 = .ok (.invokestatic 95, 3) := by decide +kernel
theorem dJ3_checkIndex_8e157_15 : decode cJ3_checkIndex_8e157 15 = .ok (.athrow, 1) := by decide +kernel
theorem dJ3_checkIndex_8e157_16 : decode cJ3_checkIndex_8e157 16 = .ok (.iload_n 0, 1) := by decide +kernel
theorem dJ3_checkIndex_8e157_17 : decode cJ3_checkIndex_8e157 17 = .ok (.ireturn, 1) := by decide +kernel
theorem dL_law_0 : decode cL_law 0 = .ok (.new 7, 3) := by decide +kernel
theorem dL_law_3 : decode cL_law 3 = .ok (.dup, 1) := by decide +kernel
theorem dL_law_4 : decode cL_law 4 = .ok (.invokespecial 9, 3) := by decide +kernel
theorem dL_law_7 : decode cL_law 7 = .ok (.astore_n 1, 1) := by decide +kernel
theorem dL_law_8 : decode cL_law 8 = .ok (.new 10, 3) := by decide +kernel
theorem dL_law_11 : decode cL_law 11 = .ok (.dup, 1) := by decide +kernel
theorem dL_law_12 : decode cL_law 12 = .ok (.invokespecial 12, 3) := by decide +kernel
theorem dL_law_15 : decode cL_law 15 = .ok (.astore_n 2, 1) := by decide +kernel
theorem dL_law_16 : decode cL_law 16 = .ok (.iconst 0, 1) := by decide +kernel
theorem dL_law_17 : decode cL_law 17 = .ok (.istore_n 3, 1) := by decide +kernel
theorem dL_law_18 : decode cL_law 18 = .ok (.iload_n 3, 1) := by decide +kernel
theorem dL_law_19 : decode cL_law 19 = .ok (.aload_n 0, 1) := by decide +kernel
theorem dL_law_20 : decode cL_law 20 = .ok (.arraylength, 1) := by decide +kernel
theorem dL_law_21 : decode cL_law 21 = .ok (.bipush 6, 2) := by decide +kernel
theorem dL_law_23 : decode cL_law 23 = .ok (.isub, 1) := by decide +kernel
theorem dL_law_24 : decode cL_law 24 = .ok (.if_icmp .gt 1548, 3) := by decide +kernel
theorem dL_law_27 : decode cL_law 27 = .ok (.aload_n 0, 1) := by decide +kernel
theorem dL_law_28 : decode cL_law 28 = .ok (.iload_n 3, 1) := by decide +kernel
theorem dL_law_29 : decode cL_law 29 = .ok (.iaload, 1) := by decide +kernel
theorem dL_law_30 : decode cL_law 30 = .ok (.bipush 63, 2) := by decide +kernel
theorem dL_law_32 : decode cL_law 32 = .ok (.iand, 1) := by decide +kernel
theorem dL_law_33 : decode cL_law 33 = .ok (.tableswitch 1533 0 51 #[223, 286, 309, 322, 345, 368, 401, 434, 467, 480, 503, 516, 529, 552, 575, 588, 601, 634, 657, 680, 703, 736, 759, 782, 831, 854, 877, 900, 933, 992, 1025, 1074, 1087, 1130, 1143, 1166, 1199, 1222, 1271, 1284, 1297, 1320, 1343, 1366, 1389, 1402, 1415, 1428, 1451, 1474, 1487, 1510], 223) := by decide +kernel
theorem dL_law_256 : decode cL_law 256 = .ok (.aload_n 1, 1) := by decide +kernel
theorem dL_law_257 : decode cL_law 257 = .ok (.aload_n 0, 1) := by decide +kernel
theorem dL_law_258 : decode cL_law 258 = .ok (.iload_n 3, 1) := by decide +kernel
theorem dL_law_259 : decode cL_law 259 = .ok (.iconst 1, 1) := by decide +kernel
theorem dL_law_260 : decode cL_law 260 = .ok (.iadd, 1) := by decide +kernel
theorem dL_law_261 : decode cL_law 261 = .ok (.iaload, 1) := by decide +kernel
theorem dL_law_262 : decode cL_law 262 = .ok (.aload_n 0, 1) := by decide +kernel
theorem dL_law_263 : decode cL_law 263 = .ok (.iload_n 3, 1) := by decide +kernel
theorem dL_law_264 : decode cL_law 264 = .ok (.iconst 2, 1) := by decide +kernel
theorem dL_law_265 : decode cL_law 265 = .ok (.iadd, 1) := by decide +kernel
theorem dL_law_266 : decode cL_law 266 = .ok (.iaload, 1) := by decide +kernel
theorem dL_law_267 : decode cL_law 267 = .ok (.aload_n 0, 1) := by decide +kernel
theorem dL_law_268 : decode cL_law 268 = .ok (.iload_n 3, 1) := by decide +kernel
theorem dL_law_269 : decode cL_law 269 = .ok (.iconst 3, 1) := by decide +kernel
theorem dL_law_270 : decode cL_law 270 = .ok (.iadd, 1) := by decide +kernel
theorem dL_law_271 : decode cL_law 271 = .ok (.iaload, 1) := by decide +kernel
theorem dL_law_272 : decode cL_law 272 = .ok (.aload_n 0, 1) := by decide +kernel
theorem dL_law_273 : decode cL_law 273 = .ok (.iload_n 3, 1) := by decide +kernel
theorem dL_law_274 : decode cL_law 274 = .ok (.iconst 4, 1) := by decide +kernel
theorem dL_law_275 : decode cL_law 275 = .ok (.iadd, 1) := by decide +kernel
theorem dL_law_276 : decode cL_law 276 = .ok (.iaload, 1) := by decide +kernel
theorem dL_law_277 : decode cL_law 277 = .ok (.aload_n 0, 1) := by decide +kernel
theorem dL_law_278 : decode cL_law 278 = .ok (.iload_n 3, 1) := by decide +kernel
theorem dL_law_279 : decode cL_law 279 = .ok (.iconst 5, 1) := by decide +kernel
theorem dL_law_280 : decode cL_law 280 = .ok (.iadd, 1) := by decide +kernel
theorem dL_law_281 : decode cL_law 281 = .ok (.iaload, 1) := by decide +kernel
theorem dL_law_282 : decode cL_law 282 = .ok (.invokevirtual 13, 3) := by decide +kernel
theorem dL_law_285 : decode cL_law 285 = .ok (.aload_n 2, 1) := by decide +kernel
theorem dL_law_286 : decode cL_law 286 = .ok (.aload_n 0, 1) := by decide +kernel
theorem dL_law_287 : decode cL_law 287 = .ok (.iload_n 3, 1) := by decide +kernel
theorem dL_law_288 : decode cL_law 288 = .ok (.iconst 1, 1) := by decide +kernel
theorem dL_law_289 : decode cL_law 289 = .ok (.iadd, 1) := by decide +kernel
theorem dL_law_290 : decode cL_law 290 = .ok (.iaload, 1) := by decide +kernel
theorem dL_law_291 : decode cL_law 291 = .ok (.aload_n 0, 1) := by decide +kernel
theorem dL_law_292 : decode cL_law 292 = .ok (.iload_n 3, 1) := by decide +kernel
theorem dL_law_293 : decode cL_law 293 = .ok (.iconst 2, 1) := by decide +kernel
theorem dL_law_294 : decode cL_law 294 = .ok (.iadd, 1) := by decide +kernel
theorem dL_law_295 : decode cL_law 295 = .ok (.iaload, 1) := by decide +kernel
theorem dL_law_296 : decode cL_law 296 = .ok (.aload_n 0, 1) := by decide +kernel
theorem dL_law_297 : decode cL_law 297 = .ok (.iload_n 3, 1) := by decide +kernel
theorem dL_law_298 : decode cL_law 298 = .ok (.iconst 3, 1) := by decide +kernel
theorem dL_law_299 : decode cL_law 299 = .ok (.iadd, 1) := by decide +kernel
theorem dL_law_300 : decode cL_law 300 = .ok (.iaload, 1) := by decide +kernel
theorem dL_law_301 : decode cL_law 301 = .ok (.aload_n 0, 1) := by decide +kernel
theorem dL_law_302 : decode cL_law 302 = .ok (.iload_n 3, 1) := by decide +kernel
theorem dL_law_303 : decode cL_law 303 = .ok (.iconst 4, 1) := by decide +kernel
theorem dL_law_304 : decode cL_law 304 = .ok (.iadd, 1) := by decide +kernel
theorem dL_law_305 : decode cL_law 305 = .ok (.iaload, 1) := by decide +kernel
theorem dL_law_306 : decode cL_law 306 = .ok (.aload_n 0, 1) := by decide +kernel
theorem dL_law_307 : decode cL_law 307 = .ok (.iload_n 3, 1) := by decide +kernel
theorem dL_law_308 : decode cL_law 308 = .ok (.iconst 5, 1) := by decide +kernel
theorem dL_law_309 : decode cL_law 309 = .ok (.iadd, 1) := by decide +kernel
theorem dL_law_310 : decode cL_law 310 = .ok (.iaload, 1) := by decide +kernel
theorem dL_law_311 : decode cL_law 311 = .ok (.invokevirtual 17, 3) := by decide +kernel
theorem dL_law_314 : decode cL_law 314 = .ok (.if_icmp .eq 1252, 3) := by decide +kernel
theorem dL_law_317 : decode cL_law 317 = .ok (.iconst 0, 1) := by decide +kernel
theorem dL_law_318 : decode cL_law 318 = .ok (.ireturn, 1) := by decide +kernel
theorem dL_law_319 : decode cL_law 319 = .ok (.aload_n 1, 1) := by decide +kernel
theorem dL_law_320 : decode cL_law 320 = .ok (.aload_n 0, 1) := by decide +kernel
theorem dL_law_321 : decode cL_law 321 = .ok (.iload_n 3, 1) := by decide +kernel
theorem dL_law_322 : decode cL_law 322 = .ok (.iconst 1, 1) := by decide +kernel
theorem dL_law_323 : decode cL_law 323 = .ok (.iadd, 1) := by decide +kernel
theorem dL_law_324 : decode cL_law 324 = .ok (.iaload, 1) := by decide +kernel
theorem dL_law_325 : decode cL_law 325 = .ok (.invokevirtual 18, 3) := by decide +kernel
theorem dL_law_328 : decode cL_law 328 = .ok (.aload_n 2, 1) := by decide +kernel
theorem dL_law_329 : decode cL_law 329 = .ok (.aload_n 0, 1) := by decide +kernel
theorem dL_law_330 : decode cL_law 330 = .ok (.iload_n 3, 1) := by decide +kernel
theorem dL_law_331 : decode cL_law 331 = .ok (.iconst 1, 1) := by decide +kernel
theorem dL_law_332 : decode cL_law 332 = .ok (.iadd, 1) := by decide +kernel
theorem dL_law_333 : decode cL_law 333 = .ok (.iaload, 1) := by decide +kernel
theorem dL_law_334 : decode cL_law 334 = .ok (.invokevirtual 22, 3) := by decide +kernel
theorem dL_law_337 : decode cL_law 337 = .ok (.if_icmp .eq 1229, 3) := by decide +kernel
theorem dL_law_340 : decode cL_law 340 = .ok (.iconst 0, 1) := by decide +kernel
theorem dL_law_341 : decode cL_law 341 = .ok (.ireturn, 1) := by decide +kernel
theorem dL_law_342 : decode cL_law 342 = .ok (.aload_n 1, 1) := by decide +kernel
theorem dL_law_343 : decode cL_law 343 = .ok (.invokevirtual 23, 3) := by decide +kernel
theorem dL_law_346 : decode cL_law 346 = .ok (.aload_n 2, 1) := by decide +kernel
theorem dL_law_347 : decode cL_law 347 = .ok (.invokevirtual 27, 3) := by decide +kernel
theorem dL_law_350 : decode cL_law 350 = .ok (.if_icmp .eq 1216, 3) := by decide +kernel
theorem dL_law_353 : decode cL_law 353 = .ok (.iconst 0, 1) := by decide +kernel
theorem dL_law_354 : decode cL_law 354 = .ok (.ireturn, 1) := by decide +kernel
theorem dL_law_355 : decode cL_law 355 = .ok (.aload_n 1, 1) := by decide +kernel
theorem dL_law_356 : decode cL_law 356 = .ok (.aload_n 0, 1) := by decide +kernel
theorem dL_law_357 : decode cL_law 357 = .ok (.iload_n 3, 1) := by decide +kernel
theorem dL_law_358 : decode cL_law 358 = .ok (.iconst 1, 1) := by decide +kernel
theorem dL_law_359 : decode cL_law 359 = .ok (.iadd, 1) := by decide +kernel
theorem dL_law_360 : decode cL_law 360 = .ok (.iaload, 1) := by decide +kernel
theorem dL_law_361 : decode cL_law 361 = .ok (.invokevirtual 28, 3) := by decide +kernel
theorem dL_law_364 : decode cL_law 364 = .ok (.aload_n 2, 1) := by decide +kernel
theorem dL_law_365 : decode cL_law 365 = .ok (.aload_n 0, 1) := by decide +kernel
theorem dL_law_366 : decode cL_law 366 = .ok (.iload_n 3, 1) := by decide +kernel
theorem dL_law_367 : decode cL_law 367 = .ok (.iconst 1, 1) := by decide +kernel
theorem dL_law_368 : decode cL_law 368 = .ok (.iadd, 1) := by decide +kernel
theorem dL_law_369 : decode cL_law 369 = .ok (.iaload, 1) := by decide +kernel
theorem dL_law_370 : decode cL_law 370 = .ok (.invokevirtual 31, 3) := by decide +kernel
theorem dL_law_373 : decode cL_law 373 = .ok (.if_icmp .eq 1193, 3) := by decide +kernel
theorem dL_law_376 : decode cL_law 376 = .ok (.iconst 0, 1) := by decide +kernel
theorem dL_law_377 : decode cL_law 377 = .ok (.ireturn, 1) := by decide +kernel
theorem dL_law_378 : decode cL_law 378 = .ok (.aload_n 1, 1) := by decide +kernel
theorem dL_law_379 : decode cL_law 379 = .ok (.aload_n 0, 1) := by decide +kernel
theorem dL_law_380 : decode cL_law 380 = .ok (.iload_n 3, 1) := by decide +kernel
theorem dL_law_381 : decode cL_law 381 = .ok (.iconst 1, 1) := by decide +kernel
theorem dL_law_382 : decode cL_law 382 = .ok (.iadd, 1) := by decide +kernel
theorem dL_law_383 : decode cL_law 383 = .ok (.iaload, 1) := by decide +kernel
theorem dL_law_384 : decode cL_law 384 = .ok (.invokevirtual 32, 3) := by decide +kernel
theorem dL_law_387 : decode cL_law 387 = .ok (.aload_n 2, 1) := by decide +kernel
theorem dL_law_388 : decode cL_law 388 = .ok (.aload_n 0, 1) := by decide +kernel
theorem dL_law_389 : decode cL_law 389 = .ok (.iload_n 3, 1) := by decide +kernel
theorem dL_law_390 : decode cL_law 390 = .ok (.iconst 1, 1) := by decide +kernel
theorem dL_law_391 : decode cL_law 391 = .ok (.iadd, 1) := by decide +kernel
theorem dL_law_392 : decode cL_law 392 = .ok (.iaload, 1) := by decide +kernel
theorem dL_law_393 : decode cL_law 393 = .ok (.invokevirtual 36, 3) := by decide +kernel
theorem dL_law_396 : decode cL_law 396 = .ok (.if_icmp .eq 1170, 3) := by decide +kernel
theorem dL_law_399 : decode cL_law 399 = .ok (.iconst 0, 1) := by decide +kernel
theorem dL_law_400 : decode cL_law 400 = .ok (.ireturn, 1) := by decide +kernel
theorem dL_law_401 : decode cL_law 401 = .ok (.aload_n 1, 1) := by decide +kernel
theorem dL_law_402 : decode cL_law 402 = .ok (.aload_n 0, 1) := by decide +kernel
theorem dL_law_403 : decode cL_law 403 = .ok (.iload_n 3, 1) := by decide +kernel
theorem dL_law_404 : decode cL_law 404 = .ok (.iconst 1, 1) := by decide +kernel
theorem dL_law_405 : decode cL_law 405 = .ok (.iadd, 1) := by decide +kernel
theorem dL_law_406 : decode cL_law 406 = .ok (.iaload, 1) := by decide +kernel
theorem dL_law_407 : decode cL_law 407 = .ok (.aload_n 0, 1) := by decide +kernel
theorem dL_law_408 : decode cL_law 408 = .ok (.iload_n 3, 1) := by decide +kernel
theorem dL_law_409 : decode cL_law 409 = .ok (.iconst 2, 1) := by decide +kernel
theorem dL_law_410 : decode cL_law 410 = .ok (.iadd, 1) := by decide +kernel
theorem dL_law_411 : decode cL_law 411 = .ok (.iaload, 1) := by decide +kernel
theorem dL_law_412 : decode cL_law 412 = .ok (.invokevirtual 37, 3) := by decide +kernel
theorem dL_law_415 : decode cL_law 415 = .ok (.aload_n 2, 1) := by decide +kernel
theorem dL_law_416 : decode cL_law 416 = .ok (.aload_n 0, 1) := by decide +kernel
theorem dL_law_417 : decode cL_law 417 = .ok (.iload_n 3, 1) := by decide +kernel
theorem dL_law_418 : decode cL_law 418 = .ok (.iconst 1, 1) := by decide +kernel
theorem dL_law_419 : decode cL_law 419 = .ok (.iadd, 1) := by decide +kernel
theorem dL_law_420 : decode cL_law 420 = .ok (.iaload, 1) := by decide +kernel
theorem dL_law_421 : decode cL_law 421 = .ok (.aload_n 0, 1) := by decide +kernel
theorem dL_law_422 : decode cL_law 422 = .ok (.iload_n 3, 1) := by decide +kernel
theorem dL_law_423 : decode cL_law 423 = .ok (.iconst 2, 1) := by decide +kernel
theorem dL_law_424 : decode cL_law 424 = .ok (.iadd, 1) := by decide +kernel
theorem dL_law_425 : decode cL_law 425 = .ok (.iaload, 1) := by decide +kernel
theorem dL_law_426 : decode cL_law 426 = .ok (.invokevirtual 41, 3) := by decide +kernel
theorem dL_law_429 : decode cL_law 429 = .ok (.if_icmp .eq 1137, 3) := by decide +kernel
theorem dL_law_432 : decode cL_law 432 = .ok (.iconst 0, 1) := by decide +kernel
theorem dL_law_433 : decode cL_law 433 = .ok (.ireturn, 1) := by decide +kernel
theorem dL_law_434 : decode cL_law 434 = .ok (.aload_n 1, 1) := by decide +kernel
theorem dL_law_435 : decode cL_law 435 = .ok (.aload_n 0, 1) := by decide +kernel
theorem dL_law_436 : decode cL_law 436 = .ok (.iload_n 3, 1) := by decide +kernel
theorem dL_law_437 : decode cL_law 437 = .ok (.iconst 1, 1) := by decide +kernel
theorem dL_law_438 : decode cL_law 438 = .ok (.iadd, 1) := by decide +kernel
theorem dL_law_439 : decode cL_law 439 = .ok (.iaload, 1) := by decide +kernel
theorem dL_law_440 : decode cL_law 440 = .ok (.aload_n 0, 1) := by decide +kernel
theorem dL_law_441 : decode cL_law 441 = .ok (.iload_n 3, 1) := by decide +kernel
theorem dL_law_442 : decode cL_law 442 = .ok (.iconst 2, 1) := by decide +kernel
theorem dL_law_443 : decode cL_law 443 = .ok (.iadd, 1) := by decide +kernel
theorem dL_law_444 : decode cL_law 444 = .ok (.iaload, 1) := by decide +kernel
theorem dL_law_445 : decode cL_law 445 = .ok (.invokevirtual 42, 3) := by decide +kernel
theorem dL_law_448 : decode cL_law 448 = .ok (.aload_n 2, 1) := by decide +kernel
theorem dL_law_449 : decode cL_law 449 = .ok (.aload_n 0, 1) := by decide +kernel
theorem dL_law_450 : decode cL_law 450 = .ok (.iload_n 3, 1) := by decide +kernel
theorem dL_law_451 : decode cL_law 451 = .ok (.iconst 1, 1) := by decide +kernel
theorem dL_law_452 : decode cL_law 452 = .ok (.iadd, 1) := by decide +kernel
theorem dL_law_453 : decode cL_law 453 = .ok (.iaload, 1) := by decide +kernel
theorem dL_law_454 : decode cL_law 454 = .ok (.aload_n 0, 1) := by decide +kernel
theorem dL_law_455 : decode cL_law 455 = .ok (.iload_n 3, 1) := by decide +kernel
theorem dL_law_456 : decode cL_law 456 = .ok (.iconst 2, 1) := by decide +kernel
theorem dL_law_457 : decode cL_law 457 = .ok (.iadd, 1) := by decide +kernel
theorem dL_law_458 : decode cL_law 458 = .ok (.iaload, 1) := by decide +kernel
theorem dL_law_459 : decode cL_law 459 = .ok (.invokevirtual 45, 3) := by decide +kernel
theorem dL_law_462 : decode cL_law 462 = .ok (.if_icmp .eq 1104, 3) := by decide +kernel
theorem dL_law_465 : decode cL_law 465 = .ok (.iconst 0, 1) := by decide +kernel
theorem dL_law_466 : decode cL_law 466 = .ok (.ireturn, 1) := by decide +kernel
theorem dL_law_467 : decode cL_law 467 = .ok (.aload_n 1, 1) := by decide +kernel
theorem dL_law_468 : decode cL_law 468 = .ok (.aload_n 0, 1) := by decide +kernel
theorem dL_law_469 : decode cL_law 469 = .ok (.iload_n 3, 1) := by decide +kernel
theorem dL_law_470 : decode cL_law 470 = .ok (.iconst 1, 1) := by decide +kernel
theorem dL_law_471 : decode cL_law 471 = .ok (.iadd, 1) := by decide +kernel
theorem dL_law_472 : decode cL_law 472 = .ok (.iaload, 1) := by decide +kernel
theorem dL_law_473 : decode cL_law 473 = .ok (.aload_n 0, 1) := by decide +kernel
theorem dL_law_474 : decode cL_law 474 = .ok (.iload_n 3, 1) := by decide +kernel
theorem dL_law_475 : decode cL_law 475 = .ok (.iconst 2, 1) := by decide +kernel
theorem dL_law_476 : decode cL_law 476 = .ok (.iadd, 1) := by decide +kernel
theorem dL_law_477 : decode cL_law 477 = .ok (.iaload, 1) := by decide +kernel
theorem dL_law_478 : decode cL_law 478 = .ok (.invokevirtual 46, 3) := by decide +kernel
theorem dL_law_481 : decode cL_law 481 = .ok (.aload_n 2, 1) := by decide +kernel
theorem dL_law_482 : decode cL_law 482 = .ok (.aload_n 0, 1) := by decide +kernel
theorem dL_law_483 : decode cL_law 483 = .ok (.iload_n 3, 1) := by decide +kernel
theorem dL_law_484 : decode cL_law 484 = .ok (.iconst 1, 1) := by decide +kernel
theorem dL_law_485 : decode cL_law 485 = .ok (.iadd, 1) := by decide +kernel
theorem dL_law_486 : decode cL_law 486 = .ok (.iaload, 1) := by decide +kernel
theorem dL_law_487 : decode cL_law 487 = .ok (.aload_n 0, 1) := by decide +kernel
theorem dL_law_488 : decode cL_law 488 = .ok (.iload_n 3, 1) := by decide +kernel
theorem dL_law_489 : decode cL_law 489 = .ok (.iconst 2, 1) := by decide +kernel
theorem dL_law_490 : decode cL_law 490 = .ok (.iadd, 1) := by decide +kernel
theorem dL_law_491 : decode cL_law 491 = .ok (.iaload, 1) := by decide +kernel
theorem dL_law_492 : decode cL_law 492 = .ok (.invokevirtual 49, 3) := by decide +kernel
theorem dL_law_495 : decode cL_law 495 = .ok (.if_icmp .eq 1071, 3) := by decide +kernel
theorem dL_law_498 : decode cL_law 498 = .ok (.iconst 0, 1) := by decide +kernel
theorem dL_law_499 : decode cL_law 499 = .ok (.ireturn, 1) := by decide +kernel
theorem dL_law_500 : decode cL_law 500 = .ok (.aload_n 1, 1) := by decide +kernel
theorem dL_law_501 : decode cL_law 501 = .ok (.invokevirtual 50, 3) := by decide +kernel
theorem dL_law_504 : decode cL_law 504 = .ok (.aload_n 2, 1) := by decide +kernel
theorem dL_law_505 : decode cL_law 505 = .ok (.invokevirtual 53, 3) := by decide +kernel
theorem dL_law_508 : decode cL_law 508 = .ok (.if_icmp .eq 1058, 3) := by decide +kernel
theorem dL_law_511 : decode cL_law 511 = .ok (.iconst 0, 1) := by decide +kernel
theorem dL_law_512 : decode cL_law 512 = .ok (.ireturn, 1) := by decide +kernel
theorem dL_law_513 : decode cL_law 513 = .ok (.aload_n 1, 1) := by decide +kernel
theorem dL_law_514 : decode cL_law 514 = .ok (.aload_n 0, 1) := by decide +kernel
theorem dL_law_515 : decode cL_law 515 = .ok (.iload_n 3, 1) := by decide +kernel
theorem dL_law_516 : decode cL_law 516 = .ok (.iconst 1, 1) := by decide +kernel
theorem dL_law_517 : decode cL_law 517 = .ok (.iadd, 1) := by decide +kernel
theorem dL_law_518 : decode cL_law 518 = .ok (.iaload, 1) := by decide +kernel
theorem dL_law_519 : decode cL_law 519 = .ok (.invokevirtual 54, 3) := by decide +kernel
theorem dL_law_522 : decode cL_law 522 = .ok (.aload_n 2, 1) := by decide +kernel
theorem dL_law_523 : decode cL_law 523 = .ok (.aload_n 0, 1) := by decide +kernel
theorem dL_law_524 : decode cL_law 524 = .ok (.iload_n 3, 1) := by decide +kernel
theorem dL_law_525 : decode cL_law 525 = .ok (.iconst 1, 1) := by decide +kernel
theorem dL_law_526 : decode cL_law 526 = .ok (.iadd, 1) := by decide +kernel
theorem dL_law_527 : decode cL_law 527 = .ok (.iaload, 1) := by decide +kernel
theorem dL_law_528 : decode cL_law 528 = .ok (.invokevirtual 57, 3) := by decide +kernel
theorem dL_law_531 : decode cL_law 531 = .ok (.if_icmp .eq 1035, 3) := by decide +kernel
theorem dL_law_534 : decode cL_law 534 = .ok (.iconst 0, 1) := by decide +kernel
theorem dL_law_535 : decode cL_law 535 = .ok (.ireturn, 1) := by decide +kernel
theorem dL_law_536 : decode cL_law 536 = .ok (.aload_n 1, 1) := by decide +kernel
theorem dL_law_537 : decode cL_law 537 = .ok (.invokevirtual 58, 3) := by decide +kernel
theorem dL_law_540 : decode cL_law 540 = .ok (.aload_n 2, 1) := by decide +kernel
theorem dL_law_541 : decode cL_law 541 = .ok (.invokevirtual 61, 3) := by decide +kernel
theorem dL_law_544 : decode cL_law 544 = .ok (.if_icmp .eq 1022, 3) := by decide +kernel
theorem dL_law_547 : decode cL_law 547 = .ok (.iconst 0, 1) := by decide +kernel
theorem dL_law_548 : decode cL_law 548 = .ok (.ireturn, 1) := by decide +kernel
theorem dL_law_549 : decode cL_law 549 = .ok (.aload_n 1, 1) := by decide +kernel
theorem dL_law_550 : decode cL_law 550 = .ok (.invokevirtual 62, 3) := by decide +kernel
theorem dL_law_553 : decode cL_law 553 = .ok (.aload_n 2, 1) := by decide +kernel
theorem dL_law_554 : decode cL_law 554 = .ok (.invokevirtual 65, 3) := by decide +kernel
theorem dL_law_557 : decode cL_law 557 = .ok (.if_icmp .eq 1009, 3) := by decide +kernel
theorem dL_law_560 : decode cL_law 560 = .ok (.iconst 0, 1) := by decide +kernel
theorem dL_law_561 : decode cL_law 561 = .ok (.ireturn, 1) := by decide +kernel
theorem dL_law_562 : decode cL_law 562 = .ok (.aload_n 1, 1) := by decide +kernel
theorem dL_law_563 : decode cL_law 563 = .ok (.aload_n 0, 1) := by decide +kernel
theorem dL_law_564 : decode cL_law 564 = .ok (.iload_n 3, 1) := by decide +kernel
theorem dL_law_565 : decode cL_law 565 = .ok (.iconst 1, 1) := by decide +kernel
theorem dL_law_566 : decode cL_law 566 = .ok (.iadd, 1) := by decide +kernel
theorem dL_law_567 : decode cL_law 567 = .ok (.iaload, 1) := by decide +kernel
theorem dL_law_568 : decode cL_law 568 = .ok (.invokevirtual 66, 3) := by decide +kernel
theorem dL_law_571 : decode cL_law 571 = .ok (.aload_n 2, 1) := by decide +kernel
theorem dL_law_572 : decode cL_law 572 = .ok (.aload_n 0, 1) := by decide +kernel
theorem dL_law_573 : decode cL_law 573 = .ok (.iload_n 3, 1) := by decide +kernel
theorem dL_law_574 : decode cL_law 574 = .ok (.iconst 1, 1) := by decide +kernel
theorem dL_law_575 : decode cL_law 575 = .ok (.iadd, 1) := by decide +kernel
theorem dL_law_576 : decode cL_law 576 = .ok (.iaload, 1) := by decide +kernel
theorem dL_law_577 : decode cL_law 577 = .ok (.invokevirtual 69, 3) := by decide +kernel
theorem dL_law_580 : decode cL_law 580 = .ok (.if_icmp .eq 986, 3) := by decide +kernel
theorem dL_law_583 : decode cL_law 583 = .ok (.iconst 0, 1) := by decide +kernel
theorem dL_law_584 : decode cL_law 584 = .ok (.ireturn, 1) := by decide +kernel
theorem dL_law_585 : decode cL_law 585 = .ok (.aload_n 1, 1) := by decide +kernel
theorem dL_law_586 : decode cL_law 586 = .ok (.aload_n 0, 1) := by decide +kernel
theorem dL_law_587 : decode cL_law 587 = .ok (.iload_n 3, 1) := by decide +kernel
theorem dL_law_588 : decode cL_law 588 = .ok (.iconst 1, 1) := by decide +kernel
theorem dL_law_589 : decode cL_law 589 = .ok (.iadd, 1) := by decide +kernel
theorem dL_law_590 : decode cL_law 590 = .ok (.iaload, 1) := by decide +kernel
theorem dL_law_591 : decode cL_law 591 = .ok (.invokevirtual 70, 3) := by decide +kernel
theorem dL_law_594 : decode cL_law 594 = .ok (.aload_n 2, 1) := by decide +kernel
theorem dL_law_595 : decode cL_law 595 = .ok (.aload_n 0, 1) := by decide +kernel
theorem dL_law_596 : decode cL_law 596 = .ok (.iload_n 3, 1) := by decide +kernel
theorem dL_law_597 : decode cL_law 597 = .ok (.iconst 1, 1) := by decide +kernel
theorem dL_law_598 : decode cL_law 598 = .ok (.iadd, 1) := by decide +kernel
theorem dL_law_599 : decode cL_law 599 = .ok (.iaload, 1) := by decide +kernel
theorem dL_law_600 : decode cL_law 600 = .ok (.invokevirtual 73, 3) := by decide +kernel
theorem dL_law_603 : decode cL_law 603 = .ok (.if_icmp .eq 963, 3) := by decide +kernel
theorem dL_law_606 : decode cL_law 606 = .ok (.iconst 0, 1) := by decide +kernel
theorem dL_law_607 : decode cL_law 607 = .ok (.ireturn, 1) := by decide +kernel
theorem dL_law_608 : decode cL_law 608 = .ok (.aload_n 1, 1) := by decide +kernel
theorem dL_law_609 : decode cL_law 609 = .ok (.invokevirtual 74, 3) := by decide +kernel
theorem dL_law_612 : decode cL_law 612 = .ok (.aload_n 2, 1) := by decide +kernel
theorem dL_law_613 : decode cL_law 613 = .ok (.invokevirtual 77, 3) := by decide +kernel
theorem dL_law_616 : decode cL_law 616 = .ok (.if_icmp .eq 950, 3) := by decide +kernel
theorem dL_law_619 : decode cL_law 619 = .ok (.iconst 0, 1) := by decide +kernel
theorem dL_law_620 : decode cL_law 620 = .ok (.ireturn, 1) := by decide +kernel
theorem dL_law_621 : decode cL_law 621 = .ok (.aload_n 1, 1) := by decide +kernel
theorem dL_law_622 : decode cL_law 622 = .ok (.invokevirtual 78, 3) := by decide +kernel
theorem dL_law_625 : decode cL_law 625 = .ok (.aload_n 2, 1) := by decide +kernel
theorem dL_law_626 : decode cL_law 626 = .ok (.invokevirtual 81, 3) := by decide +kernel
theorem dL_law_629 : decode cL_law 629 = .ok (.if_icmp .eq 937, 3) := by decide +kernel
theorem dL_law_632 : decode cL_law 632 = .ok (.iconst 0, 1) := by decide +kernel
theorem dL_law_633 : decode cL_law 633 = .ok (.ireturn, 1) := by decide +kernel
theorem dL_law_634 : decode cL_law 634 = .ok (.aload_n 1, 1) := by decide +kernel
theorem dL_law_635 : decode cL_law 635 = .ok (.aload_n 0, 1) := by decide +kernel
theorem dL_law_636 : decode cL_law 636 = .ok (.iload_n 3, 1) := by decide +kernel
theorem dL_law_637 : decode cL_law 637 = .ok (.iconst 1, 1) := by decide +kernel
theorem dL_law_638 : decode cL_law 638 = .ok (.iadd, 1) := by decide +kernel
theorem dL_law_639 : decode cL_law 639 = .ok (.iaload, 1) := by decide +kernel
theorem dL_law_640 : decode cL_law 640 = .ok (.aload_n 0, 1) := by decide +kernel
theorem dL_law_641 : decode cL_law 641 = .ok (.iload_n 3, 1) := by decide +kernel
theorem dL_law_642 : decode cL_law 642 = .ok (.iconst 2, 1) := by decide +kernel
theorem dL_law_643 : decode cL_law 643 = .ok (.iadd, 1) := by decide +kernel
theorem dL_law_644 : decode cL_law 644 = .ok (.iaload, 1) := by decide +kernel
theorem dL_law_645 : decode cL_law 645 = .ok (.invokevirtual 82, 3) := by decide +kernel
theorem dL_law_648 : decode cL_law 648 = .ok (.aload_n 2, 1) := by decide +kernel
theorem dL_law_649 : decode cL_law 649 = .ok (.aload_n 0, 1) := by decide +kernel
theorem dL_law_650 : decode cL_law 650 = .ok (.iload_n 3, 1) := by decide +kernel
theorem dL_law_651 : decode cL_law 651 = .ok (.iconst 1, 1) := by decide +kernel
theorem dL_law_652 : decode cL_law 652 = .ok (.iadd, 1) := by decide +kernel
theorem dL_law_653 : decode cL_law 653 = .ok (.iaload, 1) := by decide +kernel
theorem dL_law_654 : decode cL_law 654 = .ok (.aload_n 0, 1) := by decide +kernel
theorem dL_law_655 : decode cL_law 655 = .ok (.iload_n 3, 1) := by decide +kernel
theorem dL_law_656 : decode cL_law 656 = .ok (.iconst 2, 1) := by decide +kernel
theorem dL_law_657 : decode cL_law 657 = .ok (.iadd, 1) := by decide +kernel
theorem dL_law_658 : decode cL_law 658 = .ok (.iaload, 1) := by decide +kernel
theorem dL_law_659 : decode cL_law 659 = .ok (.invokevirtual 85, 3) := by decide +kernel
theorem dL_law_662 : decode cL_law 662 = .ok (.if_icmp .eq 904, 3) := by decide +kernel
theorem dL_law_665 : decode cL_law 665 = .ok (.iconst 0, 1) := by decide +kernel
theorem dL_law_666 : decode cL_law 666 = .ok (.ireturn, 1) := by decide +kernel
theorem dL_law_667 : decode cL_law 667 = .ok (.aload_n 1, 1) := by decide +kernel
theorem dL_law_668 : decode cL_law 668 = .ok (.aload_n 0, 1) := by decide +kernel
theorem dL_law_669 : decode cL_law 669 = .ok (.iload_n 3, 1) := by decide +kernel
theorem dL_law_670 : decode cL_law 670 = .ok (.iconst 1, 1) := by decide +kernel
theorem dL_law_671 : decode cL_law 671 = .ok (.iadd, 1) := by decide +kernel
theorem dL_law_672 : decode cL_law 672 = .ok (.iaload, 1) := by decide +kernel
theorem dL_law_673 : decode cL_law 673 = .ok (.invokevirtual 86, 3) := by decide +kernel
theorem dL_law_676 : decode cL_law 676 = .ok (.aload_n 2, 1) := by decide +kernel
theorem dL_law_677 : decode cL_law 677 = .ok (.aload_n 0, 1) := by decide +kernel
theorem dL_law_678 : decode cL_law 678 = .ok (.iload_n 3, 1) := by decide +kernel
theorem dL_law_679 : decode cL_law 679 = .ok (.iconst 1, 1) := by decide +kernel
theorem dL_law_680 : decode cL_law 680 = .ok (.iadd, 1) := by decide +kernel
theorem dL_law_681 : decode cL_law 681 = .ok (.iaload, 1) := by decide +kernel
theorem dL_law_682 : decode cL_law 682 = .ok (.invokevirtual 89, 3) := by decide +kernel
theorem dL_law_685 : decode cL_law 685 = .ok (.if_icmp .eq 881, 3) := by decide +kernel
theorem dL_law_688 : decode cL_law 688 = .ok (.iconst 0, 1) := by decide +kernel
theorem dL_law_689 : decode cL_law 689 = .ok (.ireturn, 1) := by decide +kernel
theorem dL_law_690 : decode cL_law 690 = .ok (.aload_n 1, 1) := by decide +kernel
theorem dL_law_691 : decode cL_law 691 = .ok (.aload_n 0, 1) := by decide +kernel
theorem dL_law_692 : decode cL_law 692 = .ok (.iload_n 3, 1) := by decide +kernel
theorem dL_law_693 : decode cL_law 693 = .ok (.iconst 1, 1) := by decide +kernel
theorem dL_law_694 : decode cL_law 694 = .ok (.iadd, 1) := by decide +kernel
theorem dL_law_695 : decode cL_law 695 = .ok (.iaload, 1) := by decide +kernel
theorem dL_law_696 : decode cL_law 696 = .ok (.invokevirtual 90, 3) := by decide +kernel
theorem dL_law_699 : decode cL_law 699 = .ok (.aload_n 2, 1) := by decide +kernel
theorem dL_law_700 : decode cL_law 700 = .ok (.aload_n 0, 1) := by decide +kernel
theorem dL_law_701 : decode cL_law 701 = .ok (.iload_n 3, 1) := by decide +kernel
theorem dL_law_702 : decode cL_law 702 = .ok (.iconst 1, 1) := by decide +kernel
theorem dL_law_703 : decode cL_law 703 = .ok (.iadd, 1) := by decide +kernel
theorem dL_law_704 : decode cL_law 704 = .ok (.iaload, 1) := by decide +kernel
theorem dL_law_705 : decode cL_law 705 = .ok (.invokevirtual 93, 3) := by decide +kernel
theorem dL_law_708 : decode cL_law 708 = .ok (.if_icmp .eq 858, 3) := by decide +kernel
theorem dL_law_711 : decode cL_law 711 = .ok (.iconst 0, 1) := by decide +kernel
theorem dL_law_712 : decode cL_law 712 = .ok (.ireturn, 1) := by decide +kernel
theorem dL_law_713 : decode cL_law 713 = .ok (.aload_n 1, 1) := by decide +kernel
theorem dL_law_714 : decode cL_law 714 = .ok (.aload_n 0, 1) := by decide +kernel
theorem dL_law_715 : decode cL_law 715 = .ok (.iload_n 3, 1) := by decide +kernel
theorem dL_law_716 : decode cL_law 716 = .ok (.iconst 1, 1) := by decide +kernel
theorem dL_law_717 : decode cL_law 717 = .ok (.iadd, 1) := by decide +kernel
theorem dL_law_718 : decode cL_law 718 = .ok (.iaload, 1) := by decide +kernel
theorem dL_law_719 : decode cL_law 719 = .ok (.invokevirtual 94, 3) := by decide +kernel
theorem dL_law_722 : decode cL_law 722 = .ok (.aload_n 2, 1) := by decide +kernel
theorem dL_law_723 : decode cL_law 723 = .ok (.aload_n 0, 1) := by decide +kernel
theorem dL_law_724 : decode cL_law 724 = .ok (.iload_n 3, 1) := by decide +kernel
theorem dL_law_725 : decode cL_law 725 = .ok (.iconst 1, 1) := by decide +kernel
theorem dL_law_726 : decode cL_law 726 = .ok (.iadd, 1) := by decide +kernel
theorem dL_law_727 : decode cL_law 727 = .ok (.iaload, 1) := by decide +kernel
theorem dL_law_728 : decode cL_law 728 = .ok (.invokevirtual 97, 3) := by decide +kernel
theorem dL_law_731 : decode cL_law 731 = .ok (.if_icmp .eq 835, 3) := by decide +kernel
theorem dL_law_734 : decode cL_law 734 = .ok (.iconst 0, 1) := by decide +kernel
theorem dL_law_735 : decode cL_law 735 = .ok (.ireturn, 1) := by decide +kernel
theorem dL_law_736 : decode cL_law 736 = .ok (.aload_n 1, 1) := by decide +kernel
theorem dL_law_737 : decode cL_law 737 = .ok (.aload_n 0, 1) := by decide +kernel
theorem dL_law_738 : decode cL_law 738 = .ok (.iload_n 3, 1) := by decide +kernel
theorem dL_law_739 : decode cL_law 739 = .ok (.iconst 1, 1) := by decide +kernel
theorem dL_law_740 : decode cL_law 740 = .ok (.iadd, 1) := by decide +kernel
theorem dL_law_741 : decode cL_law 741 = .ok (.iaload, 1) := by decide +kernel
theorem dL_law_742 : decode cL_law 742 = .ok (.aload_n 0, 1) := by decide +kernel
theorem dL_law_743 : decode cL_law 743 = .ok (.iload_n 3, 1) := by decide +kernel
theorem dL_law_744 : decode cL_law 744 = .ok (.iconst 2, 1) := by decide +kernel
theorem dL_law_745 : decode cL_law 745 = .ok (.iadd, 1) := by decide +kernel
theorem dL_law_746 : decode cL_law 746 = .ok (.iaload, 1) := by decide +kernel
theorem dL_law_747 : decode cL_law 747 = .ok (.invokevirtual 98, 3) := by decide +kernel
theorem dL_law_750 : decode cL_law 750 = .ok (.aload_n 2, 1) := by decide +kernel
theorem dL_law_751 : decode cL_law 751 = .ok (.aload_n 0, 1) := by decide +kernel
theorem dL_law_752 : decode cL_law 752 = .ok (.iload_n 3, 1) := by decide +kernel
theorem dL_law_753 : decode cL_law 753 = .ok (.iconst 1, 1) := by decide +kernel
theorem dL_law_754 : decode cL_law 754 = .ok (.iadd, 1) := by decide +kernel
theorem dL_law_755 : decode cL_law 755 = .ok (.iaload, 1) := by decide +kernel
theorem dL_law_756 : decode cL_law 756 = .ok (.aload_n 0, 1) := by decide +kernel
theorem dL_law_757 : decode cL_law 757 = .ok (.iload_n 3, 1) := by decide +kernel
theorem dL_law_758 : decode cL_law 758 = .ok (.iconst 2, 1) := by decide +kernel
theorem dL_law_759 : decode cL_law 759 = .ok (.iadd, 1) := by decide +kernel
theorem dL_law_760 : decode cL_law 760 = .ok (.iaload, 1) := by decide +kernel
theorem dL_law_761 : decode cL_law 761 = .ok (.invokevirtual 101, 3) := by decide +kernel
theorem dL_law_764 : decode cL_law 764 = .ok (.if_icmp .eq 802, 3) := by decide +kernel
theorem dL_law_767 : decode cL_law 767 = .ok (.iconst 0, 1) := by decide +kernel
theorem dL_law_768 : decode cL_law 768 = .ok (.ireturn, 1) := by decide +kernel
theorem dL_law_769 : decode cL_law 769 = .ok (.aload_n 1, 1) := by decide +kernel
theorem dL_law_770 : decode cL_law 770 = .ok (.aload_n 0, 1) := by decide +kernel
theorem dL_law_771 : decode cL_law 771 = .ok (.iload_n 3, 1) := by decide +kernel
theorem dL_law_772 : decode cL_law 772 = .ok (.iconst 1, 1) := by decide +kernel
theorem dL_law_773 : decode cL_law 773 = .ok (.iadd, 1) := by decide +kernel
theorem dL_law_774 : decode cL_law 774 = .ok (.iaload, 1) := by decide +kernel
theorem dL_law_775 : decode cL_law 775 = .ok (.invokevirtual 102, 3) := by decide +kernel
theorem dL_law_778 : decode cL_law 778 = .ok (.aload_n 2, 1) := by decide +kernel
theorem dL_law_779 : decode cL_law 779 = .ok (.aload_n 0, 1) := by decide +kernel
theorem dL_law_780 : decode cL_law 780 = .ok (.iload_n 3, 1) := by decide +kernel
theorem dL_law_781 : decode cL_law 781 = .ok (.iconst 1, 1) := by decide +kernel
theorem dL_law_782 : decode cL_law 782 = .ok (.iadd, 1) := by decide +kernel
theorem dL_law_783 : decode cL_law 783 = .ok (.iaload, 1) := by decide +kernel
theorem dL_law_784 : decode cL_law 784 = .ok (.invokevirtual 105, 3) := by decide +kernel
theorem dL_law_787 : decode cL_law 787 = .ok (.if_icmp .eq 779, 3) := by decide +kernel
theorem dL_law_790 : decode cL_law 790 = .ok (.iconst 0, 1) := by decide +kernel
theorem dL_law_791 : decode cL_law 791 = .ok (.ireturn, 1) := by decide +kernel
theorem dL_law_792 : decode cL_law 792 = .ok (.aload_n 1, 1) := by decide +kernel
theorem dL_law_793 : decode cL_law 793 = .ok (.aload_n 0, 1) := by decide +kernel
theorem dL_law_794 : decode cL_law 794 = .ok (.iload_n 3, 1) := by decide +kernel
theorem dL_law_795 : decode cL_law 795 = .ok (.iconst 1, 1) := by decide +kernel
theorem dL_law_796 : decode cL_law 796 = .ok (.iadd, 1) := by decide +kernel
theorem dL_law_797 : decode cL_law 797 = .ok (.iaload, 1) := by decide +kernel
theorem dL_law_798 : decode cL_law 798 = .ok (.invokevirtual 106, 3) := by decide +kernel
theorem dL_law_801 : decode cL_law 801 = .ok (.aload_n 2, 1) := by decide +kernel
theorem dL_law_802 : decode cL_law 802 = .ok (.aload_n 0, 1) := by decide +kernel
theorem dL_law_803 : decode cL_law 803 = .ok (.iload_n 3, 1) := by decide +kernel
theorem dL_law_804 : decode cL_law 804 = .ok (.iconst 1, 1) := by decide +kernel
theorem dL_law_805 : decode cL_law 805 = .ok (.iadd, 1) := by decide +kernel
theorem dL_law_806 : decode cL_law 806 = .ok (.iaload, 1) := by decide +kernel
theorem dL_law_807 : decode cL_law 807 = .ok (.invokevirtual 109, 3) := by decide +kernel
theorem dL_law_810 : decode cL_law 810 = .ok (.if_icmp .eq 756, 3) := by decide +kernel
theorem dL_law_813 : decode cL_law 813 = .ok (.iconst 0, 1) := by decide +kernel
theorem dL_law_814 : decode cL_law 814 = .ok (.ireturn, 1) := by decide +kernel
theorem dL_law_815 : decode cL_law 815 = .ok (.aload_n 1, 1) := by decide +kernel
theorem dL_law_816 : decode cL_law 816 = .ok (.aload_n 0, 1) := by decide +kernel
theorem dL_law_817 : decode cL_law 817 = .ok (.iload_n 3, 1) := by decide +kernel
theorem dL_law_818 : decode cL_law 818 = .ok (.iconst 1, 1) := by decide +kernel
theorem dL_law_819 : decode cL_law 819 = .ok (.iadd, 1) := by decide +kernel
theorem dL_law_820 : decode cL_law 820 = .ok (.iaload, 1) := by decide +kernel
theorem dL_law_821 : decode cL_law 821 = .ok (.aload_n 0, 1) := by decide +kernel
theorem dL_law_822 : decode cL_law 822 = .ok (.iload_n 3, 1) := by decide +kernel
theorem dL_law_823 : decode cL_law 823 = .ok (.iconst 2, 1) := by decide +kernel
theorem dL_law_824 : decode cL_law 824 = .ok (.iadd, 1) := by decide +kernel
theorem dL_law_825 : decode cL_law 825 = .ok (.iaload, 1) := by decide +kernel
theorem dL_law_826 : decode cL_law 826 = .ok (.ifCond .eq 7, 3) := by decide +kernel
theorem dL_law_829 : decode cL_law 829 = .ok (.iconst 1, 1) := by decide +kernel
theorem dL_law_830 : decode cL_law 830 = .ok (.goto 4, 3) := by decide +kernel
theorem dL_law_833 : decode cL_law 833 = .ok (.iconst 0, 1) := by decide +kernel
theorem dL_law_834 : decode cL_law 834 = .ok (.invokevirtual 110, 3) := by decide +kernel
theorem dL_law_837 : decode cL_law 837 = .ok (.aload_n 2, 1) := by decide +kernel
theorem dL_law_838 : decode cL_law 838 = .ok (.aload_n 0, 1) := by decide +kernel
theorem dL_law_839 : decode cL_law 839 = .ok (.iload_n 3, 1) := by decide +kernel
theorem dL_law_840 : decode cL_law 840 = .ok (.iconst 1, 1) := by decide +kernel
theorem dL_law_841 : decode cL_law 841 = .ok (.iadd, 1) := by decide +kernel
theorem dL_law_842 : decode cL_law 842 = .ok (.iaload, 1) := by decide +kernel
theorem dL_law_843 : decode cL_law 843 = .ok (.aload_n 0, 1) := by decide +kernel
theorem dL_law_844 : decode cL_law 844 = .ok (.iload_n 3, 1) := by decide +kernel
theorem dL_law_845 : decode cL_law 845 = .ok (.iconst 2, 1) := by decide +kernel
theorem dL_law_846 : decode cL_law 846 = .ok (.iadd, 1) := by decide +kernel
theorem dL_law_847 : decode cL_law 847 = .ok (.iaload, 1) := by decide +kernel
theorem dL_law_848 : decode cL_law 848 = .ok (.ifCond .eq 7, 3) := by decide +kernel
theorem dL_law_851 : decode cL_law 851 = .ok (.iconst 1, 1) := by decide +kernel
theorem dL_law_852 : decode cL_law 852 = .ok (.goto 4, 3) := by decide +kernel
theorem dL_law_855 : decode cL_law 855 = .ok (.iconst 0, 1) := by decide +kernel
theorem dL_law_856 : decode cL_law 856 = .ok (.invokevirtual 114, 3) := by decide +kernel
theorem dL_law_859 : decode cL_law 859 = .ok (.if_icmp .eq 707, 3) := by decide +kernel
theorem dL_law_862 : decode cL_law 862 = .ok (.iconst 0, 1) := by decide +kernel
theorem dL_law_863 : decode cL_law 863 = .ok (.ireturn, 1) := by decide +kernel
theorem dL_law_864 : decode cL_law 864 = .ok (.aload_n 1, 1) := by decide +kernel
theorem dL_law_865 : decode cL_law 865 = .ok (.aload_n 0, 1) := by decide +kernel
theorem dL_law_866 : decode cL_law 866 = .ok (.iload_n 3, 1) := by decide +kernel
theorem dL_law_867 : decode cL_law 867 = .ok (.iconst 1, 1) := by decide +kernel
theorem dL_law_868 : decode cL_law 868 = .ok (.iadd, 1) := by decide +kernel
theorem dL_law_869 : decode cL_law 869 = .ok (.iaload, 1) := by decide +kernel
theorem dL_law_870 : decode cL_law 870 = .ok (.invokevirtual 115, 3) := by decide +kernel
theorem dL_law_873 : decode cL_law 873 = .ok (.aload_n 2, 1) := by decide +kernel
theorem dL_law_874 : decode cL_law 874 = .ok (.aload_n 0, 1) := by decide +kernel
theorem dL_law_875 : decode cL_law 875 = .ok (.iload_n 3, 1) := by decide +kernel
theorem dL_law_876 : decode cL_law 876 = .ok (.iconst 1, 1) := by decide +kernel
theorem dL_law_877 : decode cL_law 877 = .ok (.iadd, 1) := by decide +kernel
theorem dL_law_878 : decode cL_law 878 = .ok (.iaload, 1) := by decide +kernel
theorem dL_law_879 : decode cL_law 879 = .ok (.invokevirtual 118, 3) := by decide +kernel
theorem dL_law_882 : decode cL_law 882 = .ok (.if_icmp .eq 684, 3) := by decide +kernel
theorem dL_law_885 : decode cL_law 885 = .ok (.iconst 0, 1) := by decide +kernel
theorem dL_law_886 : decode cL_law 886 = .ok (.ireturn, 1) := by decide +kernel
theorem dL_law_887 : decode cL_law 887 = .ok (.aload_n 1, 1) := by decide +kernel
theorem dL_law_888 : decode cL_law 888 = .ok (.aload_n 0, 1) := by decide +kernel
theorem dL_law_889 : decode cL_law 889 = .ok (.iload_n 3, 1) := by decide +kernel
theorem dL_law_890 : decode cL_law 890 = .ok (.iconst 1, 1) := by decide +kernel
theorem dL_law_891 : decode cL_law 891 = .ok (.iadd, 1) := by decide +kernel
theorem dL_law_892 : decode cL_law 892 = .ok (.iaload, 1) := by decide +kernel
theorem dL_law_893 : decode cL_law 893 = .ok (.invokevirtual 119, 3) := by decide +kernel
theorem dL_law_896 : decode cL_law 896 = .ok (.aload_n 2, 1) := by decide +kernel
theorem dL_law_897 : decode cL_law 897 = .ok (.aload_n 0, 1) := by decide +kernel
theorem dL_law_898 : decode cL_law 898 = .ok (.iload_n 3, 1) := by decide +kernel
theorem dL_law_899 : decode cL_law 899 = .ok (.iconst 1, 1) := by decide +kernel
theorem dL_law_900 : decode cL_law 900 = .ok (.iadd, 1) := by decide +kernel
theorem dL_law_901 : decode cL_law 901 = .ok (.iaload, 1) := by decide +kernel
theorem dL_law_902 : decode cL_law 902 = .ok (.invokevirtual 122, 3) := by decide +kernel
theorem dL_law_905 : decode cL_law 905 = .ok (.if_icmp .eq 661, 3) := by decide +kernel
theorem dL_law_908 : decode cL_law 908 = .ok (.iconst 0, 1) := by decide +kernel
theorem dL_law_909 : decode cL_law 909 = .ok (.ireturn, 1) := by decide +kernel
theorem dL_law_910 : decode cL_law 910 = .ok (.aload_n 1, 1) := by decide +kernel
theorem dL_law_911 : decode cL_law 911 = .ok (.aload_n 0, 1) := by decide +kernel
theorem dL_law_912 : decode cL_law 912 = .ok (.iload_n 3, 1) := by decide +kernel
theorem dL_law_913 : decode cL_law 913 = .ok (.iconst 1, 1) := by decide +kernel
theorem dL_law_914 : decode cL_law 914 = .ok (.iadd, 1) := by decide +kernel
theorem dL_law_915 : decode cL_law 915 = .ok (.iaload, 1) := by decide +kernel
theorem dL_law_916 : decode cL_law 916 = .ok (.invokevirtual 123, 3) := by decide +kernel
theorem dL_law_919 : decode cL_law 919 = .ok (.aload_n 2, 1) := by decide +kernel
theorem dL_law_920 : decode cL_law 920 = .ok (.aload_n 0, 1) := by decide +kernel
theorem dL_law_921 : decode cL_law 921 = .ok (.iload_n 3, 1) := by decide +kernel
theorem dL_law_922 : decode cL_law 922 = .ok (.iconst 1, 1) := by decide +kernel
theorem dL_law_923 : decode cL_law 923 = .ok (.iadd, 1) := by decide +kernel
theorem dL_law_924 : decode cL_law 924 = .ok (.iaload, 1) := by decide +kernel
theorem dL_law_925 : decode cL_law 925 = .ok (.invokevirtual 126, 3) := by decide +kernel
theorem dL_law_928 : decode cL_law 928 = .ok (.if_icmp .eq 638, 3) := by decide +kernel
theorem dL_law_931 : decode cL_law 931 = .ok (.iconst 0, 1) := by decide +kernel
theorem dL_law_932 : decode cL_law 932 = .ok (.ireturn, 1) := by decide +kernel
theorem dL_law_933 : decode cL_law 933 = .ok (.aload_n 1, 1) := by decide +kernel
theorem dL_law_934 : decode cL_law 934 = .ok (.aload_n 0, 1) := by decide +kernel
theorem dL_law_935 : decode cL_law 935 = .ok (.iload_n 3, 1) := by decide +kernel
theorem dL_law_936 : decode cL_law 936 = .ok (.iconst 1, 1) := by decide +kernel
theorem dL_law_937 : decode cL_law 937 = .ok (.iadd, 1) := by decide +kernel
theorem dL_law_938 : decode cL_law 938 = .ok (.iaload, 1) := by decide +kernel
theorem dL_law_939 : decode cL_law 939 = .ok (.aload_n 0, 1) := by decide +kernel
theorem dL_law_940 : decode cL_law 940 = .ok (.iload_n 3, 1) := by decide +kernel
theorem dL_law_941 : decode cL_law 941 = .ok (.iconst 2, 1) := by decide +kernel
theorem dL_law_942 : decode cL_law 942 = .ok (.iadd, 1) := by decide +kernel
theorem dL_law_943 : decode cL_law 943 = .ok (.iaload, 1) := by decide +kernel
theorem dL_law_944 : decode cL_law 944 = .ok (.invokevirtual 127, 3) := by decide +kernel
theorem dL_law_947 : decode cL_law 947 = .ok (.aload_n 2, 1) := by decide +kernel
theorem dL_law_948 : decode cL_law 948 = .ok (.aload_n 0, 1) := by decide +kernel
theorem dL_law_949 : decode cL_law 949 = .ok (.iload_n 3, 1) := by decide +kernel
theorem dL_law_950 : decode cL_law 950 = .ok (.iconst 1, 1) := by decide +kernel
theorem dL_law_951 : decode cL_law 951 = .ok (.iadd, 1) := by decide +kernel
theorem dL_law_952 : decode cL_law 952 = .ok (.iaload, 1) := by decide +kernel
theorem dL_law_953 : decode cL_law 953 = .ok (.aload_n 0, 1) := by decide +kernel
theorem dL_law_954 : decode cL_law 954 = .ok (.iload_n 3, 1) := by decide +kernel
theorem dL_law_955 : decode cL_law 955 = .ok (.iconst 2, 1) := by decide +kernel
theorem dL_law_956 : decode cL_law 956 = .ok (.iadd, 1) := by decide +kernel
theorem dL_law_957 : decode cL_law 957 = .ok (.iaload, 1) := by decide +kernel
theorem dL_law_958 : decode cL_law 958 = .ok (.invokevirtual 130, 3) := by decide +kernel
theorem dL_law_961 : decode cL_law 961 = .ok (.if_icmp .eq 605, 3) := by decide +kernel
theorem dL_law_964 : decode cL_law 964 = .ok (.iconst 0, 1) := by decide +kernel
theorem dL_law_965 : decode cL_law 965 = .ok (.ireturn, 1) := by decide +kernel
theorem dL_law_966 : decode cL_law 966 = .ok (.aload_n 1, 1) := by decide +kernel
theorem dL_law_967 : decode cL_law 967 = .ok (.aload_n 0, 1) := by decide +kernel
theorem dL_law_968 : decode cL_law 968 = .ok (.iload_n 3, 1) := by decide +kernel
theorem dL_law_969 : decode cL_law 969 = .ok (.iconst 1, 1) := by decide +kernel
theorem dL_law_970 : decode cL_law 970 = .ok (.iadd, 1) := by decide +kernel
theorem dL_law_971 : decode cL_law 971 = .ok (.iaload, 1) := by decide +kernel
theorem dL_law_972 : decode cL_law 972 = .ok (.aload_n 0, 1) := by decide +kernel
theorem dL_law_973 : decode cL_law 973 = .ok (.iload_n 3, 1) := by decide +kernel
theorem dL_law_974 : decode cL_law 974 = .ok (.iconst 2, 1) := by decide +kernel
theorem dL_law_975 : decode cL_law 975 = .ok (.iadd, 1) := by decide +kernel
theorem dL_law_976 : decode cL_law 976 = .ok (.iaload, 1) := by decide +kernel
theorem dL_law_977 : decode cL_law 977 = .ok (.ifCond .eq 7, 3) := by decide +kernel
theorem dL_law_980 : decode cL_law 980 = .ok (.iconst 1, 1) := by decide +kernel
theorem dL_law_981 : decode cL_law 981 = .ok (.goto 4, 3) := by decide +kernel
theorem dL_law_984 : decode cL_law 984 = .ok (.iconst 0, 1) := by decide +kernel
theorem dL_law_985 : decode cL_law 985 = .ok (.aload_n 0, 1) := by decide +kernel
theorem dL_law_986 : decode cL_law 986 = .ok (.iload_n 3, 1) := by decide +kernel
theorem dL_law_987 : decode cL_law 987 = .ok (.iconst 3, 1) := by decide +kernel
theorem dL_law_988 : decode cL_law 988 = .ok (.iadd, 1) := by decide +kernel
theorem dL_law_989 : decode cL_law 989 = .ok (.iaload, 1) := by decide +kernel
theorem dL_law_990 : decode cL_law 990 = .ok (.invokevirtual 131, 3) := by decide +kernel
theorem dL_law_993 : decode cL_law 993 = .ok (.aload_n 2, 1) := by decide +kernel
theorem dL_law_994 : decode cL_law 994 = .ok (.aload_n 0, 1) := by decide +kernel
theorem dL_law_995 : decode cL_law 995 = .ok (.iload_n 3, 1) := by decide +kernel
theorem dL_law_996 : decode cL_law 996 = .ok (.iconst 1, 1) := by decide +kernel
theorem dL_law_997 : decode cL_law 997 = .ok (.iadd, 1) := by decide +kernel
theorem dL_law_998 : decode cL_law 998 = .ok (.iaload, 1) := by decide +kernel
theorem dL_law_999 : decode cL_law 999 = .ok (.aload_n 0, 1) := by decide +kernel
theorem dL_law_1000 : decode cL_law 1000 = .ok (.iload_n 3, 1) := by decide +kernel
theorem dL_law_1001 : decode cL_law 1001 = .ok (.iconst 2, 1) := by decide +kernel
theorem dL_law_1002 : decode cL_law 1002 = .ok (.iadd, 1) := by decide +kernel
theorem dL_law_1003 : decode cL_law 1003 = .ok (.iaload, 1) := by decide +kernel
theorem dL_law_1004 : decode cL_law 1004 = .ok (.ifCond .eq 7, 3) := by decide +kernel
theorem dL_law_1007 : decode cL_law 1007 = .ok (.iconst 1, 1) := by decide +kernel
theorem dL_law_1008 : decode cL_law 1008 = .ok (.goto 4, 3) := by decide +kernel
theorem dL_law_1011 : decode cL_law 1011 = .ok (.iconst 0, 1) := by decide +kernel
theorem dL_law_1012 : decode cL_law 1012 = .ok (.aload_n 0, 1) := by decide +kernel
theorem dL_law_1013 : decode cL_law 1013 = .ok (.iload_n 3, 1) := by decide +kernel
theorem dL_law_1014 : decode cL_law 1014 = .ok (.iconst 3, 1) := by decide +kernel
theorem dL_law_1015 : decode cL_law 1015 = .ok (.iadd, 1) := by decide +kernel
theorem dL_law_1016 : decode cL_law 1016 = .ok (.iaload, 1) := by decide +kernel
theorem dL_law_1017 : decode cL_law 1017 = .ok (.invokevirtual 135, 3) := by decide +kernel
theorem dL_law_1020 : decode cL_law 1020 = .ok (.if_icmp .eq 546, 3) := by decide +kernel
theorem dL_law_1023 : decode cL_law 1023 = .ok (.iconst 0, 1) := by decide +kernel
theorem dL_law_1024 : decode cL_law 1024 = .ok (.ireturn, 1) := by decide +kernel
theorem dL_law_1025 : decode cL_law 1025 = .ok (.aload_n 1, 1) := by decide +kernel
theorem dL_law_1026 : decode cL_law 1026 = .ok (.aload_n 0, 1) := by decide +kernel
theorem dL_law_1027 : decode cL_law 1027 = .ok (.iload_n 3, 1) := by decide +kernel
theorem dL_law_1028 : decode cL_law 1028 = .ok (.iconst 1, 1) := by decide +kernel
theorem dL_law_1029 : decode cL_law 1029 = .ok (.iadd, 1) := by decide +kernel
theorem dL_law_1030 : decode cL_law 1030 = .ok (.iaload, 1) := by decide +kernel
theorem dL_law_1031 : decode cL_law 1031 = .ok (.aload_n 0, 1) := by decide +kernel
theorem dL_law_1032 : decode cL_law 1032 = .ok (.iload_n 3, 1) := by decide +kernel
theorem dL_law_1033 : decode cL_law 1033 = .ok (.iconst 2, 1) := by decide +kernel
theorem dL_law_1034 : decode cL_law 1034 = .ok (.iadd, 1) := by decide +kernel
theorem dL_law_1035 : decode cL_law 1035 = .ok (.iaload, 1) := by decide +kernel
theorem dL_law_1036 : decode cL_law 1036 = .ok (.invokevirtual 136, 3) := by decide +kernel
theorem dL_law_1039 : decode cL_law 1039 = .ok (.aload_n 2, 1) := by decide +kernel
theorem dL_law_1040 : decode cL_law 1040 = .ok (.aload_n 0, 1) := by decide +kernel
theorem dL_law_1041 : decode cL_law 1041 = .ok (.iload_n 3, 1) := by decide +kernel
theorem dL_law_1042 : decode cL_law 1042 = .ok (.iconst 1, 1) := by decide +kernel
theorem dL_law_1043 : decode cL_law 1043 = .ok (.iadd, 1) := by decide +kernel
theorem dL_law_1044 : decode cL_law 1044 = .ok (.iaload, 1) := by decide +kernel
theorem dL_law_1045 : decode cL_law 1045 = .ok (.aload_n 0, 1) := by decide +kernel
theorem dL_law_1046 : decode cL_law 1046 = .ok (.iload_n 3, 1) := by decide +kernel
theorem dL_law_1047 : decode cL_law 1047 = .ok (.iconst 2, 1) := by decide +kernel
theorem dL_law_1048 : decode cL_law 1048 = .ok (.iadd, 1) := by decide +kernel
theorem dL_law_1049 : decode cL_law 1049 = .ok (.iaload, 1) := by decide +kernel
theorem dL_law_1050 : decode cL_law 1050 = .ok (.invokevirtual 139, 3) := by decide +kernel
theorem dL_law_1053 : decode cL_law 1053 = .ok (.if_icmp .eq 513, 3) := by decide +kernel
theorem dL_law_1056 : decode cL_law 1056 = .ok (.iconst 0, 1) := by decide +kernel
theorem dL_law_1057 : decode cL_law 1057 = .ok (.ireturn, 1) := by decide +kernel
theorem dL_law_1058 : decode cL_law 1058 = .ok (.aload_n 1, 1) := by decide +kernel
theorem dL_law_1059 : decode cL_law 1059 = .ok (.aload_n 0, 1) := by decide +kernel
theorem dL_law_1060 : decode cL_law 1060 = .ok (.iload_n 3, 1) := by decide +kernel
theorem dL_law_1061 : decode cL_law 1061 = .ok (.iconst 1, 1) := by decide +kernel
theorem dL_law_1062 : decode cL_law 1062 = .ok (.iadd, 1) := by decide +kernel
theorem dL_law_1063 : decode cL_law 1063 = .ok (.iaload, 1) := by decide +kernel
theorem dL_law_1064 : decode cL_law 1064 = .ok (.aload_n 0, 1) := by decide +kernel
theorem dL_law_1065 : decode cL_law 1065 = .ok (.iload_n 3, 1) := by decide +kernel
theorem dL_law_1066 : decode cL_law 1066 = .ok (.iconst 2, 1) := by decide +kernel
theorem dL_law_1067 : decode cL_law 1067 = .ok (.iadd, 1) := by decide +kernel
theorem dL_law_1068 : decode cL_law 1068 = .ok (.iaload, 1) := by decide +kernel
theorem dL_law_1069 : decode cL_law 1069 = .ok (.ifCond .eq 7, 3) := by decide +kernel
theorem dL_law_1072 : decode cL_law 1072 = .ok (.iconst 1, 1) := by decide +kernel
theorem dL_law_1073 : decode cL_law 1073 = .ok (.goto 4, 3) := by decide +kernel
theorem dL_law_1076 : decode cL_law 1076 = .ok (.iconst 0, 1) := by decide +kernel
theorem dL_law_1077 : decode cL_law 1077 = .ok (.invokevirtual 140, 3) := by decide +kernel
theorem dL_law_1080 : decode cL_law 1080 = .ok (.aload_n 2, 1) := by decide +kernel
theorem dL_law_1081 : decode cL_law 1081 = .ok (.aload_n 0, 1) := by decide +kernel
theorem dL_law_1082 : decode cL_law 1082 = .ok (.iload_n 3, 1) := by decide +kernel
theorem dL_law_1083 : decode cL_law 1083 = .ok (.iconst 1, 1) := by decide +kernel
theorem dL_law_1084 : decode cL_law 1084 = .ok (.iadd, 1) := by decide +kernel
theorem dL_law_1085 : decode cL_law 1085 = .ok (.iaload, 1) := by decide +kernel
theorem dL_law_1086 : decode cL_law 1086 = .ok (.aload_n 0, 1) := by decide +kernel
theorem dL_law_1087 : decode cL_law 1087 = .ok (.iload_n 3, 1) := by decide +kernel
theorem dL_law_1088 : decode cL_law 1088 = .ok (.iconst 2, 1) := by decide +kernel
theorem dL_law_1089 : decode cL_law 1089 = .ok (.iadd, 1) := by decide +kernel
theorem dL_law_1090 : decode cL_law 1090 = .ok (.iaload, 1) := by decide +kernel
theorem dL_law_1091 : decode cL_law 1091 = .ok (.ifCond .eq 7, 3) := by decide +kernel
theorem dL_law_1094 : decode cL_law 1094 = .ok (.iconst 1, 1) := by decide +kernel
theorem dL_law_1095 : decode cL_law 1095 = .ok (.goto 4, 3) := by decide +kernel
theorem dL_law_1098 : decode cL_law 1098 = .ok (.iconst 0, 1) := by decide +kernel
theorem dL_law_1099 : decode cL_law 1099 = .ok (.invokevirtual 143, 3) := by decide +kernel
theorem dL_law_1102 : decode cL_law 1102 = .ok (.if_icmp .eq 464, 3) := by decide +kernel
theorem dL_law_1105 : decode cL_law 1105 = .ok (.iconst 0, 1) := by decide +kernel
theorem dL_law_1106 : decode cL_law 1106 = .ok (.ireturn, 1) := by decide +kernel
theorem dL_law_1107 : decode cL_law 1107 = .ok (.aload_n 1, 1) := by decide +kernel
theorem dL_law_1108 : decode cL_law 1108 = .ok (.invokevirtual 144, 3) := by decide +kernel
theorem dL_law_1111 : decode cL_law 1111 = .ok (.aload_n 2, 1) := by decide +kernel
theorem dL_law_1112 : decode cL_law 1112 = .ok (.invokevirtual 147, 3) := by decide +kernel
theorem dL_law_1115 : decode cL_law 1115 = .ok (.if_icmp .eq 451, 3) := by decide +kernel
theorem dL_law_1118 : decode cL_law 1118 = .ok (.iconst 0, 1) := by decide +kernel
theorem dL_law_1119 : decode cL_law 1119 = .ok (.ireturn, 1) := by decide +kernel
theorem dL_law_1120 : decode cL_law 1120 = .ok (.aload_n 1, 1) := by decide +kernel
theorem dL_law_1121 : decode cL_law 1121 = .ok (.aload_n 0, 1) := by decide +kernel
theorem dL_law_1122 : decode cL_law 1122 = .ok (.iload_n 3, 1) := by decide +kernel
theorem dL_law_1123 : decode cL_law 1123 = .ok (.iconst 1, 1) := by decide +kernel
theorem dL_law_1124 : decode cL_law 1124 = .ok (.iadd, 1) := by decide +kernel
theorem dL_law_1125 : decode cL_law 1125 = .ok (.iaload, 1) := by decide +kernel
theorem dL_law_1126 : decode cL_law 1126 = .ok (.aload_n 0, 1) := by decide +kernel
theorem dL_law_1127 : decode cL_law 1127 = .ok (.iload_n 3, 1) := by decide +kernel
theorem dL_law_1128 : decode cL_law 1128 = .ok (.iconst 2, 1) := by decide +kernel
theorem dL_law_1129 : decode cL_law 1129 = .ok (.iadd, 1) := by decide +kernel
theorem dL_law_1130 : decode cL_law 1130 = .ok (.iaload, 1) := by decide +kernel
theorem dL_law_1131 : decode cL_law 1131 = .ok (.aload_n 0, 1) := by decide +kernel
theorem dL_law_1132 : decode cL_law 1132 = .ok (.iload_n 3, 1) := by decide +kernel
theorem dL_law_1133 : decode cL_law 1133 = .ok (.iconst 3, 1) := by decide +kernel
theorem dL_law_1134 : decode cL_law 1134 = .ok (.iadd, 1) := by decide +kernel
theorem dL_law_1135 : decode cL_law 1135 = .ok (.iaload, 1) := by decide +kernel
theorem dL_law_1136 : decode cL_law 1136 = .ok (.invokevirtual 148, 3) := by decide +kernel
theorem dL_law_1139 : decode cL_law 1139 = .ok (.aload_n 2, 1) := by decide +kernel
theorem dL_law_1140 : decode cL_law 1140 = .ok (.aload_n 0, 1) := by decide +kernel
theorem dL_law_1141 : decode cL_law 1141 = .ok (.iload_n 3, 1) := by decide +kernel
theorem dL_law_1142 : decode cL_law 1142 = .ok (.iconst 1, 1) := by decide +kernel
theorem dL_law_1143 : decode cL_law 1143 = .ok (.iadd, 1) := by decide +kernel
theorem dL_law_1144 : decode cL_law 1144 = .ok (.iaload, 1) := by decide +kernel
theorem dL_law_1145 : decode cL_law 1145 = .ok (.aload_n 0, 1) := by decide +kernel
theorem dL_law_1146 : decode cL_law 1146 = .ok (.iload_n 3, 1) := by decide +kernel
theorem dL_law_1147 : decode cL_law 1147 = .ok (.iconst 2, 1) := by decide +kernel
theorem dL_law_1148 : decode cL_law 1148 = .ok (.iadd, 1) := by decide +kernel
theorem dL_law_1149 : decode cL_law 1149 = .ok (.iaload, 1) := by decide +kernel
theorem dL_law_1150 : decode cL_law 1150 = .ok (.aload_n 0, 1) := by decide +kernel
theorem dL_law_1151 : decode cL_law 1151 = .ok (.iload_n 3, 1) := by decide +kernel
theorem dL_law_1152 : decode cL_law 1152 = .ok (.iconst 3, 1) := by decide +kernel
theorem dL_law_1153 : decode cL_law 1153 = .ok (.iadd, 1) := by decide +kernel
theorem dL_law_1154 : decode cL_law 1154 = .ok (.iaload, 1) := by decide +kernel
theorem dL_law_1155 : decode cL_law 1155 = .ok (.invokevirtual 152, 3) := by decide +kernel
theorem dL_law_1158 : decode cL_law 1158 = .ok (.if_icmp .eq 408, 3) := by decide +kernel
theorem dL_law_1161 : decode cL_law 1161 = .ok (.iconst 0, 1) := by decide +kernel
theorem dL_law_1162 : decode cL_law 1162 = .ok (.ireturn, 1) := by decide +kernel
theorem dL_law_1163 : decode cL_law 1163 = .ok (.aload_n 1, 1) := by decide +kernel
theorem dL_law_1164 : decode cL_law 1164 = .ok (.invokevirtual 153, 3) := by decide +kernel
theorem dL_law_1167 : decode cL_law 1167 = .ok (.aload_n 2, 1) := by decide +kernel
theorem dL_law_1168 : decode cL_law 1168 = .ok (.invokevirtual 156, 3) := by decide +kernel
theorem dL_law_1171 : decode cL_law 1171 = .ok (.if_icmp .eq 395, 3) := by decide +kernel
theorem dL_law_1174 : decode cL_law 1174 = .ok (.iconst 0, 1) := by decide +kernel
theorem dL_law_1175 : decode cL_law 1175 = .ok (.ireturn, 1) := by decide +kernel
theorem dL_law_1176 : decode cL_law 1176 = .ok (.aload_n 1, 1) := by decide +kernel
theorem dL_law_1177 : decode cL_law 1177 = .ok (.aload_n 0, 1) := by decide +kernel
theorem dL_law_1178 : decode cL_law 1178 = .ok (.iload_n 3, 1) := by decide +kernel
theorem dL_law_1179 : decode cL_law 1179 = .ok (.iconst 1, 1) := by decide +kernel
theorem dL_law_1180 : decode cL_law 1180 = .ok (.iadd, 1) := by decide +kernel
theorem dL_law_1181 : decode cL_law 1181 = .ok (.iaload, 1) := by decide +kernel
theorem dL_law_1182 : decode cL_law 1182 = .ok (.invokevirtual 157, 3) := by decide +kernel
theorem dL_law_1185 : decode cL_law 1185 = .ok (.aload_n 2, 1) := by decide +kernel
theorem dL_law_1186 : decode cL_law 1186 = .ok (.aload_n 0, 1) := by decide +kernel
theorem dL_law_1187 : decode cL_law 1187 = .ok (.iload_n 3, 1) := by decide +kernel
theorem dL_law_1188 : decode cL_law 1188 = .ok (.iconst 1, 1) := by decide +kernel
theorem dL_law_1189 : decode cL_law 1189 = .ok (.iadd, 1) := by decide +kernel
theorem dL_law_1190 : decode cL_law 1190 = .ok (.iaload, 1) := by decide +kernel
theorem dL_law_1191 : decode cL_law 1191 = .ok (.invokevirtual 160, 3) := by decide +kernel
theorem dL_law_1194 : decode cL_law 1194 = .ok (.if_icmp .eq 372, 3) := by decide +kernel
theorem dL_law_1197 : decode cL_law 1197 = .ok (.iconst 0, 1) := by decide +kernel
theorem dL_law_1198 : decode cL_law 1198 = .ok (.ireturn, 1) := by decide +kernel
theorem dL_law_1199 : decode cL_law 1199 = .ok (.aload_n 1, 1) := by decide +kernel
theorem dL_law_1200 : decode cL_law 1200 = .ok (.aload_n 0, 1) := by decide +kernel
theorem dL_law_1201 : decode cL_law 1201 = .ok (.iload_n 3, 1) := by decide +kernel
theorem dL_law_1202 : decode cL_law 1202 = .ok (.iconst 1, 1) := by decide +kernel
theorem dL_law_1203 : decode cL_law 1203 = .ok (.iadd, 1) := by decide +kernel
theorem dL_law_1204 : decode cL_law 1204 = .ok (.iaload, 1) := by decide +kernel
theorem dL_law_1205 : decode cL_law 1205 = .ok (.aload_n 0, 1) := by decide +kernel
theorem dL_law_1206 : decode cL_law 1206 = .ok (.iload_n 3, 1) := by decide +kernel
theorem dL_law_1207 : decode cL_law 1207 = .ok (.iconst 2, 1) := by decide +kernel
theorem dL_law_1208 : decode cL_law 1208 = .ok (.iadd, 1) := by decide +kernel
theorem dL_law_1209 : decode cL_law 1209 = .ok (.iaload, 1) := by decide +kernel
theorem dL_law_1210 : decode cL_law 1210 = .ok (.invokevirtual 161, 3) := by decide +kernel
theorem dL_law_1213 : decode cL_law 1213 = .ok (.aload_n 2, 1) := by decide +kernel
theorem dL_law_1214 : decode cL_law 1214 = .ok (.aload_n 0, 1) := by decide +kernel
theorem dL_law_1215 : decode cL_law 1215 = .ok (.iload_n 3, 1) := by decide +kernel
theorem dL_law_1216 : decode cL_law 1216 = .ok (.iconst 1, 1) := by decide +kernel
theorem dL_law_1217 : decode cL_law 1217 = .ok (.iadd, 1) := by decide +kernel
theorem dL_law_1218 : decode cL_law 1218 = .ok (.iaload, 1) := by decide +kernel
theorem dL_law_1219 : decode cL_law 1219 = .ok (.aload_n 0, 1) := by decide +kernel
theorem dL_law_1220 : decode cL_law 1220 = .ok (.iload_n 3, 1) := by decide +kernel
theorem dL_law_1221 : decode cL_law 1221 = .ok (.iconst 2, 1) := by decide +kernel
theorem dL_law_1222 : decode cL_law 1222 = .ok (.iadd, 1) := by decide +kernel
theorem dL_law_1223 : decode cL_law 1223 = .ok (.iaload, 1) := by decide +kernel
theorem dL_law_1224 : decode cL_law 1224 = .ok (.invokevirtual 164, 3) := by decide +kernel
theorem dL_law_1227 : decode cL_law 1227 = .ok (.if_icmp .eq 339, 3) := by decide +kernel
theorem dL_law_1230 : decode cL_law 1230 = .ok (.iconst 0, 1) := by decide +kernel
theorem dL_law_1231 : decode cL_law 1231 = .ok (.ireturn, 1) := by decide +kernel
theorem dL_law_1232 : decode cL_law 1232 = .ok (.aload_n 1, 1) := by decide +kernel
theorem dL_law_1233 : decode cL_law 1233 = .ok (.aload_n 0, 1) := by decide +kernel
theorem dL_law_1234 : decode cL_law 1234 = .ok (.iload_n 3, 1) := by decide +kernel
theorem dL_law_1235 : decode cL_law 1235 = .ok (.iconst 1, 1) := by decide +kernel
theorem dL_law_1236 : decode cL_law 1236 = .ok (.iadd, 1) := by decide +kernel
theorem dL_law_1237 : decode cL_law 1237 = .ok (.iaload, 1) := by decide +kernel
theorem dL_law_1238 : decode cL_law 1238 = .ok (.invokevirtual 165, 3) := by decide +kernel
theorem dL_law_1241 : decode cL_law 1241 = .ok (.aload_n 2, 1) := by decide +kernel
theorem dL_law_1242 : decode cL_law 1242 = .ok (.aload_n 0, 1) := by decide +kernel
theorem dL_law_1243 : decode cL_law 1243 = .ok (.iload_n 3, 1) := by decide +kernel
theorem dL_law_1244 : decode cL_law 1244 = .ok (.iconst 1, 1) := by decide +kernel
theorem dL_law_1245 : decode cL_law 1245 = .ok (.iadd, 1) := by decide +kernel
theorem dL_law_1246 : decode cL_law 1246 = .ok (.iaload, 1) := by decide +kernel
theorem dL_law_1247 : decode cL_law 1247 = .ok (.invokevirtual 168, 3) := by decide +kernel
theorem dL_law_1250 : decode cL_law 1250 = .ok (.if_icmp .eq 316, 3) := by decide +kernel
theorem dL_law_1253 : decode cL_law 1253 = .ok (.iconst 0, 1) := by decide +kernel
theorem dL_law_1254 : decode cL_law 1254 = .ok (.ireturn, 1) := by decide +kernel
theorem dL_law_1255 : decode cL_law 1255 = .ok (.aload_n 1, 1) := by decide +kernel
theorem dL_law_1256 : decode cL_law 1256 = .ok (.aload_n 0, 1) := by decide +kernel
theorem dL_law_1257 : decode cL_law 1257 = .ok (.iload_n 3, 1) := by decide +kernel
theorem dL_law_1258 : decode cL_law 1258 = .ok (.iconst 1, 1) := by decide +kernel
theorem dL_law_1259 : decode cL_law 1259 = .ok (.iadd, 1) := by decide +kernel
theorem dL_law_1260 : decode cL_law 1260 = .ok (.iaload, 1) := by decide +kernel
theorem dL_law_1261 : decode cL_law 1261 = .ok (.aload_n 0, 1) := by decide +kernel
theorem dL_law_1262 : decode cL_law 1262 = .ok (.iload_n 3, 1) := by decide +kernel
theorem dL_law_1263 : decode cL_law 1263 = .ok (.iconst 2, 1) := by decide +kernel
theorem dL_law_1264 : decode cL_law 1264 = .ok (.iadd, 1) := by decide +kernel
theorem dL_law_1265 : decode cL_law 1265 = .ok (.iaload, 1) := by decide +kernel
theorem dL_law_1266 : decode cL_law 1266 = .ok (.ifCond .eq 7, 3) := by decide +kernel
theorem dL_law_1269 : decode cL_law 1269 = .ok (.iconst 1, 1) := by decide +kernel
theorem dL_law_1270 : decode cL_law 1270 = .ok (.goto 4, 3) := by decide +kernel
theorem dL_law_1273 : decode cL_law 1273 = .ok (.iconst 0, 1) := by decide +kernel
theorem dL_law_1274 : decode cL_law 1274 = .ok (.invokevirtual 169, 3) := by decide +kernel
theorem dL_law_1277 : decode cL_law 1277 = .ok (.aload_n 2, 1) := by decide +kernel
theorem dL_law_1278 : decode cL_law 1278 = .ok (.aload_n 0, 1) := by decide +kernel
theorem dL_law_1279 : decode cL_law 1279 = .ok (.iload_n 3, 1) := by decide +kernel
theorem dL_law_1280 : decode cL_law 1280 = .ok (.iconst 1, 1) := by decide +kernel
theorem dL_law_1281 : decode cL_law 1281 = .ok (.iadd, 1) := by decide +kernel
theorem dL_law_1282 : decode cL_law 1282 = .ok (.iaload, 1) := by decide +kernel
theorem dL_law_1283 : decode cL_law 1283 = .ok (.aload_n 0, 1) := by decide +kernel
theorem dL_law_1284 : decode cL_law 1284 = .ok (.iload_n 3, 1) := by decide +kernel
theorem dL_law_1285 : decode cL_law 1285 = .ok (.iconst 2, 1) := by decide +kernel
theorem dL_law_1286 : decode cL_law 1286 = .ok (.iadd, 1) := by decide +kernel
theorem dL_law_1287 : decode cL_law 1287 = .ok (.iaload, 1) := by decide +kernel
theorem dL_law_1288 : decode cL_law 1288 = .ok (.ifCond .eq 7, 3) := by decide +kernel
theorem dL_law_1291 : decode cL_law 1291 = .ok (.iconst 1, 1) := by decide +kernel
theorem dL_law_1292 : decode cL_law 1292 = .ok (.goto 4, 3) := by decide +kernel
theorem dL_law_1295 : decode cL_law 1295 = .ok (.iconst 0, 1) := by decide +kernel
theorem dL_law_1296 : decode cL_law 1296 = .ok (.invokevirtual 172, 3) := by decide +kernel
theorem dL_law_1299 : decode cL_law 1299 = .ok (.if_icmp .eq 267, 3) := by decide +kernel
theorem dL_law_1302 : decode cL_law 1302 = .ok (.iconst 0, 1) := by decide +kernel
theorem dL_law_1303 : decode cL_law 1303 = .ok (.ireturn, 1) := by decide +kernel
theorem dL_law_1304 : decode cL_law 1304 = .ok (.aload_n 1, 1) := by decide +kernel
theorem dL_law_1305 : decode cL_law 1305 = .ok (.invokevirtual 173, 3) := by decide +kernel
theorem dL_law_1308 : decode cL_law 1308 = .ok (.aload_n 2, 1) := by decide +kernel
theorem dL_law_1309 : decode cL_law 1309 = .ok (.invokevirtual 176, 3) := by decide +kernel
theorem dL_law_1312 : decode cL_law 1312 = .ok (.if_icmp .eq 254, 3) := by decide +kernel
theorem dL_law_1315 : decode cL_law 1315 = .ok (.iconst 0, 1) := by decide +kernel
theorem dL_law_1316 : decode cL_law 1316 = .ok (.ireturn, 1) := by decide +kernel
theorem dL_law_1317 : decode cL_law 1317 = .ok (.aload_n 1, 1) := by decide +kernel
theorem dL_law_1318 : decode cL_law 1318 = .ok (.invokevirtual 177, 3) := by decide +kernel
theorem dL_law_1321 : decode cL_law 1321 = .ok (.aload_n 2, 1) := by decide +kernel
theorem dL_law_1322 : decode cL_law 1322 = .ok (.invokevirtual 180, 3) := by decide +kernel
theorem dL_law_1325 : decode cL_law 1325 = .ok (.if_icmp .eq 241, 3) := by decide +kernel
theorem dL_law_1328 : decode cL_law 1328 = .ok (.iconst 0, 1) := by decide +kernel
theorem dL_law_1329 : decode cL_law 1329 = .ok (.ireturn, 1) := by decide +kernel
theorem dL_law_1330 : decode cL_law 1330 = .ok (.aload_n 1, 1) := by decide +kernel
theorem dL_law_1331 : decode cL_law 1331 = .ok (.aload_n 0, 1) := by decide +kernel
theorem dL_law_1332 : decode cL_law 1332 = .ok (.iload_n 3, 1) := by decide +kernel
theorem dL_law_1333 : decode cL_law 1333 = .ok (.iconst 1, 1) := by decide +kernel
theorem dL_law_1334 : decode cL_law 1334 = .ok (.iadd, 1) := by decide +kernel
theorem dL_law_1335 : decode cL_law 1335 = .ok (.iaload, 1) := by decide +kernel
theorem dL_law_1336 : decode cL_law 1336 = .ok (.invokevirtual 181, 3) := by decide +kernel
theorem dL_law_1339 : decode cL_law 1339 = .ok (.aload_n 2, 1) := by decide +kernel
theorem dL_law_1340 : decode cL_law 1340 = .ok (.aload_n 0, 1) := by decide +kernel
theorem dL_law_1341 : decode cL_law 1341 = .ok (.iload_n 3, 1) := by decide +kernel
theorem dL_law_1342 : decode cL_law 1342 = .ok (.iconst 1, 1) := by decide +kernel
theorem dL_law_1343 : decode cL_law 1343 = .ok (.iadd, 1) := by decide +kernel
theorem dL_law_1344 : decode cL_law 1344 = .ok (.iaload, 1) := by decide +kernel
theorem dL_law_1345 : decode cL_law 1345 = .ok (.invokevirtual 184, 3) := by decide +kernel
theorem dL_law_1348 : decode cL_law 1348 = .ok (.if_icmp .eq 218, 3) := by decide +kernel
theorem dL_law_1351 : decode cL_law 1351 = .ok (.iconst 0, 1) := by decide +kernel
theorem dL_law_1352 : decode cL_law 1352 = .ok (.ireturn, 1) := by decide +kernel
theorem dL_law_1353 : decode cL_law 1353 = .ok (.aload_n 1, 1) := by decide +kernel
theorem dL_law_1354 : decode cL_law 1354 = .ok (.aload_n 0, 1) := by decide +kernel
theorem dL_law_1355 : decode cL_law 1355 = .ok (.iload_n 3, 1) := by decide +kernel
theorem dL_law_1356 : decode cL_law 1356 = .ok (.iconst 1, 1) := by decide +kernel
theorem dL_law_1357 : decode cL_law 1357 = .ok (.iadd, 1) := by decide +kernel
theorem dL_law_1358 : decode cL_law 1358 = .ok (.iaload, 1) := by decide +kernel
theorem dL_law_1359 : decode cL_law 1359 = .ok (.invokevirtual 185, 3) := by decide +kernel
theorem dL_law_1362 : decode cL_law 1362 = .ok (.aload_n 2, 1) := by decide +kernel
theorem dL_law_1363 : decode cL_law 1363 = .ok (.aload_n 0, 1) := by decide +kernel
theorem dL_law_1364 : decode cL_law 1364 = .ok (.iload_n 3, 1) := by decide +kernel
theorem dL_law_1365 : decode cL_law 1365 = .ok (.iconst 1, 1) := by decide +kernel
theorem dL_law_1366 : decode cL_law 1366 = .ok (.iadd, 1) := by decide +kernel
theorem dL_law_1367 : decode cL_law 1367 = .ok (.iaload, 1) := by decide +kernel
theorem dL_law_1368 : decode cL_law 1368 = .ok (.invokevirtual 188, 3) := by decide +kernel
theorem dL_law_1371 : decode cL_law 1371 = .ok (.if_icmp .eq 195, 3) := by decide +kernel
theorem dL_law_1374 : decode cL_law 1374 = .ok (.iconst 0, 1) := by decide +kernel
theorem dL_law_1375 : decode cL_law 1375 = .ok (.ireturn, 1) := by decide +kernel
theorem dL_law_1376 : decode cL_law 1376 = .ok (.aload_n 1, 1) := by decide +kernel
theorem dL_law_1377 : decode cL_law 1377 = .ok (.aload_n 0, 1) := by decide +kernel
theorem dL_law_1378 : decode cL_law 1378 = .ok (.iload_n 3, 1) := by decide +kernel
theorem dL_law_1379 : decode cL_law 1379 = .ok (.iconst 1, 1) := by decide +kernel
theorem dL_law_1380 : decode cL_law 1380 = .ok (.iadd, 1) := by decide +kernel
theorem dL_law_1381 : decode cL_law 1381 = .ok (.iaload, 1) := by decide +kernel
theorem dL_law_1382 : decode cL_law 1382 = .ok (.invokevirtual 189, 3) := by decide +kernel
theorem dL_law_1385 : decode cL_law 1385 = .ok (.aload_n 2, 1) := by decide +kernel
theorem dL_law_1386 : decode cL_law 1386 = .ok (.aload_n 0, 1) := by decide +kernel
theorem dL_law_1387 : decode cL_law 1387 = .ok (.iload_n 3, 1) := by decide +kernel
theorem dL_law_1388 : decode cL_law 1388 = .ok (.iconst 1, 1) := by decide +kernel
theorem dL_law_1389 : decode cL_law 1389 = .ok (.iadd, 1) := by decide +kernel
theorem dL_law_1390 : decode cL_law 1390 = .ok (.iaload, 1) := by decide +kernel
theorem dL_law_1391 : decode cL_law 1391 = .ok (.invokevirtual 192, 3) := by decide +kernel
theorem dL_law_1394 : decode cL_law 1394 = .ok (.if_icmp .eq 172, 3) := by decide +kernel
theorem dL_law_1397 : decode cL_law 1397 = .ok (.iconst 0, 1) := by decide +kernel
theorem dL_law_1398 : decode cL_law 1398 = .ok (.ireturn, 1) := by decide +kernel
theorem dL_law_1399 : decode cL_law 1399 = .ok (.aload_n 1, 1) := by decide +kernel
theorem dL_law_1400 : decode cL_law 1400 = .ok (.aload_n 0, 1) := by decide +kernel
theorem dL_law_1401 : decode cL_law 1401 = .ok (.iload_n 3, 1) := by decide +kernel
theorem dL_law_1402 : decode cL_law 1402 = .ok (.iconst 1, 1) := by decide +kernel
theorem dL_law_1403 : decode cL_law 1403 = .ok (.iadd, 1) := by decide +kernel
theorem dL_law_1404 : decode cL_law 1404 = .ok (.iaload, 1) := by decide +kernel
theorem dL_law_1405 : decode cL_law 1405 = .ok (.invokevirtual 193, 3) := by decide +kernel
theorem dL_law_1408 : decode cL_law 1408 = .ok (.aload_n 2, 1) := by decide +kernel
theorem dL_law_1409 : decode cL_law 1409 = .ok (.aload_n 0, 1) := by decide +kernel
theorem dL_law_1410 : decode cL_law 1410 = .ok (.iload_n 3, 1) := by decide +kernel
theorem dL_law_1411 : decode cL_law 1411 = .ok (.iconst 1, 1) := by decide +kernel
theorem dL_law_1412 : decode cL_law 1412 = .ok (.iadd, 1) := by decide +kernel
theorem dL_law_1413 : decode cL_law 1413 = .ok (.iaload, 1) := by decide +kernel
theorem dL_law_1414 : decode cL_law 1414 = .ok (.invokevirtual 196, 3) := by decide +kernel
theorem dL_law_1417 : decode cL_law 1417 = .ok (.if_icmp .eq 149, 3) := by decide +kernel
theorem dL_law_1420 : decode cL_law 1420 = .ok (.iconst 0, 1) := by decide +kernel
theorem dL_law_1421 : decode cL_law 1421 = .ok (.ireturn, 1) := by decide +kernel
theorem dL_law_1422 : decode cL_law 1422 = .ok (.aload_n 1, 1) := by decide +kernel
theorem dL_law_1423 : decode cL_law 1423 = .ok (.invokevirtual 197, 3) := by decide +kernel
theorem dL_law_1426 : decode cL_law 1426 = .ok (.aload_n 2, 1) := by decide +kernel
theorem dL_law_1427 : decode cL_law 1427 = .ok (.invokevirtual 200, 3) := by decide +kernel
theorem dL_law_1430 : decode cL_law 1430 = .ok (.if_icmp .eq 136, 3) := by decide +kernel
theorem dL_law_1433 : decode cL_law 1433 = .ok (.iconst 0, 1) := by decide +kernel
theorem dL_law_1434 : decode cL_law 1434 = .ok (.ireturn, 1) := by decide +kernel
theorem dL_law_1435 : decode cL_law 1435 = .ok (.aload_n 1, 1) := by decide +kernel
theorem dL_law_1436 : decode cL_law 1436 = .ok (.invokevirtual 201, 3) := by decide +kernel
theorem dL_law_1439 : decode cL_law 1439 = .ok (.aload_n 2, 1) := by decide +kernel
theorem dL_law_1440 : decode cL_law 1440 = .ok (.invokevirtual 204, 3) := by decide +kernel
theorem dL_law_1443 : decode cL_law 1443 = .ok (.if_icmp .eq 123, 3) := by decide +kernel
theorem dL_law_1446 : decode cL_law 1446 = .ok (.iconst 0, 1) := by decide +kernel
theorem dL_law_1447 : decode cL_law 1447 = .ok (.ireturn, 1) := by decide +kernel
theorem dL_law_1448 : decode cL_law 1448 = .ok (.aload_n 1, 1) := by decide +kernel
theorem dL_law_1449 : decode cL_law 1449 = .ok (.invokevirtual 205, 3) := by decide +kernel
theorem dL_law_1452 : decode cL_law 1452 = .ok (.aload_n 2, 1) := by decide +kernel
theorem dL_law_1453 : decode cL_law 1453 = .ok (.invokevirtual 208, 3) := by decide +kernel
theorem dL_law_1456 : decode cL_law 1456 = .ok (.if_icmp .eq 110, 3) := by decide +kernel
theorem dL_law_1459 : decode cL_law 1459 = .ok (.iconst 0, 1) := by decide +kernel
theorem dL_law_1460 : decode cL_law 1460 = .ok (.ireturn, 1) := by decide +kernel
theorem dL_law_1461 : decode cL_law 1461 = .ok (.aload_n 1, 1) := by decide +kernel
theorem dL_law_1462 : decode cL_law 1462 = .ok (.aload_n 0, 1) := by decide +kernel
theorem dL_law_1463 : decode cL_law 1463 = .ok (.iload_n 3, 1) := by decide +kernel
theorem dL_law_1464 : decode cL_law 1464 = .ok (.iconst 1, 1) := by decide +kernel
theorem dL_law_1465 : decode cL_law 1465 = .ok (.iadd, 1) := by decide +kernel
theorem dL_law_1466 : decode cL_law 1466 = .ok (.iaload, 1) := by decide +kernel
theorem dL_law_1467 : decode cL_law 1467 = .ok (.invokevirtual 209, 3) := by decide +kernel
theorem dL_law_1470 : decode cL_law 1470 = .ok (.aload_n 2, 1) := by decide +kernel
theorem dL_law_1471 : decode cL_law 1471 = .ok (.aload_n 0, 1) := by decide +kernel
theorem dL_law_1472 : decode cL_law 1472 = .ok (.iload_n 3, 1) := by decide +kernel
theorem dL_law_1473 : decode cL_law 1473 = .ok (.iconst 1, 1) := by decide +kernel
theorem dL_law_1474 : decode cL_law 1474 = .ok (.iadd, 1) := by decide +kernel
theorem dL_law_1475 : decode cL_law 1475 = .ok (.iaload, 1) := by decide +kernel
theorem dL_law_1476 : decode cL_law 1476 = .ok (.invokevirtual 212, 3) := by decide +kernel
theorem dL_law_1479 : decode cL_law 1479 = .ok (.if_icmp .eq 87, 3) := by decide +kernel
theorem dL_law_1482 : decode cL_law 1482 = .ok (.iconst 0, 1) := by decide +kernel
theorem dL_law_1483 : decode cL_law 1483 = .ok (.ireturn, 1) := by decide +kernel
theorem dL_law_1484 : decode cL_law 1484 = .ok (.aload_n 1, 1) := by decide +kernel
theorem dL_law_1485 : decode cL_law 1485 = .ok (.aload_n 0, 1) := by decide +kernel
theorem dL_law_1486 : decode cL_law 1486 = .ok (.iload_n 3, 1) := by decide +kernel
theorem dL_law_1487 : decode cL_law 1487 = .ok (.iconst 1, 1) := by decide +kernel
theorem dL_law_1488 : decode cL_law 1488 = .ok (.iadd, 1) := by decide +kernel
theorem dL_law_1489 : decode cL_law 1489 = .ok (.iaload, 1) := by decide +kernel
theorem dL_law_1490 : decode cL_law 1490 = .ok (.invokevirtual 213, 3) := by decide +kernel
theorem dL_law_1493 : decode cL_law 1493 = .ok (.aload_n 2, 1) := by decide +kernel
theorem dL_law_1494 : decode cL_law 1494 = .ok (.aload_n 0, 1) := by decide +kernel
theorem dL_law_1495 : decode cL_law 1495 = .ok (.iload_n 3, 1) := by decide +kernel
theorem dL_law_1496 : decode cL_law 1496 = .ok (.iconst 1, 1) := by decide +kernel
theorem dL_law_1497 : decode cL_law 1497 = .ok (.iadd, 1) := by decide +kernel
theorem dL_law_1498 : decode cL_law 1498 = .ok (.iaload, 1) := by decide +kernel
theorem dL_law_1499 : decode cL_law 1499 = .ok (.invokevirtual 216, 3) := by decide +kernel
theorem dL_law_1502 : decode cL_law 1502 = .ok (.if_icmp .eq 64, 3) := by decide +kernel
theorem dL_law_1505 : decode cL_law 1505 = .ok (.iconst 0, 1) := by decide +kernel
theorem dL_law_1506 : decode cL_law 1506 = .ok (.ireturn, 1) := by decide +kernel
theorem dL_law_1507 : decode cL_law 1507 = .ok (.aload_n 1, 1) := by decide +kernel
theorem dL_law_1508 : decode cL_law 1508 = .ok (.invokevirtual 217, 3) := by decide +kernel
theorem dL_law_1511 : decode cL_law 1511 = .ok (.aload_n 2, 1) := by decide +kernel
theorem dL_law_1512 : decode cL_law 1512 = .ok (.invokevirtual 220, 3) := by decide +kernel
theorem dL_law_1515 : decode cL_law 1515 = .ok (.if_icmp .eq 51, 3) := by decide +kernel
theorem dL_law_1518 : decode cL_law 1518 = .ok (.iconst 0, 1) := by decide +kernel
theorem dL_law_1519 : decode cL_law 1519 = .ok (.ireturn, 1) := by decide +kernel
theorem dL_law_1520 : decode cL_law 1520 = .ok (.aload_n 1, 1) := by decide +kernel
theorem dL_law_1521 : decode cL_law 1521 = .ok (.aload_n 0, 1) := by decide +kernel
theorem dL_law_1522 : decode cL_law 1522 = .ok (.iload_n 3, 1) := by decide +kernel
theorem dL_law_1523 : decode cL_law 1523 = .ok (.iconst 1, 1) := by decide +kernel
theorem dL_law_1524 : decode cL_law 1524 = .ok (.iadd, 1) := by decide +kernel
theorem dL_law_1525 : decode cL_law 1525 = .ok (.iaload, 1) := by decide +kernel
theorem dL_law_1526 : decode cL_law 1526 = .ok (.invokevirtual 221, 3) := by decide +kernel
theorem dL_law_1529 : decode cL_law 1529 = .ok (.aload_n 2, 1) := by decide +kernel
theorem dL_law_1530 : decode cL_law 1530 = .ok (.aload_n 0, 1) := by decide +kernel
theorem dL_law_1531 : decode cL_law 1531 = .ok (.iload_n 3, 1) := by decide +kernel
theorem dL_law_1532 : decode cL_law 1532 = .ok (.iconst 1, 1) := by decide +kernel
theorem dL_law_1533 : decode cL_law 1533 = .ok (.iadd, 1) := by decide +kernel
theorem dL_law_1534 : decode cL_law 1534 = .ok (.iaload, 1) := by decide +kernel
theorem dL_law_1535 : decode cL_law 1535 = .ok (.invokevirtual 224, 3) := by decide +kernel
theorem dL_law_1538 : decode cL_law 1538 = .ok (.if_icmp .eq 28, 3) := by decide +kernel
theorem dL_law_1541 : decode cL_law 1541 = .ok (.iconst 0, 1) := by decide +kernel
theorem dL_law_1542 : decode cL_law 1542 = .ok (.ireturn, 1) := by decide +kernel
theorem dL_law_1543 : decode cL_law 1543 = .ok (.aload_n 1, 1) := by decide +kernel
theorem dL_law_1544 : decode cL_law 1544 = .ok (.aload_n 0, 1) := by decide +kernel
theorem dL_law_1545 : decode cL_law 1545 = .ok (.iload_n 3, 1) := by decide +kernel
theorem dL_law_1546 : decode cL_law 1546 = .ok (.iconst 1, 1) := by decide +kernel
theorem dL_law_1547 : decode cL_law 1547 = .ok (.iadd, 1) := by decide +kernel
theorem dL_law_1548 : decode cL_law 1548 = .ok (.iaload, 1) := by decide +kernel
theorem dL_law_1549 : decode cL_law 1549 = .ok (.invokevirtual 225, 3) := by decide +kernel
theorem dL_law_1552 : decode cL_law 1552 = .ok (.aload_n 2, 1) := by decide +kernel
theorem dL_law_1553 : decode cL_law 1553 = .ok (.aload_n 0, 1) := by decide +kernel
theorem dL_law_1554 : decode cL_law 1554 = .ok (.iload_n 3, 1) := by decide +kernel
theorem dL_law_1555 : decode cL_law 1555 = .ok (.iconst 1, 1) := by decide +kernel
theorem dL_law_1556 : decode cL_law 1556 = .ok (.iadd, 1) := by decide +kernel
theorem dL_law_1557 : decode cL_law 1557 = .ok (.iaload, 1) := by decide +kernel
theorem dL_law_1558 : decode cL_law 1558 = .ok (.invokevirtual 228, 3) := by decide +kernel
theorem dL_law_1561 : decode cL_law 1561 = .ok (.if_icmp .eq 5, 3) := by decide +kernel
theorem dL_law_1564 : decode cL_law 1564 = .ok (.iconst 0, 1) := by decide +kernel
theorem dL_law_1565 : decode cL_law 1565 = .ok (.ireturn, 1) := by decide +kernel
theorem dL_law_1566 : decode cL_law 1566 = .ok (.iinc 3 6, 3) := by decide +kernel
theorem dL_law_1569 : decode cL_law 1569 = .ok (.goto (-1551), 3) := by decide +kernel
theorem dL_law_1572 : decode cL_law 1572 = .ok (.iconst 1, 1) := by decide +kernel
theorem dL_law_1573 : decode cL_law 1573 = .ok (.ireturn, 1) := by decide +kernel
