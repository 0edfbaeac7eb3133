theorem dX0_init_0 : decode cX0_init 0 = .ok (.aload_n 0, 1) := by decide +kernel
theorem dX0_init_1 : decode cX0_init 1 = .ok (.invokespecial 3, 3) := by decide +kernel
theorem dX0_init_4 : decode cX0_init 4 = .ok (.aload_n 0, 1) := by decide +kernel
theorem dX0_init_5 : decode cX0_init 5 = .ok (.sipush 128, 3) := by decide +kernel
theorem dX0_init_8 : decode cX0_init 8 = .ok (.newarray .int, 2) := by decide +kernel
theorem dX0_init_10 : decode cX0_init 10 = .ok (.putfield 9, 3) := by decide +kernel
theorem dX0_init_13 : decode cX0_init 13 = .ok (.aload_n 0, 1) := by decide +kernel
theorem dX0_init_14 : decode cX0_init 14 = .ok (.new 15, 3) := by decide +kernel
theorem dX0_init_17 : decode cX0_init 17 = .ok (.dup, 1) := by decide +kernel
theorem dX0_init_18 : decode cX0_init 18 = .ok (.sipush 128, 3) := by decide +kernel
theorem dX0_init_21 : decode cX0_init 21 = .ok (.invokespecial 17, 3) := by decide +kernel
theorem dX0_init_24 : decode cX0_init 24 = .ok (.putfield 20, 3) := by decide +kernel
theorem dX0_init_27 : decode cX0_init 27 = .ok (.aload_n 0, 1) := by decide +kernel
theorem dX0_init_28 : decode cX0_init 28 = .ok (.new 15, 3) := by decide +kernel
theorem dX0_init_31 : decode cX0_init 31 = .ok (.dup, 1) := by decide +kernel
theorem dX0_init_32 : decode cX0_init 32 = .ok (.sipush 128, 3) := by decide +kernel
theorem dX0_init_35 : decode cX0_init 35 = .ok (.invokespecial 17, 3) := by decide +kernel
theorem dX0_init_38 : decode cX0_init 38 = .ok (.putfield 24, 3) := by decide +kernel
theorem dX0_init_41 : decode cX0_init 41 = .ok (.aload_n 0, 1) := by decide +kernel
theorem dX0_init_42 : decode cX0_init 42 = .ok (.sipush 128, 3) := by decide +kernel
theorem dX0_init_45 : decode cX0_init 45 = .ok (.newarray .int, 2) := by decide +kernel
theorem dX0_init_47 : decode cX0_init 47 = .ok (.putfield 27, 3) := by decide +kernel
theorem dX0_init_50 : decode cX0_init 50 = .ok (.aload_n 0, 1) := by decide +kernel
theorem dX0_init_51 : decode cX0_init 51 = .ok (.sipush 128, 3) := by decide +kernel
theorem dX0_init_54 : decode cX0_init 54 = .ok (.newarray .int, 2) := by decide +kernel
theorem dX0_init_56 : decode cX0_init 56 = .ok (.putfield 30, 3) := by decide +kernel
theorem dX0_init_59 : decode cX0_init 59 = .ok (.aload_n 0, 1) := by decide +kernel
theorem dX0_init_60 : decode cX0_init 60 = .ok (.sipush 128, 3) := by decide +kernel
theorem dX0_init_63 : decode cX0_init 63 = .ok (.newarray .int, 2) := by decide +kernel
theorem dX0_init_65 : decode cX0_init 65 = .ok (.putfield 33, 3) := by decide +kernel
theorem dX0_init_68 : decode cX0_init 68 = .ok (.aload_n 0, 1) := by decide +kernel
theorem dX0_init_69 : decode cX0_init 69 = .ok (.bipush 7, 2) := by decide +kernel
theorem dX0_init_71 : decode cX0_init 71 = .ok (.newarray .int, 2) := by decide +kernel
theorem dX0_init_73 : decode cX0_init 73 = .ok (.putfield 36, 3) := by decide +kernel
theorem dX0_init_76 : decode cX0_init 76 = .ok (.aload_n 0, 1) := by decide +kernel
theorem dX0_init_77 : decode cX0_init 77 = .ok (.iconst 4, 1) := by decide +kernel
theorem dX0_init_78 : decode cX0_init 78 = .ok (.putfield 39, 3) := by decide +kernel
theorem dX0_init_81 : decode cX0_init 81 = .ok (.iconst 0, 1) := by decide +kernel
theorem dX0_init_82 : decode cX0_init 82 = .ok (.istore_n 1, 1) := by decide +kernel
theorem dX0_init_83 : decode cX0_init 83 = .ok (.iconst 0, 1) := by decide +kernel
theorem dX0_init_84 : decode cX0_init 84 = .ok (.istore_n 2, 1) := by decide +kernel
theorem dX0_init_85 : decode cX0_init 85 = .ok (.iload_n 2, 1) := by decide +kernel
theorem dX0_init_86 : decode cX0_init 86 = .ok (.bipush 7, 2) := by decide +kernel
theorem dX0_init_88 : decode cX0_init 88 = .ok (.if_icmp .gt 51, 3) := by decide +kernel
theorem dX0_init_91 : decode cX0_init 91 = .ok (.iconst 0, 1) := by decide +kernel
theorem dX0_init_92 : decode cX0_init 92 = .ok (.istore_n 3, 1) := by decide +kernel
theorem dX0_init_93 : decode cX0_init 93 = .ok (.iload_n 3, 1) := by decide +kernel
theorem dX0_init_94 : decode cX0_init 94 = .ok (.sipush 128, 3) := by decide +kernel
theorem dX0_init_97 : decode cX0_init 97 = .ok (.if_icmp .ge 36, 3) := by decide +kernel
theorem dX0_init_100 : decode cX0_init 100 = .ok (.iload_n 3, 1) := by decide +kernel
theorem dX0_init_101 : decode cX0_init 101 = .ok (.invokestatic 43, 3) := by decide +kernel
theorem dX0_init_104 : decode cX0_init 104 = .ok (.iload_n 2, 1) := by decide +kernel
theorem dX0_init_105 : decode cX0_init 105 = .ok (.if_icmp .ne 22, 3) := by decide +kernel
theorem dX0_init_108 : decode cX0_init 108 = .ok (.iload_n 1, 1) := by decide +kernel
theorem dX0_init_109 : decode cX0_init 109 = .ok (.aload_n 0, 1) := by decide +kernel
theorem dX0_init_110 : decode cX0_init 110 = .ok (.getfield 9, 3) := by decide +kernel
theorem dX0_init_113 : decode cX0_init 113 = .ok (.arraylength, 1) := by decide +kernel
theorem dX0_init_114 : decode cX0_init 114 = .ok (.if_icmp .ge 13, 3) := by decide +kernel
theorem dX0_init_117 : decode cX0_init 117 = .ok (.aload_n 0, 1) := by decide +kernel
theorem dX0_init_118 : decode cX0_init 118 = .ok (.getfield 9, 3) := by decide +kernel
theorem dX0_init_121 : decode cX0_init 121 = .ok (.iload_n 1, 1) := by decide +kernel
theorem dX0_init_122 : decode cX0_init 122 = .ok (.iload_n 3, 1) := by decide +kernel
theorem dX0_init_123 : decode cX0_init 123 = .ok (.iastore, 1) := by decide +kernel
theorem dX0_init_124 : decode cX0_init 124 = .ok (.iinc 1 1, 3) := by decide +kernel
theorem dX0_init_127 : decode cX0_init 127 = .ok (.iinc 3 1, 3) := by decide +kernel
theorem dX0_init_130 : decode cX0_init 130 = .ok (.goto (-37), 3) := by decide +kernel
theorem dX0_init_133 : decode cX0_init 133 = .ok (.iinc 2 1, 3) := by decide +kernel
theorem dX0_init_136 : decode cX0_init 136 = .ok (.goto (-51), 3) := by decide +kernel
theorem dX0_init_139 : decode cX0_init 139 = .ok (.return_, 1) := by decide +kernel
theorem dX0_rebuild_0 : decode cX0_rebuild 0 = .ok (.aload_n 0, 1) := by decide +kernel
theorem dX0_rebuild_1 : decode cX0_rebuild 1 = .ok (.iload_n 1, 1) := by decide +kernel
theorem dX0_rebuild_2 : decode cX0_rebuild 2 = .ok (.putfield 39, 3) := by decide +kernel
theorem dX0_rebuild_5 : decode cX0_rebuild 5 = .ok (.aload_n 0, 1) := by decide +kernel
theorem dX0_rebuild_6 : decode cX0_rebuild 6 = .ok (.aload_n 2, 1) := by decide +kernel
theorem dX0_rebuild_7 : decode cX0_rebuild 7 = .ok (.invokevirtual 49, 3) := by decide +kernel
theorem dX0_rebuild_10 : decode cX0_rebuild 10 = .ok (.aload_n 0, 1) := by decide +kernel
theorem dX0_rebuild_11 : decode cX0_rebuild 11 = .ok (.invokevirtual 53, 3) := by decide +kernel
theorem dX0_rebuild_14 : decode cX0_rebuild 14 = .ok (.aload_n 0, 1) := by decide +kernel
theorem dX0_rebuild_15 : decode cX0_rebuild 15 = .ok (.invokevirtual 56, 3) := by decide +kernel
theorem dX0_rebuild_18 : decode cX0_rebuild 18 = .ok (.aload_n 0, 1) := by decide +kernel
theorem dX0_rebuild_19 : decode cX0_rebuild 19 = .ok (.invokevirtual 59, 3) := by decide +kernel
theorem dX0_rebuild_22 : decode cX0_rebuild 22 = .ok (.aload_n 0, 1) := by decide +kernel
theorem dX0_rebuild_23 : decode cX0_rebuild 23 = .ok (.invokevirtual 62, 3) := by decide +kernel
theorem dX0_rebuild_26 : decode cX0_rebuild 26 = .ok (.return_, 1) := by decide +kernel
theorem dX0_unite_0 : decode cX0_unite 0 = .ok (.aload_n 0, 1) := by decide +kernel
theorem dX0_unite_1 : decode cX0_unite 1 = .ok (.getfield 30, 3) := by decide +kernel
theorem dX0_unite_4 : decode cX0_unite 4 = .ok (.bipush (-2), 2) := by decide +kernel
theorem dX0_unite_6 : decode cX0_unite 6 = .ok (.invokestatic 65, 3) := by decide +kernel
theorem dX0_unite_9 : decode cX0_unite 9 = .ok (.aload_n 0, 1) := by decide +kernel
theorem dX0_unite_10 : decode cX0_unite 10 = .ok (.getfield 30, 3) := by decide +kernel
theorem dX0_unite_13 : decode cX0_unite 13 = .ok (.iconst 0, 1) := by decide +kernel
theorem dX0_unite_14 : decode cX0_unite 14 = .ok (.iconst 0, 1) := by decide +kernel
theorem dX0_unite_15 : decode cX0_unite 15 = .ok (.iastore, 1) := by decide +kernel
theorem dX0_unite_16 : decode cX0_unite 16 = .ok (.iconst 0, 1) := by decide +kernel
theorem dX0_unite_17 : decode cX0_unite 17 = .ok (.istore_n 2, 1) := by decide +kernel
theorem dX0_unite_18 : decode cX0_unite 18 = .ok (.iload_n 2, 1) := by decide +kernel
theorem dX0_unite_19 : decode cX0_unite 19 = .ok (.aload_n 1, 1) := by decide +kernel
theorem dX0_unite_20 : decode cX0_unite 20 = .ok (.getfield 71, 3) := by decide +kernel
theorem dX0_unite_23 : decode cX0_unite 23 = .ok (.if_icmp .ge 102, 3) := by decide +kernel
theorem dX0_unite_26 : decode cX0_unite 26 = .ok (.iconst 0, 1) := by decide +kernel
theorem dX0_unite_27 : decode cX0_unite 27 = .ok (.istore_n 3, 1) := by decide +kernel
theorem dX0_unite_28 : decode cX0_unite 28 = .ok (.iload_n 3, 1) := by decide +kernel
theorem dX0_unite_29 : decode cX0_unite 29 = .ok (.aload_n 0, 1) := by decide +kernel
theorem dX0_unite_30 : decode cX0_unite 30 = .ok (.getfield 30, 3) := by decide +kernel
theorem dX0_unite_33 : decode cX0_unite 33 = .ok (.arraylength, 1) := by decide +kernel
theorem dX0_unite_34 : decode cX0_unite 34 = .ok (.if_icmp .ge 85, 3) := by decide +kernel
theorem dX0_unite_37 : decode cX0_unite 37 = .ok (.iload_n 3, 1) := by decide +kernel
theorem dX0_unite_38 : decode cX0_unite 38 = .ok (.aload_n 1, 1) := by decide +kernel
theorem dX0_unite_39 : decode cX0_unite 39 = .ok (.iload_n 2, 1) := by decide +kernel
theorem dX0_unite_40 : decode cX0_unite 40 = .ok (.invokevirtual 74, 3) := by decide +kernel
theorem dX0_unite_43 : decode cX0_unite 43 = .ok (.ior, 1) := by decide +kernel
theorem dX0_unite_44 : decode cX0_unite 44 = .ok (.istore 4, 2) := by decide +kernel
theorem dX0_unite_46 : decode cX0_unite 46 = .ok (.aload_n 0, 1) := by decide +kernel
theorem dX0_unite_47 : decode cX0_unite 47 = .ok (.getfield 30, 3) := by decide +kernel
theorem dX0_unite_50 : decode cX0_unite 50 = .ok (.iload_n 3, 1) := by decide +kernel
theorem dX0_unite_51 : decode cX0_unite 51 = .ok (.iaload, 1) := by decide +kernel
theorem dX0_unite_52 : decode cX0_unite 52 = .ok (.ifCond .lt 61, 3) := by decide +kernel
theorem dX0_unite_55 : decode cX0_unite 55 = .ok (.iload 4, 2) := by decide +kernel
theorem dX0_unite_57 : decode cX0_unite 57 = .ok (.ifCond .lt 56, 3) := by decide +kernel
theorem dX0_unite_60 : decode cX0_unite 60 = .ok (.iload 4, 2) := by decide +kernel
theorem dX0_unite_62 : decode cX0_unite 62 = .ok (.aload_n 0, 1) := by decide +kernel
theorem dX0_unite_63 : decode cX0_unite 63 = .ok (.getfield 30, 3) := by decide +kernel
theorem dX0_unite_66 : decode cX0_unite 66 = .ok (.arraylength, 1) := by decide +kernel
theorem dX0_unite_67 : decode cX0_unite 67 = .ok (.if_icmp .ge 46, 3) := by decide +kernel
theorem dX0_unite_70 : decode cX0_unite 70 = .ok (.aload_n 0, 1) := by decide +kernel
theorem dX0_unite_71 : decode cX0_unite 71 = .ok (.getfield 30, 3) := by decide +kernel
theorem dX0_unite_74 : decode cX0_unite 74 = .ok (.iload 4, 2) := by decide +kernel
theorem dX0_unite_76 : decode cX0_unite 76 = .ok (.iaload, 1) := by decide +kernel
theorem dX0_unite_77 : decode cX0_unite 77 = .ok (.ifCond .lt 21, 3) := by decide +kernel
theorem dX0_unite_80 : decode cX0_unite 80 = .ok (.aload_n 0, 1) := by decide +kernel
theorem dX0_unite_81 : decode cX0_unite 81 = .ok (.getfield 30, 3) := by decide +kernel
theorem dX0_unite_84 : decode cX0_unite 84 = .ok (.iload 4, 2) := by decide +kernel
theorem dX0_unite_86 : decode cX0_unite 86 = .ok (.iaload, 1) := by decide +kernel
theorem dX0_unite_87 : decode cX0_unite 87 = .ok (.aload_n 0, 1) := by decide +kernel
theorem dX0_unite_88 : decode cX0_unite 88 = .ok (.getfield 30, 3) := by decide +kernel
theorem dX0_unite_91 : decode cX0_unite 91 = .ok (.iload_n 3, 1) := by decide +kernel
theorem dX0_unite_92 : decode cX0_unite 92 = .ok (.iaload, 1) := by decide +kernel
theorem dX0_unite_93 : decode cX0_unite 93 = .ok (.iconst 1, 1) := by decide +kernel
theorem dX0_unite_94 : decode cX0_unite 94 = .ok (.iadd, 1) := by decide +kernel
theorem dX0_unite_95 : decode cX0_unite 95 = .ok (.if_icmp .le 18, 3) := by decide +kernel
theorem dX0_unite_98 : decode cX0_unite 98 = .ok (.aload_n 0, 1) := by decide +kernel
theorem dX0_unite_99 : decode cX0_unite 99 = .ok (.getfield 30, 3) := by decide +kernel
theorem dX0_unite_102 : decode cX0_unite 102 = .ok (.iload 4, 2) := by decide +kernel
theorem dX0_unite_104 : decode cX0_unite 104 = .ok (.aload_n 0, 1) := by decide +kernel
theorem dX0_unite_105 : decode cX0_unite 105 = .ok (.getfield 30, 3) := by decide +kernel
theorem dX0_unite_108 : decode cX0_unite 108 = .ok (.iload_n 3, 1) := by decide +kernel
theorem dX0_unite_109 : decode cX0_unite 109 = .ok (.iaload, 1) := by decide +kernel
theorem dX0_unite_110 : decode cX0_unite 110 = .ok (.iconst 1, 1) := by decide +kernel
theorem dX0_unite_111 : decode cX0_unite 111 = .ok (.iadd, 1) := by decide +kernel
theorem dX0_unite_112 : decode cX0_unite 112 = .ok (.iastore, 1) := by decide +kernel
theorem dX0_unite_113 : decode cX0_unite 113 = .ok (.iinc 3 1, 3) := by decide +kernel
theorem dX0_unite_116 : decode cX0_unite 116 = .ok (.goto (-88), 3) := by decide +kernel
theorem dX0_unite_119 : decode cX0_unite 119 = .ok (.iinc 2 1, 3) := by decide +kernel
theorem dX0_unite_122 : decode cX0_unite 122 = .ok (.goto (-104), 3) := by decide +kernel
theorem dX0_unite_125 : decode cX0_unite 125 = .ok (.return_, 1) := by decide +kernel
theorem dX0_numberMembers_0 : decode cX0_numberMembers 0 = .ok (.aload_n 0, 1) := by decide +kernel
theorem dX0_numberMembers_1 : decode cX0_numberMembers 1 = .ok (.getfield 20, 3) := by decide +kernel
theorem dX0_numberMembers_4 : decode cX0_numberMembers 4 = .ok (.invokevirtual 77, 3) := by decide +kernel
theorem dX0_numberMembers_7 : decode cX0_numberMembers 7 = .ok (.aload_n 0, 1) := by decide +kernel
theorem dX0_numberMembers_8 : decode cX0_numberMembers 8 = .ok (.getfield 27, 3) := by decide +kernel
theorem dX0_numberMembers_11 : decode cX0_numberMembers 11 = .ok (.bipush (-2), 2) := by decide +kernel
theorem dX0_numberMembers_13 : decode cX0_numberMembers 13 = .ok (.invokestatic 65, 3) := by decide +kernel
theorem dX0_numberMembers_16 : decode cX0_numberMembers 16 = .ok (.iconst 0, 1) := by decide +kernel
theorem dX0_numberMembers_17 : decode cX0_numberMembers 17 = .ok (.istore_n 1, 1) := by decide +kernel
theorem dX0_numberMembers_18 : decode cX0_numberMembers 18 = .ok (.iload_n 1, 1) := by decide +kernel
theorem dX0_numberMembers_19 : decode cX0_numberMembers 19 = .ok (.aload_n 0, 1) := by decide +kernel
theorem dX0_numberMembers_20 : decode cX0_numberMembers 20 = .ok (.getfield 9, 3) := by decide +kernel
theorem dX0_numberMembers_23 : decode cX0_numberMembers 23 = .ok (.arraylength, 1) := by decide +kernel
theorem dX0_numberMembers_24 : decode cX0_numberMembers 24 = .ok (.if_icmp .ge 58, 3) := by decide +kernel
theorem dX0_numberMembers_27 : decode cX0_numberMembers 27 = .ok (.aload_n 0, 1) := by decide +kernel
theorem dX0_numberMembers_28 : decode cX0_numberMembers 28 = .ok (.getfield 9, 3) := by decide +kernel
theorem dX0_numberMembers_31 : decode cX0_numberMembers 31 = .ok (.iload_n 1, 1) := by decide +kernel
theorem dX0_numberMembers_32 : decode cX0_numberMembers 32 = .ok (.iaload, 1) := by decide +kernel
theorem dX0_numberMembers_33 : decode cX0_numberMembers 33 = .ok (.istore_n 2, 1) := by decide +kernel
theorem dX0_numberMembers_34 : decode cX0_numberMembers 34 = .ok (.aload_n 0, 1) := by decide +kernel
theorem dX0_numberMembers_35 : decode cX0_numberMembers 35 = .ok (.iload_n 2, 1) := by decide +kernel
theorem dX0_numberMembers_36 : decode cX0_numberMembers 36 = .ok (.invokevirtual 80, 3) := by decide +kernel
theorem dX0_numberMembers_39 : decode cX0_numberMembers 39 = .ok (.ifCond .lt 37, 3) := by decide +kernel
theorem dX0_numberMembers_42 : decode cX0_numberMembers 42 = .ok (.iload_n 2, 1) := by decide +kernel
theorem dX0_numberMembers_43 : decode cX0_numberMembers 43 = .ok (.ifCond .lt 33, 3) := by decide +kernel
theorem dX0_numberMembers_46 : decode cX0_numberMembers 46 = .ok (.iload_n 2, 1) := by decide +kernel
theorem dX0_numberMembers_47 : decode cX0_numberMembers 47 = .ok (.aload_n 0, 1) := by decide +kernel
theorem dX0_numberMembers_48 : decode cX0_numberMembers 48 = .ok (.getfield 27, 3) := by decide +kernel
theorem dX0_numberMembers_51 : decode cX0_numberMembers 51 = .ok (.arraylength, 1) := by decide +kernel
theorem dX0_numberMembers_52 : decode cX0_numberMembers 52 = .ok (.if_icmp .ge 24, 3) := by decide +kernel
theorem dX0_numberMembers_55 : decode cX0_numberMembers 55 = .ok (.aload_n 0, 1) := by decide +kernel
theorem dX0_numberMembers_56 : decode cX0_numberMembers 56 = .ok (.getfield 27, 3) := by decide +kernel
theorem dX0_numberMembers_59 : decode cX0_numberMembers 59 = .ok (.iload_n 2, 1) := by decide +kernel
theorem dX0_numberMembers_60 : decode cX0_numberMembers 60 = .ok (.aload_n 0, 1) := by decide +kernel
theorem dX0_numberMembers_61 : decode cX0_numberMembers 61 = .ok (.getfield 20, 3) := by decide +kernel
theorem dX0_numberMembers_64 : decode cX0_numberMembers 64 = .ok (.getfield 71, 3) := by decide +kernel
theorem dX0_numberMembers_67 : decode cX0_numberMembers 67 = .ok (.iastore, 1) := by decide +kernel
theorem dX0_numberMembers_68 : decode cX0_numberMembers 68 = .ok (.aload_n 0, 1) := by decide +kernel
theorem dX0_numberMembers_69 : decode cX0_numberMembers 69 = .ok (.getfield 20, 3) := by decide +kernel
theorem dX0_numberMembers_72 : decode cX0_numberMembers 72 = .ok (.iload_n 2, 1) := by decide +kernel
theorem dX0_numberMembers_73 : decode cX0_numberMembers 73 = .ok (.invokevirtual 83, 3) := by decide +kernel
theorem dX0_numberMembers_76 : decode cX0_numberMembers 76 = .ok (.iinc 1 1, 3) := by decide +kernel
theorem dX0_numberMembers_79 : decode cX0_numberMembers 79 = .ok (.goto (-61), 3) := by decide +kernel
theorem dX0_numberMembers_82 : decode cX0_numberMembers 82 = .ok (.return_, 1) := by decide +kernel
theorem dX0_fillWithin_0 : decode cX0_fillWithin 0 = .ok (.iconst 0, 1) := by decide +kernel
theorem dX0_fillWithin_1 : decode cX0_fillWithin 1 = .ok (.istore_n 1, 1) := by decide +kernel
theorem dX0_fillWithin_2 : decode cX0_fillWithin 2 = .ok (.iload_n 1, 1) := by decide +kernel
theorem dX0_fillWithin_3 : decode cX0_fillWithin 3 = .ok (.aload_n 0, 1) := by decide +kernel
theorem dX0_fillWithin_4 : decode cX0_fillWithin 4 = .ok (.getfield 33, 3) := by decide +kernel
theorem dX0_fillWithin_7 : decode cX0_fillWithin 7 = .ok (.arraylength, 1) := by decide +kernel
theorem dX0_fillWithin_8 : decode cX0_fillWithin 8 = .ok (.if_icmp .ge 32, 3) := by decide +kernel
theorem dX0_fillWithin_11 : decode cX0_fillWithin 11 = .ok (.aload_n 0, 1) := by decide +kernel
theorem dX0_fillWithin_12 : decode cX0_fillWithin 12 = .ok (.getfield 33, 3) := by decide +kernel
theorem dX0_fillWithin_15 : decode cX0_fillWithin 15 = .ok (.iload_n 1, 1) := by decide +kernel
theorem dX0_fillWithin_16 : decode cX0_fillWithin 16 = .ok (.aload_n 0, 1) := by decide +kernel
theorem dX0_fillWithin_17 : decode cX0_fillWithin 17 = .ok (.iload_n 1, 1) := by decide +kernel
theorem dX0_fillWithin_18 : decode cX0_fillWithin 18 = .ok (.invokevirtual 86, 3) := by decide +kernel
theorem dX0_fillWithin_21 : decode cX0_fillWithin 21 = .ok (.ifCond .lt 7, 3) := by decide +kernel
theorem dX0_fillWithin_24 : decode cX0_fillWithin 24 = .ok (.iload_n 1, 1) := by decide +kernel
theorem dX0_fillWithin_25 : decode cX0_fillWithin 25 = .ok (.goto 8, 3) := by decide +kernel
theorem dX0_fillWithin_28 : decode cX0_fillWithin 28 = .ok (.aload_n 0, 1) := by decide +kernel
theorem dX0_fillWithin_29 : decode cX0_fillWithin 29 = .ok (.iload_n 1, 1) := by decide +kernel
theorem dX0_fillWithin_30 : decode cX0_fillWithin 30 = .ok (.invokevirtual 89, 3) := by decide +kernel
theorem dX0_fillWithin_33 : decode cX0_fillWithin 33 = .ok (.iastore, 1) := by decide +kernel
theorem dX0_fillWithin_34 : decode cX0_fillWithin 34 = .ok (.iinc 1 1, 3) := by decide +kernel
theorem dX0_fillWithin_37 : decode cX0_fillWithin 37 = .ok (.goto (-35), 3) := by decide +kernel
theorem dX0_fillWithin_40 : decode cX0_fillWithin 40 = .ok (.return_, 1) := by decide +kernel
theorem dX0_unionBelow_0 : decode cX0_unionBelow 0 = .ok (.iconst 0, 1) := by decide +kernel
theorem dX0_unionBelow_1 : decode cX0_unionBelow 1 = .ok (.istore_n 2, 1) := by decide +kernel
theorem dX0_unionBelow_2 : decode cX0_unionBelow 2 = .ok (.iconst 0, 1) := by decide +kernel
theorem dX0_unionBelow_3 : decode cX0_unionBelow 3 = .ok (.istore_n 3, 1) := by decide +kernel
theorem dX0_unionBelow_4 : decode cX0_unionBelow 4 = .ok (.iload_n 3, 1) := by decide +kernel
theorem dX0_unionBelow_5 : decode cX0_unionBelow 5 = .ok (.bipush 7, 2) := by decide +kernel
theorem dX0_unionBelow_7 : decode cX0_unionBelow 7 = .ok (.if_icmp .ge 49, 3) := by decide +kernel
theorem dX0_unionBelow_10 : decode cX0_unionBelow 10 = .ok (.iload_n 1, 1) := by decide +kernel
theorem dX0_unionBelow_11 : decode cX0_unionBelow 11 = .ok (.iconst 1, 1) := by decide +kernel
theorem dX0_unionBelow_12 : decode cX0_unionBelow 12 = .ok (.iload_n 3, 1) := by decide +kernel
theorem dX0_unionBelow_13 : decode cX0_unionBelow 13 = .ok (.ishl, 1) := by decide +kernel
theorem dX0_unionBelow_14 : decode cX0_unionBelow 14 = .ok (.iconst (-1), 1) := by decide +kernel
theorem dX0_unionBelow_15 : decode cX0_unionBelow 15 = .ok (.ixor, 1) := by decide +kernel
theorem dX0_unionBelow_16 : decode cX0_unionBelow 16 = .ok (.iand, 1) := by decide +kernel
theorem dX0_unionBelow_17 : decode cX0_unionBelow 17 = .ok (.istore 4, 2) := by decide +kernel
theorem dX0_unionBelow_19 : decode cX0_unionBelow 19 = .ok (.iload 4, 2) := by decide +kernel
theorem dX0_unionBelow_21 : decode cX0_unionBelow 21 = .ok (.iload_n 1, 1) := by decide +kernel
theorem dX0_unionBelow_22 : decode cX0_unionBelow 22 = .ok (.if_icmp .eq 28, 3) := by decide +kernel
theorem dX0_unionBelow_25 : decode cX0_unionBelow 25 = .ok (.iload 4, 2) := by decide +kernel
theorem dX0_unionBelow_27 : decode cX0_unionBelow 27 = .ok (.ifCond .lt 23, 3) := by decide +kernel
theorem dX0_unionBelow_30 : decode cX0_unionBelow 30 = .ok (.iload 4, 2) := by decide +kernel
theorem dX0_unionBelow_32 : decode cX0_unionBelow 32 = .ok (.aload_n 0, 1) := by decide +kernel
theorem dX0_unionBelow_33 : decode cX0_unionBelow 33 = .ok (.getfield 33, 3) := by decide +kernel
theorem dX0_unionBelow_36 : decode cX0_unionBelow 36 = .ok (.arraylength, 1) := by decide +kernel
theorem dX0_unionBelow_37 : decode cX0_unionBelow 37 = .ok (.if_icmp .ge 13, 3) := by decide +kernel
theorem dX0_unionBelow_40 : decode cX0_unionBelow 40 = .ok (.iload_n 2, 1) := by decide +kernel
theorem dX0_unionBelow_41 : decode cX0_unionBelow 41 = .ok (.aload_n 0, 1) := by decide +kernel
theorem dX0_unionBelow_42 : decode cX0_unionBelow 42 = .ok (.getfield 33, 3) := by decide +kernel
theorem dX0_unionBelow_45 : decode cX0_unionBelow 45 = .ok (.iload 4, 2) := by decide +kernel
theorem dX0_unionBelow_47 : decode cX0_unionBelow 47 = .ok (.iaload, 1) := by decide +kernel
theorem dX0_unionBelow_48 : decode cX0_unionBelow 48 = .ok (.ior, 1) := by decide +kernel
theorem dX0_unionBelow_49 : decode cX0_unionBelow 49 = .ok (.istore_n 2, 1) := by decide +kernel
theorem dX0_unionBelow_50 : decode cX0_unionBelow 50 = .ok (.iinc 3 1, 3) := by decide +kernel
theorem dX0_unionBelow_53 : decode cX0_unionBelow 53 = .ok (.goto (-49), 3) := by decide +kernel
theorem dX0_unionBelow_56 : decode cX0_unionBelow 56 = .ok (.iload_n 2, 1) := by decide +kernel
theorem dX0_unionBelow_57 : decode cX0_unionBelow 57 = .ok (.ireturn, 1) := by decide +kernel
theorem dX0_pickBase_0 : decode cX0_pickBase 0 = .ok (.aload_n 0, 1) := by decide +kernel
theorem dX0_pickBase_1 : decode cX0_pickBase 1 = .ok (.getfield 24, 3) := by decide +kernel
theorem dX0_pickBase_4 : decode cX0_pickBase 4 = .ok (.invokevirtual 77, 3) := by decide +kernel
theorem dX0_pickBase_7 : decode cX0_pickBase 7 = .ok (.iconst 1, 1) := by decide +kernel
theorem dX0_pickBase_8 : decode cX0_pickBase 8 = .ok (.istore_n 1, 1) := by decide +kernel
theorem dX0_pickBase_9 : decode cX0_pickBase 9 = .ok (.iload_n 1, 1) := by decide +kernel
theorem dX0_pickBase_10 : decode cX0_pickBase 10 = .ok (.aload_n 0, 1) := by decide +kernel
theorem dX0_pickBase_11 : decode cX0_pickBase 11 = .ok (.getfield 20, 3) := by decide +kernel
theorem dX0_pickBase_14 : decode cX0_pickBase 14 = .ok (.getfield 71, 3) := by decide +kernel
theorem dX0_pickBase_17 : decode cX0_pickBase 17 = .ok (.if_icmp .ge 35, 3) := by decide +kernel
theorem dX0_pickBase_20 : decode cX0_pickBase 20 = .ok (.aload_n 0, 1) := by decide +kernel
theorem dX0_pickBase_21 : decode cX0_pickBase 21 = .ok (.getfield 20, 3) := by decide +kernel
theorem dX0_pickBase_24 : decode cX0_pickBase 24 = .ok (.iload_n 1, 1) := by decide +kernel
theorem dX0_pickBase_25 : decode cX0_pickBase 25 = .ok (.invokevirtual 74, 3) := by decide +kernel
theorem dX0_pickBase_28 : decode cX0_pickBase 28 = .ok (.istore_n 2, 1) := by decide +kernel
theorem dX0_pickBase_29 : decode cX0_pickBase 29 = .ok (.aload_n 0, 1) := by decide +kernel
theorem dX0_pickBase_30 : decode cX0_pickBase 30 = .ok (.iload_n 2, 1) := by decide +kernel
theorem dX0_pickBase_31 : decode cX0_pickBase 31 = .ok (.invokevirtual 89, 3) := by decide +kernel
theorem dX0_pickBase_34 : decode cX0_pickBase 34 = .ok (.iload_n 2, 1) := by decide +kernel
theorem dX0_pickBase_35 : decode cX0_pickBase 35 = .ok (.if_icmp .eq 11, 3) := by decide +kernel
theorem dX0_pickBase_38 : decode cX0_pickBase 38 = .ok (.aload_n 0, 1) := by decide +kernel
theorem dX0_pickBase_39 : decode cX0_pickBase 39 = .ok (.getfield 24, 3) := by decide +kernel
theorem dX0_pickBase_42 : decode cX0_pickBase 42 = .ok (.iload_n 2, 1) := by decide +kernel
theorem dX0_pickBase_43 : decode cX0_pickBase 43 = .ok (.invokevirtual 83, 3) := by decide +kernel
theorem dX0_pickBase_46 : decode cX0_pickBase 46 = .ok (.iinc 1 1, 3) := by decide +kernel
theorem dX0_pickBase_49 : decode cX0_pickBase 49 = .ok (.goto (-40), 3) := by decide +kernel
theorem dX0_pickBase_52 : decode cX0_pickBase 52 = .ok (.return_, 1) := by decide +kernel
theorem dX0_countPoints_0 : decode cX0_countPoints 0 = .ok (.iconst 0, 1) := by decide +kernel
theorem dX0_countPoints_1 : decode cX0_countPoints 1 = .ok (.istore_n 1, 1) := by decide +kernel
theorem dX0_countPoints_2 : decode cX0_countPoints 2 = .ok (.iload_n 1, 1) := by decide +kernel
theorem dX0_countPoints_3 : decode cX0_countPoints 3 = .ok (.aload_n 0, 1) := by decide +kernel
theorem dX0_countPoints_4 : decode cX0_countPoints 4 = .ok (.getfield 36, 3) := by decide +kernel
theorem dX0_countPoints_7 : decode cX0_countPoints 7 = .ok (.arraylength, 1) := by decide +kernel
theorem dX0_countPoints_8 : decode cX0_countPoints 8 = .ok (.if_icmp .ge 22, 3) := by decide +kernel
theorem dX0_countPoints_11 : decode cX0_countPoints 11 = .ok (.aload_n 0, 1) := by decide +kernel
theorem dX0_countPoints_12 : decode cX0_countPoints 12 = .ok (.getfield 36, 3) := by decide +kernel
theorem dX0_countPoints_15 : decode cX0_countPoints 15 = .ok (.iload_n 1, 1) := by decide +kernel
theorem dX0_countPoints_16 : decode cX0_countPoints 16 = .ok (.aload_n 0, 1) := by decide +kernel
theorem dX0_countPoints_17 : decode cX0_countPoints 17 = .ok (.iconst 1, 1) := by decide +kernel
theorem dX0_countPoints_18 : decode cX0_countPoints 18 = .ok (.iload_n 1, 1) := by decide +kernel
theorem dX0_countPoints_19 : decode cX0_countPoints 19 = .ok (.ishl, 1) := by decide +kernel
theorem dX0_countPoints_20 : decode cX0_countPoints 20 = .ok (.invokevirtual 92, 3) := by decide +kernel
theorem dX0_countPoints_23 : decode cX0_countPoints 23 = .ok (.iastore, 1) := by decide +kernel
theorem dX0_countPoints_24 : decode cX0_countPoints 24 = .ok (.iinc 1 1, 3) := by decide +kernel
theorem dX0_countPoints_27 : decode cX0_countPoints 27 = .ok (.goto (-25), 3) := by decide +kernel
theorem dX0_countPoints_30 : decode cX0_countPoints 30 = .ok (.return_, 1) := by decide +kernel
theorem dX0_numberOf_0 : decode cX0_numberOf 0 = .ok (.iload_n 1, 1) := by decide +kernel
theorem dX0_numberOf_1 : decode cX0_numberOf 1 = .ok (.ifCond .lt 21, 3) := by decide +kernel
theorem dX0_numberOf_4 : decode cX0_numberOf 4 = .ok (.iload_n 1, 1) := by decide +kernel
theorem dX0_numberOf_5 : decode cX0_numberOf 5 = .ok (.aload_n 0, 1) := by decide +kernel
theorem dX0_numberOf_6 : decode cX0_numberOf 6 = .ok (.getfield 27, 3) := by decide +kernel
theorem dX0_numberOf_9 : decode cX0_numberOf 9 = .ok (.arraylength, 1) := by decide +kernel
theorem dX0_numberOf_10 : decode cX0_numberOf 10 = .ok (.if_icmp .ge 12, 3) := by decide +kernel
theorem dX0_numberOf_13 : decode cX0_numberOf 13 = .ok (.aload_n 0, 1) := by decide +kernel
theorem dX0_numberOf_14 : decode cX0_numberOf 14 = .ok (.getfield 27, 3) := by decide +kernel
theorem dX0_numberOf_17 : decode cX0_numberOf 17 = .ok (.iload_n 1, 1) := by decide +kernel
theorem dX0_numberOf_18 : decode cX0_numberOf 18 = .ok (.iaload, 1) := by decide +kernel
theorem dX0_numberOf_19 : decode cX0_numberOf 19 = .ok (.goto 5, 3) := by decide +kernel
theorem dX0_numberOf_22 : decode cX0_numberOf 22 = .ok (.bipush (-2), 2) := by decide +kernel
theorem dX0_numberOf_24 : decode cX0_numberOf 24 = .ok (.ireturn, 1) := by decide +kernel
theorem dX0_innerOf_0 : decode cX0_innerOf 0 = .ok (.iload_n 1, 1) := by decide +kernel
theorem dX0_innerOf_1 : decode cX0_innerOf 1 = .ok (.ifCond .lt 21, 3) := by decide +kernel
theorem dX0_innerOf_4 : decode cX0_innerOf 4 = .ok (.iload_n 1, 1) := by decide +kernel
theorem dX0_innerOf_5 : decode cX0_innerOf 5 = .ok (.aload_n 0, 1) := by decide +kernel
theorem dX0_innerOf_6 : decode cX0_innerOf 6 = .ok (.getfield 33, 3) := by decide +kernel
theorem dX0_innerOf_9 : decode cX0_innerOf 9 = .ok (.arraylength, 1) := by decide +kernel
theorem dX0_innerOf_10 : decode cX0_innerOf 10 = .ok (.if_icmp .ge 12, 3) := by decide +kernel
theorem dX0_innerOf_13 : decode cX0_innerOf 13 = .ok (.aload_n 0, 1) := by decide +kernel
theorem dX0_innerOf_14 : decode cX0_innerOf 14 = .ok (.getfield 33, 3) := by decide +kernel
theorem dX0_innerOf_17 : decode cX0_innerOf 17 = .ok (.iload_n 1, 1) := by decide +kernel
theorem dX0_innerOf_18 : decode cX0_innerOf 18 = .ok (.iaload, 1) := by decide +kernel
theorem dX0_innerOf_19 : decode cX0_innerOf 19 = .ok (.goto 4, 3) := by decide +kernel
theorem dX0_innerOf_22 : decode cX0_innerOf 22 = .ok (.iconst 0, 1) := by decide +kernel
theorem dX0_innerOf_23 : decode cX0_innerOf 23 = .ok (.ireturn, 1) := by decide +kernel
theorem dX0_fewestFor_0 : decode cX0_fewestFor 0 = .ok (.iload_n 1, 1) := by decide +kernel
theorem dX0_fewestFor_1 : decode cX0_fewestFor 1 = .ok (.ifCond .lt 21, 3) := by decide +kernel
theorem dX0_fewestFor_4 : decode cX0_fewestFor 4 = .ok (.iload_n 1, 1) := by decide +kernel
theorem dX0_fewestFor_5 : decode cX0_fewestFor 5 = .ok (.aload_n 0, 1) := by decide +kernel
theorem dX0_fewestFor_6 : decode cX0_fewestFor 6 = .ok (.getfield 30, 3) := by decide +kernel
theorem dX0_fewestFor_9 : decode cX0_fewestFor 9 = .ok (.arraylength, 1) := by decide +kernel
theorem dX0_fewestFor_10 : decode cX0_fewestFor 10 = .ok (.if_icmp .ge 12, 3) := by decide +kernel
theorem dX0_fewestFor_13 : decode cX0_fewestFor 13 = .ok (.aload_n 0, 1) := by decide +kernel
theorem dX0_fewestFor_14 : decode cX0_fewestFor 14 = .ok (.getfield 30, 3) := by decide +kernel
theorem dX0_fewestFor_17 : decode cX0_fewestFor 17 = .ok (.iload_n 1, 1) := by decide +kernel
theorem dX0_fewestFor_18 : decode cX0_fewestFor 18 = .ok (.iaload, 1) := by decide +kernel
theorem dX0_fewestFor_19 : decode cX0_fewestFor 19 = .ok (.goto 5, 3) := by decide +kernel
theorem dX0_fewestFor_22 : decode cX0_fewestFor 22 = .ok (.bipush (-2), 2) := by decide +kernel
theorem dX0_fewestFor_24 : decode cX0_fewestFor 24 = .ok (.ireturn, 1) := by decide +kernel
theorem dX0_oftenOf_0 : decode cX0_oftenOf 0 = .ok (.iload_n 1, 1) := by decide +kernel
theorem dX0_oftenOf_1 : decode cX0_oftenOf 1 = .ok (.ifCond .lt 21, 3) := by decide +kernel
theorem dX0_oftenOf_4 : decode cX0_oftenOf 4 = .ok (.iload_n 1, 1) := by decide +kernel
theorem dX0_oftenOf_5 : decode cX0_oftenOf 5 = .ok (.aload_n 0, 1) := by decide +kernel
theorem dX0_oftenOf_6 : decode cX0_oftenOf 6 = .ok (.getfield 36, 3) := by decide +kernel
theorem dX0_oftenOf_9 : decode cX0_oftenOf 9 = .ok (.arraylength, 1) := by decide +kernel
theorem dX0_oftenOf_10 : decode cX0_oftenOf 10 = .ok (.if_icmp .ge 12, 3) := by decide +kernel
theorem dX0_oftenOf_13 : decode cX0_oftenOf 13 = .ok (.aload_n 0, 1) := by decide +kernel
theorem dX0_oftenOf_14 : decode cX0_oftenOf 14 = .ok (.getfield 36, 3) := by decide +kernel
theorem dX0_oftenOf_17 : decode cX0_oftenOf 17 = .ok (.iload_n 1, 1) := by decide +kernel
theorem dX0_oftenOf_18 : decode cX0_oftenOf 18 = .ok (.iaload, 1) := by decide +kernel
theorem dX0_oftenOf_19 : decode cX0_oftenOf 19 = .ok (.goto 4, 3) := by decide +kernel
theorem dX0_oftenOf_22 : decode cX0_oftenOf 22 = .ok (.iconst 0, 1) := by decide +kernel
theorem dX0_oftenOf_23 : decode cX0_oftenOf 23 = .ok (.ireturn, 1) := by decide +kernel
theorem dX0_orderedSet_0 : decode cX0_orderedSet 0 = .ok (.iload_n 1, 1) := by decide +kernel
theorem dX0_orderedSet_1 : decode cX0_orderedSet 1 = .ok (.ifCond .lt 21, 3) := by decide +kernel
theorem dX0_orderedSet_4 : decode cX0_orderedSet 4 = .ok (.iload_n 1, 1) := by decide +kernel
theorem dX0_orderedSet_5 : decode cX0_orderedSet 5 = .ok (.aload_n 0, 1) := by decide +kernel
theorem dX0_orderedSet_6 : decode cX0_orderedSet 6 = .ok (.getfield 9, 3) := by decide +kernel
theorem dX0_orderedSet_9 : decode cX0_orderedSet 9 = .ok (.arraylength, 1) := by decide +kernel
theorem dX0_orderedSet_10 : decode cX0_orderedSet 10 = .ok (.if_icmp .ge 12, 3) := by decide +kernel
theorem dX0_orderedSet_13 : decode cX0_orderedSet 13 = .ok (.aload_n 0, 1) := by decide +kernel
theorem dX0_orderedSet_14 : decode cX0_orderedSet 14 = .ok (.getfield 9, 3) := by decide +kernel
theorem dX0_orderedSet_17 : decode cX0_orderedSet 17 = .ok (.iload_n 1, 1) := by decide +kernel
theorem dX0_orderedSet_18 : decode cX0_orderedSet 18 = .ok (.iaload, 1) := by decide +kernel
theorem dX0_orderedSet_19 : decode cX0_orderedSet 19 = .ok (.goto 4, 3) := by decide +kernel
theorem dX0_orderedSet_22 : decode cX0_orderedSet 22 = .ok (.iconst 0, 1) := by decide +kernel
theorem dX0_orderedSet_23 : decode cX0_orderedSet 23 = .ok (.ireturn, 1) := by decide +kernel
theorem dX0_allPoints_0 : decode cX0_allPoints 0 = .ok (.iconst 1, 1) := by decide +kernel
theorem dX0_allPoints_1 : decode cX0_allPoints 1 = .ok (.aload_n 0, 1) := by decide +kernel
theorem dX0_allPoints_2 : decode cX0_allPoints 2 = .ok (.getfield 39, 3) := by decide +kernel
theorem dX0_allPoints_5 : decode cX0_allPoints 5 = .ok (.ishl, 1) := by decide +kernel
theorem dX0_allPoints_6 : decode cX0_allPoints 6 = .ok (.iconst 1, 1) := by decide +kernel
theorem dX0_allPoints_7 : decode cX0_allPoints 7 = .ok (.isub, 1) := by decide +kernel
theorem dX0_allPoints_8 : decode cX0_allPoints 8 = .ok (.ireturn, 1) := by decide +kernel
theorem dX0_top_0 : decode cX0_top 0 = .ok (.aload_n 0, 1) := by decide +kernel
theorem dX0_top_1 : decode cX0_top 1 = .ok (.getfield 20, 3) := by decide +kernel
theorem dX0_top_4 : decode cX0_top 4 = .ok (.aload_n 0, 1) := by decide +kernel
theorem dX0_top_5 : decode cX0_top 5 = .ok (.getfield 20, 3) := by decide +kernel
theorem dX0_top_8 : decode cX0_top 8 = .ok (.getfield 71, 3) := by decide +kernel
theorem dX0_top_11 : decode cX0_top 11 = .ok (.iconst 1, 1) := by decide +kernel
theorem dX0_top_12 : decode cX0_top 12 = .ok (.isub, 1) := by decide +kernel
theorem dX0_top_13 : decode cX0_top 13 = .ok (.invokevirtual 74, 3) := by decide +kernel
theorem dX0_top_16 : decode cX0_top 16 = .ok (.ireturn, 1) := by decide +kernel
theorem dX0_isFrequent_0 : decode cX0_isFrequent 0 = .ok (.iconst 2, 1) := by decide +kernel
theorem dX0_isFrequent_1 : decode cX0_isFrequent 1 = .ok (.aload_n 0, 1) := by decide +kernel
theorem dX0_isFrequent_2 : decode cX0_isFrequent 2 = .ok (.iload_n 1, 1) := by decide +kernel
theorem dX0_isFrequent_3 : decode cX0_isFrequent 3 = .ok (.invokevirtual 95, 3) := by decide +kernel
theorem dX0_isFrequent_6 : decode cX0_isFrequent 6 = .ok (.imul, 1) := by decide +kernel
theorem dX0_isFrequent_7 : decode cX0_isFrequent 7 = .ok (.aload_n 0, 1) := by decide +kernel
theorem dX0_isFrequent_8 : decode cX0_isFrequent 8 = .ok (.getfield 20, 3) := by decide +kernel
theorem dX0_isFrequent_11 : decode cX0_isFrequent 11 = .ok (.getfield 71, 3) := by decide +kernel
theorem dX0_isFrequent_14 : decode cX0_isFrequent 14 = .ok (.if_icmp .lt 7, 3) := by decide +kernel
theorem dX0_isFrequent_17 : decode cX0_isFrequent 17 = .ok (.iconst 1, 1) := by decide +kernel
theorem dX0_isFrequent_18 : decode cX0_isFrequent 18 = .ok (.goto 4, 3) := by decide +kernel
theorem dX0_isFrequent_21 : decode cX0_isFrequent 21 = .ok (.iconst 0, 1) := by decide +kernel
theorem dX0_isFrequent_22 : decode cX0_isFrequent 22 = .ok (.ireturn, 1) := by decide +kernel
theorem dX0_frequentPoints_0 : decode cX0_frequentPoints 0 = .ok (.iconst 0, 1) := by decide +kernel
theorem dX0_frequentPoints_1 : decode cX0_frequentPoints 1 = .ok (.istore_n 1, 1) := by decide +kernel
theorem dX0_frequentPoints_2 : decode cX0_frequentPoints 2 = .ok (.iconst 0, 1) := by decide +kernel
theorem dX0_frequentPoints_3 : decode cX0_frequentPoints 3 = .ok (.istore_n 2, 1) := by decide +kernel
theorem dX0_frequentPoints_4 : decode cX0_frequentPoints 4 = .ok (.iload_n 2, 1) := by decide +kernel
theorem dX0_frequentPoints_5 : decode cX0_frequentPoints 5 = .ok (.aload_n 0, 1) := by decide +kernel
theorem dX0_frequentPoints_6 : decode cX0_frequentPoints 6 = .ok (.getfield 39, 3) := by decide +kernel
theorem dX0_frequentPoints_9 : decode cX0_frequentPoints 9 = .ok (.if_icmp .ge 23, 3) := by decide +kernel
theorem dX0_frequentPoints_12 : decode cX0_frequentPoints 12 = .ok (.aload_n 0, 1) := by decide +kernel
theorem dX0_frequentPoints_13 : decode cX0_frequentPoints 13 = .ok (.iload_n 2, 1) := by decide +kernel
theorem dX0_frequentPoints_14 : decode cX0_frequentPoints 14 = .ok (.invokevirtual 98, 3) := by decide +kernel
theorem dX0_frequentPoints_17 : decode cX0_frequentPoints 17 = .ok (.ifCond .eq 9, 3) := by decide +kernel
theorem dX0_frequentPoints_20 : decode cX0_frequentPoints 20 = .ok (.iload_n 1, 1) := by decide +kernel
theorem dX0_frequentPoints_21 : decode cX0_frequentPoints 21 = .ok (.iconst 1, 1) := by decide +kernel
theorem dX0_frequentPoints_22 : decode cX0_frequentPoints 22 = .ok (.iload_n 2, 1) := by decide +kernel
theorem dX0_frequentPoints_23 : decode cX0_frequentPoints 23 = .ok (.ishl, 1) := by decide +kernel
theorem dX0_frequentPoints_24 : decode cX0_frequentPoints 24 = .ok (.ior, 1) := by decide +kernel
theorem dX0_frequentPoints_25 : decode cX0_frequentPoints 25 = .ok (.istore_n 1, 1) := by decide +kernel
theorem dX0_frequentPoints_26 : decode cX0_frequentPoints 26 = .ok (.iinc 2 1, 3) := by decide +kernel
theorem dX0_frequentPoints_29 : decode cX0_frequentPoints 29 = .ok (.goto (-25), 3) := by decide +kernel
theorem dX0_frequentPoints_32 : decode cX0_frequentPoints 32 = .ok (.iload_n 1, 1) := by decide +kernel
theorem dX0_frequentPoints_33 : decode cX0_frequentPoints 33 = .ok (.ireturn, 1) := by decide +kernel
theorem dX0_pointRanked_0 : decode cX0_pointRanked 0 = .ok (.iconst 0, 1) := by decide +kernel
theorem dX0_pointRanked_1 : decode cX0_pointRanked 1 = .ok (.istore_n 2, 1) := by decide +kernel
theorem dX0_pointRanked_2 : decode cX0_pointRanked 2 = .ok (.iload_n 2, 1) := by decide +kernel
theorem dX0_pointRanked_3 : decode cX0_pointRanked 3 = .ok (.aload_n 0, 1) := by decide +kernel
theorem dX0_pointRanked_4 : decode cX0_pointRanked 4 = .ok (.getfield 39, 3) := by decide +kernel
theorem dX0_pointRanked_7 : decode cX0_pointRanked 7 = .ok (.if_icmp .ge 20, 3) := by decide +kernel
theorem dX0_pointRanked_10 : decode cX0_pointRanked 10 = .ok (.aload_n 0, 1) := by decide +kernel
theorem dX0_pointRanked_11 : decode cX0_pointRanked 11 = .ok (.iload_n 2, 1) := by decide +kernel
theorem dX0_pointRanked_12 : decode cX0_pointRanked 12 = .ok (.invokevirtual 102, 3) := by decide +kernel
theorem dX0_pointRanked_15 : decode cX0_pointRanked 15 = .ok (.iload_n 1, 1) := by decide +kernel
theorem dX0_pointRanked_16 : decode cX0_pointRanked 16 = .ok (.if_icmp .ne 5, 3) := by decide +kernel
theorem dX0_pointRanked_19 : decode cX0_pointRanked 19 = .ok (.iload_n 2, 1) := by decide +kernel
theorem dX0_pointRanked_20 : decode cX0_pointRanked 20 = .ok (.ireturn, 1) := by decide +kernel
theorem dX0_pointRanked_21 : decode cX0_pointRanked 21 = .ok (.iinc 2 1, 3) := by decide +kernel
theorem dX0_pointRanked_24 : decode cX0_pointRanked 24 = .ok (.goto (-22), 3) := by decide +kernel
theorem dX0_pointRanked_27 : decode cX0_pointRanked 27 = .ok (.iconst (-1), 1) := by decide +kernel
theorem dX0_pointRanked_28 : decode cX0_pointRanked 28 = .ok (.ireturn, 1) := by decide +kernel
theorem dX0_rankOf_0 : decode cX0_rankOf 0 = .ok (.iconst 0, 1) := by decide +kernel
theorem dX0_rankOf_1 : decode cX0_rankOf 1 = .ok (.istore_n 2, 1) := by decide +kernel
theorem dX0_rankOf_2 : decode cX0_rankOf 2 = .ok (.iconst 0, 1) := by decide +kernel
theorem dX0_rankOf_3 : decode cX0_rankOf 3 = .ok (.istore_n 3, 1) := by decide +kernel
theorem dX0_rankOf_4 : decode cX0_rankOf 4 = .ok (.iload_n 3, 1) := by decide +kernel
theorem dX0_rankOf_5 : decode cX0_rankOf 5 = .ok (.aload_n 0, 1) := by decide +kernel
theorem dX0_rankOf_6 : decode cX0_rankOf 6 = .ok (.getfield 39, 3) := by decide +kernel
theorem dX0_rankOf_9 : decode cX0_rankOf 9 = .ok (.if_icmp .ge 55, 3) := by decide +kernel
theorem dX0_rankOf_12 : decode cX0_rankOf 12 = .ok (.aload_n 0, 1) := by decide +kernel
theorem dX0_rankOf_13 : decode cX0_rankOf 13 = .ok (.iload_n 3, 1) := by decide +kernel
theorem dX0_rankOf_14 : decode cX0_rankOf 14 = .ok (.invokevirtual 95, 3) := by decide +kernel
theorem dX0_rankOf_17 : decode cX0_rankOf 17 = .ok (.aload_n 0, 1) := by decide +kernel
theorem dX0_rankOf_18 : decode cX0_rankOf 18 = .ok (.iload_n 1, 1) := by decide +kernel
theorem dX0_rankOf_19 : decode cX0_rankOf 19 = .ok (.invokevirtual 95, 3) := by decide +kernel
theorem dX0_rankOf_22 : decode cX0_rankOf 22 = .ok (.if_icmp .ne 7, 3) := by decide +kernel
theorem dX0_rankOf_25 : decode cX0_rankOf 25 = .ok (.iconst 1, 1) := by decide +kernel
theorem dX0_rankOf_26 : decode cX0_rankOf 26 = .ok (.goto 4, 3) := by decide +kernel
theorem dX0_rankOf_29 : decode cX0_rankOf 29 = .ok (.iconst 0, 1) := by decide +kernel
theorem dX0_rankOf_30 : decode cX0_rankOf 30 = .ok (.istore 4, 2) := by decide +kernel
theorem dX0_rankOf_32 : decode cX0_rankOf 32 = .ok (.aload_n 0, 1) := by decide +kernel
theorem dX0_rankOf_33 : decode cX0_rankOf 33 = .ok (.iload_n 3, 1) := by decide +kernel
theorem dX0_rankOf_34 : decode cX0_rankOf 34 = .ok (.invokevirtual 95, 3) := by decide +kernel
theorem dX0_rankOf_37 : decode cX0_rankOf 37 = .ok (.aload_n 0, 1) := by decide +kernel
theorem dX0_rankOf_38 : decode cX0_rankOf 38 = .ok (.iload_n 1, 1) := by decide +kernel
theorem dX0_rankOf_39 : decode cX0_rankOf 39 = .ok (.invokevirtual 95, 3) := by decide +kernel
theorem dX0_rankOf_42 : decode cX0_rankOf 42 = .ok (.if_icmp .gt 13, 3) := by decide +kernel
theorem dX0_rankOf_45 : decode cX0_rankOf 45 = .ok (.iload 4, 2) := by decide +kernel
theorem dX0_rankOf_47 : decode cX0_rankOf 47 = .ok (.ifCond .eq 11, 3) := by decide +kernel
theorem dX0_rankOf_50 : decode cX0_rankOf 50 = .ok (.iload_n 3, 1) := by decide +kernel
theorem dX0_rankOf_51 : decode cX0_rankOf 51 = .ok (.iload_n 1, 1) := by decide +kernel
theorem dX0_rankOf_52 : decode cX0_rankOf 52 = .ok (.if_icmp .ge 6, 3) := by decide +kernel
theorem dX0_rankOf_55 : decode cX0_rankOf 55 = .ok (.iinc 2 1, 3) := by decide +kernel
theorem dX0_rankOf_58 : decode cX0_rankOf 58 = .ok (.iinc 3 1, 3) := by decide +kernel
theorem dX0_rankOf_61 : decode cX0_rankOf 61 = .ok (.goto (-57), 3) := by decide +kernel
theorem dX0_rankOf_64 : decode cX0_rankOf 64 = .ok (.iload_n 2, 1) := by decide +kernel
theorem dX0_rankOf_65 : decode cX0_rankOf 65 = .ok (.ireturn, 1) := by decide +kernel
theorem dX0_firstTwin_0 : decode cX0_firstTwin 0 = .ok (.aload_n 0, 1) := by decide +kernel
theorem dX0_firstTwin_1 : decode cX0_firstTwin 1 = .ok (.iload_n 1, 1) := by decide +kernel
theorem dX0_firstTwin_2 : decode cX0_firstTwin 2 = .ok (.invokevirtual 95, 3) := by decide +kernel
theorem dX0_firstTwin_5 : decode cX0_firstTwin 5 = .ok (.istore_n 2, 1) := by decide +kernel
theorem dX0_firstTwin_6 : decode cX0_firstTwin 6 = .ok (.iconst 0, 1) := by decide +kernel
theorem dX0_firstTwin_7 : decode cX0_firstTwin 7 = .ok (.istore_n 3, 1) := by decide +kernel
theorem dX0_firstTwin_8 : decode cX0_firstTwin 8 = .ok (.iload_n 3, 1) := by decide +kernel
theorem dX0_firstTwin_9 : decode cX0_firstTwin 9 = .ok (.aload_n 0, 1) := by decide +kernel
theorem dX0_firstTwin_10 : decode cX0_firstTwin 10 = .ok (.getfield 39, 3) := by decide +kernel
theorem dX0_firstTwin_13 : decode cX0_firstTwin 13 = .ok (.if_icmp .ge 44, 3) := by decide +kernel
theorem dX0_firstTwin_16 : decode cX0_firstTwin 16 = .ok (.iload_n 3, 1) := by decide +kernel
theorem dX0_firstTwin_17 : decode cX0_firstTwin 17 = .ok (.iload_n 1, 1) := by decide +kernel
theorem dX0_firstTwin_18 : decode cX0_firstTwin 18 = .ok (.if_icmp .eq 33, 3) := by decide +kernel
theorem dX0_firstTwin_21 : decode cX0_firstTwin 21 = .ok (.iload_n 2, 1) := by decide +kernel
theorem dX0_firstTwin_22 : decode cX0_firstTwin 22 = .ok (.ifCond .le 29, 3) := by decide +kernel
theorem dX0_firstTwin_25 : decode cX0_firstTwin 25 = .ok (.aload_n 0, 1) := by decide +kernel
theorem dX0_firstTwin_26 : decode cX0_firstTwin 26 = .ok (.iload_n 3, 1) := by decide +kernel
theorem dX0_firstTwin_27 : decode cX0_firstTwin 27 = .ok (.invokevirtual 95, 3) := by decide +kernel
theorem dX0_firstTwin_30 : decode cX0_firstTwin 30 = .ok (.iload_n 2, 1) := by decide +kernel
theorem dX0_firstTwin_31 : decode cX0_firstTwin 31 = .ok (.if_icmp .ne 20, 3) := by decide +kernel
theorem dX0_firstTwin_34 : decode cX0_firstTwin 34 = .ok (.aload_n 0, 1) := by decide +kernel
theorem dX0_firstTwin_35 : decode cX0_firstTwin 35 = .ok (.iconst 1, 1) := by decide +kernel
theorem dX0_firstTwin_36 : decode cX0_firstTwin 36 = .ok (.iload_n 3, 1) := by decide +kernel
theorem dX0_firstTwin_37 : decode cX0_firstTwin 37 = .ok (.ishl, 1) := by decide +kernel
theorem dX0_firstTwin_38 : decode cX0_firstTwin 38 = .ok (.iconst 1, 1) := by decide +kernel
theorem dX0_firstTwin_39 : decode cX0_firstTwin 39 = .ok (.iload_n 1, 1) := by decide +kernel
theorem dX0_firstTwin_40 : decode cX0_firstTwin 40 = .ok (.ishl, 1) := by decide +kernel
theorem dX0_firstTwin_41 : decode cX0_firstTwin 41 = .ok (.ior, 1) := by decide +kernel
theorem dX0_firstTwin_42 : decode cX0_firstTwin 42 = .ok (.invokevirtual 92, 3) := by decide +kernel
theorem dX0_firstTwin_45 : decode cX0_firstTwin 45 = .ok (.iload_n 2, 1) := by decide +kernel
theorem dX0_firstTwin_46 : decode cX0_firstTwin 46 = .ok (.if_icmp .ne 5, 3) := by decide +kernel
theorem dX0_firstTwin_49 : decode cX0_firstTwin 49 = .ok (.iload_n 3, 1) := by decide +kernel
theorem dX0_firstTwin_50 : decode cX0_firstTwin 50 = .ok (.ireturn, 1) := by decide +kernel
theorem dX0_firstTwin_51 : decode cX0_firstTwin 51 = .ok (.iinc 3 1, 3) := by decide +kernel
theorem dX0_firstTwin_54 : decode cX0_firstTwin 54 = .ok (.goto (-46), 3) := by decide +kernel
theorem dX0_firstTwin_57 : decode cX0_firstTwin 57 = .ok (.bipush (-2), 2) := by decide +kernel
theorem dX0_firstTwin_59 : decode cX0_firstTwin 59 = .ok (.ireturn, 1) := by decide +kernel
theorem dX0_leastSizeWith_0 : decode cX0_leastSizeWith 0 = .ok (.iconst 0, 1) := by decide +kernel
theorem dX0_leastSizeWith_1 : decode cX0_leastSizeWith 1 = .ok (.istore_n 2, 1) := by decide +kernel
theorem dX0_leastSizeWith_2 : decode cX0_leastSizeWith 2 = .ok (.iload_n 2, 1) := by decide +kernel
theorem dX0_leastSizeWith_3 : decode cX0_leastSizeWith 3 = .ok (.aload_n 0, 1) := by decide +kernel
theorem dX0_leastSizeWith_4 : decode cX0_leastSizeWith 4 = .ok (.getfield 20, 3) := by decide +kernel
theorem dX0_leastSizeWith_7 : decode cX0_leastSizeWith 7 = .ok (.getfield 71, 3) := by decide +kernel
theorem dX0_leastSizeWith_10 : decode cX0_leastSizeWith 10 = .ok (.if_icmp .ge 37, 3) := by decide +kernel
theorem dX0_leastSizeWith_13 : decode cX0_leastSizeWith 13 = .ok (.aload_n 0, 1) := by decide +kernel
theorem dX0_leastSizeWith_14 : decode cX0_leastSizeWith 14 = .ok (.getfield 20, 3) := by decide +kernel
theorem dX0_leastSizeWith_17 : decode cX0_leastSizeWith 17 = .ok (.iload_n 2, 1) := by decide +kernel
theorem dX0_leastSizeWith_18 : decode cX0_leastSizeWith 18 = .ok (.invokevirtual 74, 3) := by decide +kernel
theorem dX0_leastSizeWith_21 : decode cX0_leastSizeWith 21 = .ok (.iload_n 1, 1) := by decide +kernel
theorem dX0_leastSizeWith_22 : decode cX0_leastSizeWith 22 = .ok (.ishr, 1) := by decide +kernel
theorem dX0_leastSizeWith_23 : decode cX0_leastSizeWith 23 = .ok (.iconst 1, 1) := by decide +kernel
theorem dX0_leastSizeWith_24 : decode cX0_leastSizeWith 24 = .ok (.iand, 1) := by decide +kernel
theorem dX0_leastSizeWith_25 : decode cX0_leastSizeWith 25 = .ok (.iconst 1, 1) := by decide +kernel
theorem dX0_leastSizeWith_26 : decode cX0_leastSizeWith 26 = .ok (.if_icmp .ne 15, 3) := by decide +kernel
theorem dX0_leastSizeWith_29 : decode cX0_leastSizeWith 29 = .ok (.aload_n 0, 1) := by decide +kernel
theorem dX0_leastSizeWith_30 : decode cX0_leastSizeWith 30 = .ok (.getfield 20, 3) := by decide +kernel
theorem dX0_leastSizeWith_33 : decode cX0_leastSizeWith 33 = .ok (.iload_n 2, 1) := by decide +kernel
theorem dX0_leastSizeWith_34 : decode cX0_leastSizeWith 34 = .ok (.invokevirtual 74, 3) := by decide +kernel
theorem dX0_leastSizeWith_37 : decode cX0_leastSizeWith 37 = .ok (.invokestatic 43, 3) := by decide +kernel
theorem dX0_leastSizeWith_40 : decode cX0_leastSizeWith 40 = .ok (.ireturn, 1) := by decide +kernel
theorem dX0_leastSizeWith_41 : decode cX0_leastSizeWith 41 = .ok (.iinc 2 1, 3) := by decide +kernel
theorem dX0_leastSizeWith_44 : decode cX0_leastSizeWith 44 = .ok (.goto (-42), 3) := by decide +kernel
theorem dX0_leastSizeWith_47 : decode cX0_leastSizeWith 47 = .ok (.bipush (-2), 2) := by decide +kernel
theorem dX0_leastSizeWith_49 : decode cX0_leastSizeWith 49 = .ok (.ireturn, 1) := by decide +kernel
theorem dX0_sizeOfAll_0 : decode cX0_sizeOfAll 0 = .ok (.iconst 0, 1) := by decide +kernel
theorem dX0_sizeOfAll_1 : decode cX0_sizeOfAll 1 = .ok (.istore_n 1, 1) := by decide +kernel
theorem dX0_sizeOfAll_2 : decode cX0_sizeOfAll 2 = .ok (.iconst 0, 1) := by decide +kernel
theorem dX0_sizeOfAll_3 : decode cX0_sizeOfAll 3 = .ok (.istore_n 2, 1) := by decide +kernel
theorem dX0_sizeOfAll_4 : decode cX0_sizeOfAll 4 = .ok (.iload_n 2, 1) := by decide +kernel
theorem dX0_sizeOfAll_5 : decode cX0_sizeOfAll 5 = .ok (.aload_n 0, 1) := by decide +kernel
theorem dX0_sizeOfAll_6 : decode cX0_sizeOfAll 6 = .ok (.getfield 39, 3) := by decide +kernel
theorem dX0_sizeOfAll_9 : decode cX0_sizeOfAll 9 = .ok (.if_icmp .ge 17, 3) := by decide +kernel
theorem dX0_sizeOfAll_12 : decode cX0_sizeOfAll 12 = .ok (.iload_n 1, 1) := by decide +kernel
theorem dX0_sizeOfAll_13 : decode cX0_sizeOfAll 13 = .ok (.aload_n 0, 1) := by decide +kernel
theorem dX0_sizeOfAll_14 : decode cX0_sizeOfAll 14 = .ok (.iload_n 2, 1) := by decide +kernel
theorem dX0_sizeOfAll_15 : decode cX0_sizeOfAll 15 = .ok (.invokevirtual 95, 3) := by decide +kernel
theorem dX0_sizeOfAll_18 : decode cX0_sizeOfAll 18 = .ok (.iadd, 1) := by decide +kernel
theorem dX0_sizeOfAll_19 : decode cX0_sizeOfAll 19 = .ok (.istore_n 1, 1) := by decide +kernel
theorem dX0_sizeOfAll_20 : decode cX0_sizeOfAll 20 = .ok (.iinc 2 1, 3) := by decide +kernel
theorem dX0_sizeOfAll_23 : decode cX0_sizeOfAll 23 = .ok (.goto (-19), 3) := by decide +kernel
theorem dX0_sizeOfAll_26 : decode cX0_sizeOfAll 26 = .ok (.iload_n 1, 1) := by decide +kernel
theorem dX0_sizeOfAll_27 : decode cX0_sizeOfAll 27 = .ok (.ireturn, 1) := by decide +kernel
theorem dX0_massOfAll_0 : decode cX0_massOfAll 0 = .ok (.iconst 0, 1) := by decide +kernel
theorem dX0_massOfAll_1 : decode cX0_massOfAll 1 = .ok (.istore_n 2, 1) := by decide +kernel
theorem dX0_massOfAll_2 : decode cX0_massOfAll 2 = .ok (.iconst 0, 1) := by decide +kernel
theorem dX0_massOfAll_3 : decode cX0_massOfAll 3 = .ok (.istore_n 3, 1) := by decide +kernel
theorem dX0_massOfAll_4 : decode cX0_massOfAll 4 = .ok (.iload_n 3, 1) := by decide +kernel
theorem dX0_massOfAll_5 : decode cX0_massOfAll 5 = .ok (.aload_n 0, 1) := by decide +kernel
theorem dX0_massOfAll_6 : decode cX0_massOfAll 6 = .ok (.getfield 39, 3) := by decide +kernel
theorem dX0_massOfAll_9 : decode cX0_massOfAll 9 = .ok (.if_icmp .ge 27, 3) := by decide +kernel
theorem dX0_massOfAll_12 : decode cX0_massOfAll 12 = .ok (.iload_n 3, 1) := by decide +kernel
theorem dX0_massOfAll_13 : decode cX0_massOfAll 13 = .ok (.aload_n 1, 1) := by decide +kernel
theorem dX0_massOfAll_14 : decode cX0_massOfAll 14 = .ok (.arraylength, 1) := by decide +kernel
theorem dX0_massOfAll_15 : decode cX0_massOfAll 15 = .ok (.if_icmp .ge 21, 3) := by decide +kernel
theorem dX0_massOfAll_18 : decode cX0_massOfAll 18 = .ok (.iload_n 2, 1) := by decide +kernel
theorem dX0_massOfAll_19 : decode cX0_massOfAll 19 = .ok (.aload_n 1, 1) := by decide +kernel
theorem dX0_massOfAll_20 : decode cX0_massOfAll 20 = .ok (.iload_n 3, 1) := by decide +kernel
theorem dX0_massOfAll_21 : decode cX0_massOfAll 21 = .ok (.iaload, 1) := by decide +kernel
theorem dX0_massOfAll_22 : decode cX0_massOfAll 22 = .ok (.aload_n 0, 1) := by decide +kernel
theorem dX0_massOfAll_23 : decode cX0_massOfAll 23 = .ok (.iload_n 3, 1) := by decide +kernel
theorem dX0_massOfAll_24 : decode cX0_massOfAll 24 = .ok (.invokevirtual 95, 3) := by decide +kernel
theorem dX0_massOfAll_27 : decode cX0_massOfAll 27 = .ok (.imul, 1) := by decide +kernel
theorem dX0_massOfAll_28 : decode cX0_massOfAll 28 = .ok (.iadd, 1) := by decide +kernel
theorem dX0_massOfAll_29 : decode cX0_massOfAll 29 = .ok (.istore_n 2, 1) := by decide +kernel
theorem dX0_massOfAll_30 : decode cX0_massOfAll 30 = .ok (.iinc 3 1, 3) := by decide +kernel
theorem dX0_massOfAll_33 : decode cX0_massOfAll 33 = .ok (.goto (-29), 3) := by decide +kernel
theorem dX0_massOfAll_36 : decode cX0_massOfAll 36 = .ok (.iload_n 2, 1) := by decide +kernel
theorem dX0_massOfAll_37 : decode cX0_massOfAll 37 = .ok (.ireturn, 1) := by decide +kernel
theorem dX0_isProof_0 : decode cX0_isProof 0 = .ok (.iconst 0, 1) := by decide +kernel
theorem dX0_isProof_1 : decode cX0_isProof 1 = .ok (.istore_n 2, 1) := by decide +kernel
theorem dX0_isProof_2 : decode cX0_isProof 2 = .ok (.iconst 0, 1) := by decide +kernel
theorem dX0_isProof_3 : decode cX0_isProof 3 = .ok (.istore_n 3, 1) := by decide +kernel
theorem dX0_isProof_4 : decode cX0_isProof 4 = .ok (.iload_n 3, 1) := by decide +kernel
theorem dX0_isProof_5 : decode cX0_isProof 5 = .ok (.aload_n 0, 1) := by decide +kernel
theorem dX0_isProof_6 : decode cX0_isProof 6 = .ok (.getfield 39, 3) := by decide +kernel
theorem dX0_isProof_9 : decode cX0_isProof 9 = .ok (.if_icmp .ge 33, 3) := by decide +kernel
theorem dX0_isProof_12 : decode cX0_isProof 12 = .ok (.iload_n 3, 1) := by decide +kernel
theorem dX0_isProof_13 : decode cX0_isProof 13 = .ok (.aload_n 1, 1) := by decide +kernel
theorem dX0_isProof_14 : decode cX0_isProof 14 = .ok (.arraylength, 1) := by decide +kernel
theorem dX0_isProof_15 : decode cX0_isProof 15 = .ok (.if_icmp .ge 27, 3) := by decide +kernel
theorem dX0_isProof_18 : decode cX0_isProof 18 = .ok (.aload_n 0, 1) := by decide +kernel
theorem dX0_isProof_19 : decode cX0_isProof 19 = .ok (.invokevirtual 105, 3) := by decide +kernel
theorem dX0_isProof_22 : decode cX0_isProof 22 = .ok (.iload_n 3, 1) := by decide +kernel
theorem dX0_isProof_23 : decode cX0_isProof 23 = .ok (.ishr, 1) := by decide +kernel
theorem dX0_isProof_24 : decode cX0_isProof 24 = .ok (.iconst 1, 1) := by decide +kernel
theorem dX0_isProof_25 : decode cX0_isProof 25 = .ok (.iand, 1) := by decide +kernel
theorem dX0_isProof_26 : decode cX0_isProof 26 = .ok (.iconst 1, 1) := by decide +kernel
theorem dX0_isProof_27 : decode cX0_isProof 27 = .ok (.if_icmp .ne 9, 3) := by decide +kernel
theorem dX0_isProof_30 : decode cX0_isProof 30 = .ok (.iload_n 2, 1) := by decide +kernel
theorem dX0_isProof_31 : decode cX0_isProof 31 = .ok (.aload_n 1, 1) := by decide +kernel
theorem dX0_isProof_32 : decode cX0_isProof 32 = .ok (.iload_n 3, 1) := by decide +kernel
theorem dX0_isProof_33 : decode cX0_isProof 33 = .ok (.iaload, 1) := by decide +kernel
theorem dX0_isProof_34 : decode cX0_isProof 34 = .ok (.iadd, 1) := by decide +kernel
theorem dX0_isProof_35 : decode cX0_isProof 35 = .ok (.istore_n 2, 1) := by decide +kernel
theorem dX0_isProof_36 : decode cX0_isProof 36 = .ok (.iinc 3 1, 3) := by decide +kernel
theorem dX0_isProof_39 : decode cX0_isProof 39 = .ok (.goto (-35), 3) := by decide +kernel
theorem dX0_isProof_42 : decode cX0_isProof 42 = .ok (.iload_n 2, 1) := by decide +kernel
theorem dX0_isProof_43 : decode cX0_isProof 43 = .ok (.ifCond .le 26, 3) := by decide +kernel
theorem dX0_isProof_46 : decode cX0_isProof 46 = .ok (.iconst 2, 1) := by decide +kernel
theorem dX0_isProof_47 : decode cX0_isProof 47 = .ok (.aload_n 0, 1) := by decide +kernel
theorem dX0_isProof_48 : decode cX0_isProof 48 = .ok (.aload_n 1, 1) := by decide +kernel
theorem dX0_isProof_49 : decode cX0_isProof 49 = .ok (.invokevirtual 109, 3) := by decide +kernel
theorem dX0_isProof_52 : decode cX0_isProof 52 = .ok (.imul, 1) := by decide +kernel
theorem dX0_isProof_53 : decode cX0_isProof 53 = .ok (.iload_n 2, 1) := by decide +kernel
theorem dX0_isProof_54 : decode cX0_isProof 54 = .ok (.aload_n 0, 1) := by decide +kernel
theorem dX0_isProof_55 : decode cX0_isProof 55 = .ok (.getfield 20, 3) := by decide +kernel
theorem dX0_isProof_58 : decode cX0_isProof 58 = .ok (.getfield 71, 3) := by decide +kernel
theorem dX0_isProof_61 : decode cX0_isProof 61 = .ok (.imul, 1) := by decide +kernel
theorem dX0_isProof_62 : decode cX0_isProof 62 = .ok (.if_icmp .lt 7, 3) := by decide +kernel
theorem dX0_isProof_65 : decode cX0_isProof 65 = .ok (.iconst 1, 1) := by decide +kernel
theorem dX0_isProof_66 : decode cX0_isProof 66 = .ok (.goto 4, 3) := by decide +kernel
theorem dX0_isProof_69 : decode cX0_isProof 69 = .ok (.iconst 0, 1) := by decide +kernel
theorem dX0_isProof_70 : decode cX0_isProof 70 = .ok (.ireturn, 1) := by decide +kernel
theorem dX0_hullOf_0 : decode cX0_hullOf 0 = .ok (.aload_n 0, 1) := by decide +kernel
theorem dX0_hullOf_1 : decode cX0_hullOf 1 = .ok (.invokevirtual 113, 3) := by decide +kernel
theorem dX0_hullOf_4 : decode cX0_hullOf 4 = .ok (.istore_n 2, 1) := by decide +kernel
theorem dX0_hullOf_5 : decode cX0_hullOf 5 = .ok (.iconst 0, 1) := by decide +kernel
theorem dX0_hullOf_6 : decode cX0_hullOf 6 = .ok (.istore_n 3, 1) := by decide +kernel
theorem dX0_hullOf_7 : decode cX0_hullOf 7 = .ok (.iload_n 3, 1) := by decide +kernel
theorem dX0_hullOf_8 : decode cX0_hullOf 8 = .ok (.aload_n 0, 1) := by decide +kernel
theorem dX0_hullOf_9 : decode cX0_hullOf 9 = .ok (.getfield 20, 3) := by decide +kernel
theorem dX0_hullOf_12 : decode cX0_hullOf 12 = .ok (.getfield 71, 3) := by decide +kernel
theorem dX0_hullOf_15 : decode cX0_hullOf 15 = .ok (.if_icmp .ge 32, 3) := by decide +kernel
theorem dX0_hullOf_18 : decode cX0_hullOf 18 = .ok (.aload_n 0, 1) := by decide +kernel
theorem dX0_hullOf_19 : decode cX0_hullOf 19 = .ok (.getfield 20, 3) := by decide +kernel
theorem dX0_hullOf_22 : decode cX0_hullOf 22 = .ok (.iload_n 3, 1) := by decide +kernel
theorem dX0_hullOf_23 : decode cX0_hullOf 23 = .ok (.invokevirtual 74, 3) := by decide +kernel
theorem dX0_hullOf_26 : decode cX0_hullOf 26 = .ok (.istore 4, 2) := by decide +kernel
theorem dX0_hullOf_28 : decode cX0_hullOf 28 = .ok (.iload 4, 2) := by decide +kernel
theorem dX0_hullOf_30 : decode cX0_hullOf 30 = .ok (.iload_n 1, 1) := by decide +kernel
theorem dX0_hullOf_31 : decode cX0_hullOf 31 = .ok (.iand, 1) := by decide +kernel
theorem dX0_hullOf_32 : decode cX0_hullOf 32 = .ok (.iload_n 1, 1) := by decide +kernel
theorem dX0_hullOf_33 : decode cX0_hullOf 33 = .ok (.if_icmp .ne 8, 3) := by decide +kernel
theorem dX0_hullOf_36 : decode cX0_hullOf 36 = .ok (.iload_n 2, 1) := by decide +kernel
theorem dX0_hullOf_37 : decode cX0_hullOf 37 = .ok (.iload 4, 2) := by decide +kernel
theorem dX0_hullOf_39 : decode cX0_hullOf 39 = .ok (.iand, 1) := by decide +kernel
theorem dX0_hullOf_40 : decode cX0_hullOf 40 = .ok (.istore_n 2, 1) := by decide +kernel
theorem dX0_hullOf_41 : decode cX0_hullOf 41 = .ok (.iinc 3 1, 3) := by decide +kernel
theorem dX0_hullOf_44 : decode cX0_hullOf 44 = .ok (.goto (-37), 3) := by decide +kernel
theorem dX0_hullOf_47 : decode cX0_hullOf 47 = .ok (.iload_n 2, 1) := by decide +kernel
theorem dX0_hullOf_48 : decode cX0_hullOf 48 = .ok (.ireturn, 1) := by decide +kernel
theorem dX0_countAround_0 : decode cX0_countAround 0 = .ok (.iconst 0, 1) := by decide +kernel
theorem dX0_countAround_1 : decode cX0_countAround 1 = .ok (.istore_n 2, 1) := by decide +kernel
theorem dX0_countAround_2 : decode cX0_countAround 2 = .ok (.iconst 0, 1) := by decide +kernel
theorem dX0_countAround_3 : decode cX0_countAround 3 = .ok (.istore_n 3, 1) := by decide +kernel
theorem dX0_countAround_4 : decode cX0_countAround 4 = .ok (.iload_n 3, 1) := by decide +kernel
theorem dX0_countAround_5 : decode cX0_countAround 5 = .ok (.aload_n 0, 1) := by decide +kernel
theorem dX0_countAround_6 : decode cX0_countAround 6 = .ok (.getfield 20, 3) := by decide +kernel
theorem dX0_countAround_9 : decode cX0_countAround 9 = .ok (.getfield 71, 3) := by decide +kernel
theorem dX0_countAround_12 : decode cX0_countAround 12 = .ok (.if_icmp .ge 26, 3) := by decide +kernel
theorem dX0_countAround_15 : decode cX0_countAround 15 = .ok (.aload_n 0, 1) := by decide +kernel
theorem dX0_countAround_16 : decode cX0_countAround 16 = .ok (.getfield 20, 3) := by decide +kernel
theorem dX0_countAround_19 : decode cX0_countAround 19 = .ok (.iload_n 3, 1) := by decide +kernel
theorem dX0_countAround_20 : decode cX0_countAround 20 = .ok (.invokevirtual 74, 3) := by decide +kernel
theorem dX0_countAround_23 : decode cX0_countAround 23 = .ok (.iload_n 1, 1) := by decide +kernel
theorem dX0_countAround_24 : decode cX0_countAround 24 = .ok (.iand, 1) := by decide +kernel
theorem dX0_countAround_25 : decode cX0_countAround 25 = .ok (.iload_n 1, 1) := by decide +kernel
theorem dX0_countAround_26 : decode cX0_countAround 26 = .ok (.if_icmp .ne 6, 3) := by decide +kernel
theorem dX0_countAround_29 : decode cX0_countAround 29 = .ok (.iinc 2 1, 3) := by decide +kernel
theorem dX0_countAround_32 : decode cX0_countAround 32 = .ok (.iinc 3 1, 3) := by decide +kernel
theorem dX0_countAround_35 : decode cX0_countAround 35 = .ok (.goto (-31), 3) := by decide +kernel
theorem dX0_countAround_38 : decode cX0_countAround 38 = .ok (.iload_n 2, 1) := by decide +kernel
theorem dX0_countAround_39 : decode cX0_countAround 39 = .ok (.ireturn, 1) := by decide +kernel
theorem dX0_countWithin_0 : decode cX0_countWithin 0 = .ok (.iconst 0, 1) := by decide +kernel
theorem dX0_countWithin_1 : decode cX0_countWithin 1 = .ok (.istore_n 2, 1) := by decide +kernel
theorem dX0_countWithin_2 : decode cX0_countWithin 2 = .ok (.iconst 0, 1) := by decide +kernel
theorem dX0_countWithin_3 : decode cX0_countWithin 3 = .ok (.istore_n 3, 1) := by decide +kernel
theorem dX0_countWithin_4 : decode cX0_countWithin 4 = .ok (.iload_n 3, 1) := by decide +kernel
theorem dX0_countWithin_5 : decode cX0_countWithin 5 = .ok (.aload_n 0, 1) := by decide +kernel
theorem dX0_countWithin_6 : decode cX0_countWithin 6 = .ok (.getfield 20, 3) := by decide +kernel
theorem dX0_countWithin_9 : decode cX0_countWithin 9 = .ok (.getfield 71, 3) := by decide +kernel
theorem dX0_countWithin_12 : decode cX0_countWithin 12 = .ok (.if_icmp .ge 27, 3) := by decide +kernel
theorem dX0_countWithin_15 : decode cX0_countWithin 15 = .ok (.aload_n 0, 1) := by decide +kernel
theorem dX0_countWithin_16 : decode cX0_countWithin 16 = .ok (.getfield 20, 3) := by decide +kernel
theorem dX0_countWithin_19 : decode cX0_countWithin 19 = .ok (.iload_n 3, 1) := by decide +kernel
theorem dX0_countWithin_20 : decode cX0_countWithin 20 = .ok (.invokevirtual 74, 3) := by decide +kernel
theorem dX0_countWithin_23 : decode cX0_countWithin 23 = .ok (.iload_n 1, 1) := by decide +kernel
theorem dX0_countWithin_24 : decode cX0_countWithin 24 = .ok (.iconst (-1), 1) := by decide +kernel
theorem dX0_countWithin_25 : decode cX0_countWithin 25 = .ok (.ixor, 1) := by decide +kernel
theorem dX0_countWithin_26 : decode cX0_countWithin 26 = .ok (.iand, 1) := by decide +kernel
theorem dX0_countWithin_27 : decode cX0_countWithin 27 = .ok (.ifCond .ne 6, 3) := by decide +kernel
theorem dX0_countWithin_30 : decode cX0_countWithin 30 = .ok (.iinc 2 1, 3) := by decide +kernel
theorem dX0_countWithin_33 : decode cX0_countWithin 33 = .ok (.iinc 3 1, 3) := by decide +kernel
theorem dX0_countWithin_36 : decode cX0_countWithin 36 = .ok (.goto (-32), 3) := by decide +kernel
theorem dX0_countWithin_39 : decode cX0_countWithin 39 = .ok (.iload_n 2, 1) := by decide +kernel
theorem dX0_countWithin_40 : decode cX0_countWithin 40 = .ok (.ireturn, 1) := by decide +kernel
theorem dX0_isInPart_0 : decode cX0_isInPart 0 = .ok (.aload_n 0, 1) := by decide +kernel
theorem dX0_isInPart_1 : decode cX0_isInPart 1 = .ok (.getfield 20, 3) := by decide +kernel
theorem dX0_isInPart_4 : decode cX0_isInPart 4 = .ok (.iload_n 1, 1) := by decide +kernel
theorem dX0_isInPart_5 : decode cX0_isInPart 5 = .ok (.invokevirtual 74, 3) := by decide +kernel
theorem dX0_isInPart_8 : decode cX0_isInPart 8 = .ok (.iload_n 2, 1) := by decide +kernel
theorem dX0_isInPart_9 : decode cX0_isInPart 9 = .ok (.ishr, 1) := by decide +kernel
theorem dX0_isInPart_10 : decode cX0_isInPart 10 = .ok (.iconst 1, 1) := by decide +kernel
theorem dX0_isInPart_11 : decode cX0_isInPart 11 = .ok (.iand, 1) := by decide +kernel
theorem dX0_isInPart_12 : decode cX0_isInPart 12 = .ok (.iconst 1, 1) := by decide +kernel
theorem dX0_isInPart_13 : decode cX0_isInPart 13 = .ok (.if_icmp .ne 7, 3) := by decide +kernel
theorem dX0_isInPart_16 : decode cX0_isInPart 16 = .ok (.iconst 1, 1) := by decide +kernel
theorem dX0_isInPart_17 : decode cX0_isInPart 17 = .ok (.goto 4, 3) := by decide +kernel
theorem dX0_isInPart_20 : decode cX0_isInPart 20 = .ok (.iconst 0, 1) := by decide +kernel
theorem dX0_isInPart_21 : decode cX0_isInPart 21 = .ok (.iload_n 3, 1) := by decide +kernel
theorem dX0_isInPart_22 : decode cX0_isInPart 22 = .ok (.if_icmp .ne 7, 3) := by decide +kernel
theorem dX0_isInPart_25 : decode cX0_isInPart 25 = .ok (.iconst 1, 1) := by decide +kernel
theorem dX0_isInPart_26 : decode cX0_isInPart 26 = .ok (.goto 4, 3) := by decide +kernel
theorem dX0_isInPart_29 : decode cX0_isInPart 29 = .ok (.iconst 0, 1) := by decide +kernel
theorem dX0_isInPart_30 : decode cX0_isInPart 30 = .ok (.ireturn, 1) := by decide +kernel
theorem dX0_countPart_0 : decode cX0_countPart 0 = .ok (.iload_n 2, 1) := by decide +kernel
theorem dX0_countPart_1 : decode cX0_countPart 1 = .ok (.ifCond .eq 11, 3) := by decide +kernel
theorem dX0_countPart_4 : decode cX0_countPart 4 = .ok (.aload_n 0, 1) := by decide +kernel
theorem dX0_countPart_5 : decode cX0_countPart 5 = .ok (.iload_n 1, 1) := by decide +kernel
theorem dX0_countPart_6 : decode cX0_countPart 6 = .ok (.invokevirtual 95, 3) := by decide +kernel
theorem dX0_countPart_9 : decode cX0_countPart 9 = .ok (.goto 16, 3) := by decide +kernel
theorem dX0_countPart_12 : decode cX0_countPart 12 = .ok (.aload_n 0, 1) := by decide +kernel
theorem dX0_countPart_13 : decode cX0_countPart 13 = .ok (.getfield 20, 3) := by decide +kernel
theorem dX0_countPart_16 : decode cX0_countPart 16 = .ok (.getfield 71, 3) := by decide +kernel
theorem dX0_countPart_19 : decode cX0_countPart 19 = .ok (.aload_n 0, 1) := by decide +kernel
theorem dX0_countPart_20 : decode cX0_countPart 20 = .ok (.iload_n 1, 1) := by decide +kernel
theorem dX0_countPart_21 : decode cX0_countPart 21 = .ok (.invokevirtual 95, 3) := by decide +kernel
theorem dX0_countPart_24 : decode cX0_countPart 24 = .ok (.isub, 1) := by decide +kernel
theorem dX0_countPart_25 : decode cX0_countPart 25 = .ok (.ireturn, 1) := by decide +kernel
theorem dX0_unionOfPart_0 : decode cX0_unionOfPart 0 = .ok (.iconst 0, 1) := by decide +kernel
theorem dX0_unionOfPart_1 : decode cX0_unionOfPart 1 = .ok (.istore_n 3, 1) := by decide +kernel
theorem dX0_unionOfPart_2 : decode cX0_unionOfPart 2 = .ok (.iconst 0, 1) := by decide +kernel
theorem dX0_unionOfPart_3 : decode cX0_unionOfPart 3 = .ok (.istore 4, 2) := by decide +kernel
theorem dX0_unionOfPart_5 : decode cX0_unionOfPart 5 = .ok (.iload 4, 2) := by decide +kernel
theorem dX0_unionOfPart_7 : decode cX0_unionOfPart 7 = .ok (.aload_n 0, 1) := by decide +kernel
theorem dX0_unionOfPart_8 : decode cX0_unionOfPart 8 = .ok (.getfield 20, 3) := by decide +kernel
theorem dX0_unionOfPart_11 : decode cX0_unionOfPart 11 = .ok (.getfield 71, 3) := by decide +kernel
theorem dX0_unionOfPart_14 : decode cX0_unionOfPart 14 = .ok (.if_icmp .ge 32, 3) := by decide +kernel
theorem dX0_unionOfPart_17 : decode cX0_unionOfPart 17 = .ok (.aload_n 0, 1) := by decide +kernel
theorem dX0_unionOfPart_18 : decode cX0_unionOfPart 18 = .ok (.iload 4, 2) := by decide +kernel
theorem dX0_unionOfPart_20 : decode cX0_unionOfPart 20 = .ok (.iload_n 1, 1) := by decide +kernel
theorem dX0_unionOfPart_21 : decode cX0_unionOfPart 21 = .ok (.iload_n 2, 1) := by decide +kernel
theorem dX0_unionOfPart_22 : decode cX0_unionOfPart 22 = .ok (.invokevirtual 116, 3) := by decide +kernel
theorem dX0_unionOfPart_25 : decode cX0_unionOfPart 25 = .ok (.ifCond .eq 15, 3) := by decide +kernel
theorem dX0_unionOfPart_28 : decode cX0_unionOfPart 28 = .ok (.iload_n 3, 1) := by decide +kernel
theorem dX0_unionOfPart_29 : decode cX0_unionOfPart 29 = .ok (.aload_n 0, 1) := by decide +kernel
theorem dX0_unionOfPart_30 : decode cX0_unionOfPart 30 = .ok (.getfield 20, 3) := by decide +kernel
theorem dX0_unionOfPart_33 : decode cX0_unionOfPart 33 = .ok (.iload 4, 2) := by decide +kernel
theorem dX0_unionOfPart_35 : decode cX0_unionOfPart 35 = .ok (.invokevirtual 74, 3) := by decide +kernel
theorem dX0_unionOfPart_38 : decode cX0_unionOfPart 38 = .ok (.ior, 1) := by decide +kernel
theorem dX0_unionOfPart_39 : decode cX0_unionOfPart 39 = .ok (.istore_n 3, 1) := by decide +kernel
theorem dX0_unionOfPart_40 : decode cX0_unionOfPart 40 = .ok (.iinc 4 1, 3) := by decide +kernel
theorem dX0_unionOfPart_43 : decode cX0_unionOfPart 43 = .ok (.goto (-38), 3) := by decide +kernel
theorem dX0_unionOfPart_46 : decode cX0_unionOfPart 46 = .ok (.aload_n 0, 1) := by decide +kernel
theorem dX0_unionOfPart_47 : decode cX0_unionOfPart 47 = .ok (.iload_n 1, 1) := by decide +kernel
theorem dX0_unionOfPart_48 : decode cX0_unionOfPart 48 = .ok (.iload_n 2, 1) := by decide +kernel
theorem dX0_unionOfPart_49 : decode cX0_unionOfPart 49 = .ok (.invokevirtual 120, 3) := by decide +kernel
theorem dX0_unionOfPart_52 : decode cX0_unionOfPart 52 = .ok (.ifCond .ne 8, 3) := by decide +kernel
theorem dX0_unionOfPart_55 : decode cX0_unionOfPart 55 = .ok (.bipush (-2), 2) := by decide +kernel
theorem dX0_unionOfPart_57 : decode cX0_unionOfPart 57 = .ok (.goto 4, 3) := by decide +kernel
theorem dX0_unionOfPart_60 : decode cX0_unionOfPart 60 = .ok (.iload_n 3, 1) := by decide +kernel
theorem dX0_unionOfPart_61 : decode cX0_unionOfPart 61 = .ok (.ireturn, 1) := by decide +kernel
theorem dX0_commonOfPart_0 : decode cX0_commonOfPart 0 = .ok (.aload_n 0, 1) := by decide +kernel
theorem dX0_commonOfPart_1 : decode cX0_commonOfPart 1 = .ok (.invokevirtual 113, 3) := by decide +kernel
theorem dX0_commonOfPart_4 : decode cX0_commonOfPart 4 = .ok (.istore_n 3, 1) := by decide +kernel
theorem dX0_commonOfPart_5 : decode cX0_commonOfPart 5 = .ok (.iconst 0, 1) := by decide +kernel
theorem dX0_commonOfPart_6 : decode cX0_commonOfPart 6 = .ok (.istore 4, 2) := by decide +kernel
theorem dX0_commonOfPart_8 : decode cX0_commonOfPart 8 = .ok (.iload 4, 2) := by decide +kernel
theorem dX0_commonOfPart_10 : decode cX0_commonOfPart 10 = .ok (.aload_n 0, 1) := by decide +kernel
theorem dX0_commonOfPart_11 : decode cX0_commonOfPart 11 = .ok (.getfield 20, 3) := by decide +kernel
theorem dX0_commonOfPart_14 : decode cX0_commonOfPart 14 = .ok (.getfield 71, 3) := by decide +kernel
theorem dX0_commonOfPart_17 : decode cX0_commonOfPart 17 = .ok (.if_icmp .ge 32, 3) := by decide +kernel
theorem dX0_commonOfPart_20 : decode cX0_commonOfPart 20 = .ok (.aload_n 0, 1) := by decide +kernel
theorem dX0_commonOfPart_21 : decode cX0_commonOfPart 21 = .ok (.iload 4, 2) := by decide +kernel
theorem dX0_commonOfPart_23 : decode cX0_commonOfPart 23 = .ok (.iload_n 1, 1) := by decide +kernel
theorem dX0_commonOfPart_24 : decode cX0_commonOfPart 24 = .ok (.iload_n 2, 1) := by decide +kernel
theorem dX0_commonOfPart_25 : decode cX0_commonOfPart 25 = .ok (.invokevirtual 116, 3) := by decide +kernel
theorem dX0_commonOfPart_28 : decode cX0_commonOfPart 28 = .ok (.ifCond .eq 15, 3) := by decide +kernel
theorem dX0_commonOfPart_31 : decode cX0_commonOfPart 31 = .ok (.iload_n 3, 1) := by decide +kernel
theorem dX0_commonOfPart_32 : decode cX0_commonOfPart 32 = .ok (.aload_n 0, 1) := by decide +kernel
theorem dX0_commonOfPart_33 : decode cX0_commonOfPart 33 = .ok (.getfield 20, 3) := by decide +kernel
theorem dX0_commonOfPart_36 : decode cX0_commonOfPart 36 = .ok (.iload 4, 2) := by decide +kernel
theorem dX0_commonOfPart_38 : decode cX0_commonOfPart 38 = .ok (.invokevirtual 74, 3) := by decide +kernel
theorem dX0_commonOfPart_41 : decode cX0_commonOfPart 41 = .ok (.iand, 1) := by decide +kernel
theorem dX0_commonOfPart_42 : decode cX0_commonOfPart 42 = .ok (.istore_n 3, 1) := by decide +kernel
theorem dX0_commonOfPart_43 : decode cX0_commonOfPart 43 = .ok (.iinc 4 1, 3) := by decide +kernel
theorem dX0_commonOfPart_46 : decode cX0_commonOfPart 46 = .ok (.goto (-38), 3) := by decide +kernel
theorem dX0_commonOfPart_49 : decode cX0_commonOfPart 49 = .ok (.aload_n 0, 1) := by decide +kernel
theorem dX0_commonOfPart_50 : decode cX0_commonOfPart 50 = .ok (.iload_n 1, 1) := by decide +kernel
theorem dX0_commonOfPart_51 : decode cX0_commonOfPart 51 = .ok (.iload_n 2, 1) := by decide +kernel
theorem dX0_commonOfPart_52 : decode cX0_commonOfPart 52 = .ok (.invokevirtual 120, 3) := by decide +kernel
theorem dX0_commonOfPart_55 : decode cX0_commonOfPart 55 = .ok (.ifCond .ne 8, 3) := by decide +kernel
theorem dX0_commonOfPart_58 : decode cX0_commonOfPart 58 = .ok (.bipush (-2), 2) := by decide +kernel
theorem dX0_commonOfPart_60 : decode cX0_commonOfPart 60 = .ok (.goto 4, 3) := by decide +kernel
theorem dX0_commonOfPart_63 : decode cX0_commonOfPart 63 = .ok (.iload_n 3, 1) := by decide +kernel
theorem dX0_commonOfPart_64 : decode cX0_commonOfPart 64 = .ok (.ireturn, 1) := by decide +kernel
theorem dX0_isPartClosed_0 : decode cX0_isPartClosed 0 = .ok (.iconst 0, 1) := by decide +kernel
theorem dX0_isPartClosed_1 : decode cX0_isPartClosed 1 = .ok (.istore_n 3, 1) := by decide +kernel
theorem dX0_isPartClosed_2 : decode cX0_isPartClosed 2 = .ok (.iload_n 3, 1) := by decide +kernel
theorem dX0_isPartClosed_3 : decode cX0_isPartClosed 3 = .ok (.aload_n 0, 1) := by decide +kernel
theorem dX0_isPartClosed_4 : decode cX0_isPartClosed 4 = .ok (.getfield 20, 3) := by decide +kernel
theorem dX0_isPartClosed_7 : decode cX0_isPartClosed 7 = .ok (.getfield 71, 3) := by decide +kernel
theorem dX0_isPartClosed_10 : decode cX0_isPartClosed 10 = .ok (.if_icmp .ge 98, 3) := by decide +kernel
theorem dX0_isPartClosed_13 : decode cX0_isPartClosed 13 = .ok (.iload_n 3, 1) := by decide +kernel
theorem dX0_isPartClosed_14 : decode cX0_isPartClosed 14 = .ok (.iconst 1, 1) := by decide +kernel
theorem dX0_isPartClosed_15 : decode cX0_isPartClosed 15 = .ok (.iadd, 1) := by decide +kernel
theorem dX0_isPartClosed_16 : decode cX0_isPartClosed 16 = .ok (.istore 4, 2) := by decide +kernel
theorem dX0_isPartClosed_18 : decode cX0_isPartClosed 18 = .ok (.iload 4, 2) := by decide +kernel
theorem dX0_isPartClosed_20 : decode cX0_isPartClosed 20 = .ok (.aload_n 0, 1) := by decide +kernel
theorem dX0_isPartClosed_21 : decode cX0_isPartClosed 21 = .ok (.getfield 20, 3) := by decide +kernel
theorem dX0_isPartClosed_24 : decode cX0_isPartClosed 24 = .ok (.getfield 71, 3) := by decide +kernel
theorem dX0_isPartClosed_27 : decode cX0_isPartClosed 27 = .ok (.if_icmp .ge 75, 3) := by decide +kernel
theorem dX0_isPartClosed_30 : decode cX0_isPartClosed 30 = .ok (.aload_n 0, 1) := by decide +kernel
theorem dX0_isPartClosed_31 : decode cX0_isPartClosed 31 = .ok (.iload_n 3, 1) := by decide +kernel
theorem dX0_isPartClosed_32 : decode cX0_isPartClosed 32 = .ok (.iload_n 1, 1) := by decide +kernel
theorem dX0_isPartClosed_33 : decode cX0_isPartClosed 33 = .ok (.iload_n 2, 1) := by decide +kernel
theorem dX0_isPartClosed_34 : decode cX0_isPartClosed 34 = .ok (.invokevirtual 116, 3) := by decide +kernel
theorem dX0_isPartClosed_37 : decode cX0_isPartClosed 37 = .ok (.ifCond .eq 18, 3) := by decide +kernel
theorem dX0_isPartClosed_40 : decode cX0_isPartClosed 40 = .ok (.aload_n 0, 1) := by decide +kernel
theorem dX0_isPartClosed_41 : decode cX0_isPartClosed 41 = .ok (.iload 4, 2) := by decide +kernel
theorem dX0_isPartClosed_43 : decode cX0_isPartClosed 43 = .ok (.iload_n 1, 1) := by decide +kernel
theorem dX0_isPartClosed_44 : decode cX0_isPartClosed 44 = .ok (.iload_n 2, 1) := by decide +kernel
theorem dX0_isPartClosed_45 : decode cX0_isPartClosed 45 = .ok (.invokevirtual 116, 3) := by decide +kernel
theorem dX0_isPartClosed_48 : decode cX0_isPartClosed 48 = .ok (.ifCond .eq 7, 3) := by decide +kernel
theorem dX0_isPartClosed_51 : decode cX0_isPartClosed 51 = .ok (.iconst 1, 1) := by decide +kernel
theorem dX0_isPartClosed_52 : decode cX0_isPartClosed 52 = .ok (.goto 4, 3) := by decide +kernel
theorem dX0_isPartClosed_55 : decode cX0_isPartClosed 55 = .ok (.iconst 0, 1) := by decide +kernel
theorem dX0_isPartClosed_56 : decode cX0_isPartClosed 56 = .ok (.istore 5, 2) := by decide +kernel
theorem dX0_isPartClosed_58 : decode cX0_isPartClosed 58 = .ok (.iload 5, 2) := by decide +kernel
theorem dX0_isPartClosed_60 : decode cX0_isPartClosed 60 = .ok (.ifCond .eq 36, 3) := by decide +kernel
theorem dX0_isPartClosed_63 : decode cX0_isPartClosed 63 = .ok (.aload_n 0, 1) := by decide +kernel
theorem dX0_isPartClosed_64 : decode cX0_isPartClosed 64 = .ok (.aload_n 0, 1) := by decide +kernel
theorem dX0_isPartClosed_65 : decode cX0_isPartClosed 65 = .ok (.aload_n 0, 1) := by decide +kernel
theorem dX0_isPartClosed_66 : decode cX0_isPartClosed 66 = .ok (.getfield 20, 3) := by decide +kernel
theorem dX0_isPartClosed_69 : decode cX0_isPartClosed 69 = .ok (.iload_n 3, 1) := by decide +kernel
theorem dX0_isPartClosed_70 : decode cX0_isPartClosed 70 = .ok (.invokevirtual 74, 3) := by decide +kernel
theorem dX0_isPartClosed_73 : decode cX0_isPartClosed 73 = .ok (.aload_n 0, 1) := by decide +kernel
theorem dX0_isPartClosed_74 : decode cX0_isPartClosed 74 = .ok (.getfield 20, 3) := by decide +kernel
theorem dX0_isPartClosed_77 : decode cX0_isPartClosed 77 = .ok (.iload 4, 2) := by decide +kernel
theorem dX0_isPartClosed_79 : decode cX0_isPartClosed 79 = .ok (.invokevirtual 74, 3) := by decide +kernel
theorem dX0_isPartClosed_82 : decode cX0_isPartClosed 82 = .ok (.ior, 1) := by decide +kernel
theorem dX0_isPartClosed_83 : decode cX0_isPartClosed 83 = .ok (.invokevirtual 86, 3) := by decide +kernel
theorem dX0_isPartClosed_86 : decode cX0_isPartClosed 86 = .ok (.iload_n 1, 1) := by decide +kernel
theorem dX0_isPartClosed_87 : decode cX0_isPartClosed 87 = .ok (.iload_n 2, 1) := by decide +kernel
theorem dX0_isPartClosed_88 : decode cX0_isPartClosed 88 = .ok (.invokevirtual 116, 3) := by decide +kernel
theorem dX0_isPartClosed_91 : decode cX0_isPartClosed 91 = .ok (.ifCond .ne 5, 3) := by decide +kernel
theorem dX0_isPartClosed_94 : decode cX0_isPartClosed 94 = .ok (.iconst 0, 1) := by decide +kernel
theorem dX0_isPartClosed_95 : decode cX0_isPartClosed 95 = .ok (.ireturn, 1) := by decide +kernel
theorem dX0_isPartClosed_96 : decode cX0_isPartClosed 96 = .ok (.iinc 4 1, 3) := by decide +kernel
theorem dX0_isPartClosed_99 : decode cX0_isPartClosed 99 = .ok (.goto (-81), 3) := by decide +kernel
theorem dX0_isPartClosed_102 : decode cX0_isPartClosed 102 = .ok (.iinc 3 1, 3) := by decide +kernel
theorem dX0_isPartClosed_105 : decode cX0_isPartClosed 105 = .ok (.goto (-103), 3) := by decide +kernel
theorem dX0_isPartClosed_108 : decode cX0_isPartClosed 108 = .ok (.iconst 1, 1) := by decide +kernel
theorem dX0_isPartClosed_109 : decode cX0_isPartClosed 109 = .ok (.ireturn, 1) := by decide +kernel
theorem dX0_isCover_0 : decode cX0_isCover 0 = .ok (.iload_n 1, 1) := by decide +kernel
theorem dX0_isCover_1 : decode cX0_isCover 1 = .ok (.iload_n 2, 1) := by decide +kernel
theorem dX0_isCover_2 : decode cX0_isCover 2 = .ok (.if_icmp .eq 10, 3) := by decide +kernel
theorem dX0_isCover_5 : decode cX0_isCover 5 = .ok (.iload_n 1, 1) := by decide +kernel
theorem dX0_isCover_6 : decode cX0_isCover 6 = .ok (.iload_n 2, 1) := by decide +kernel
theorem dX0_isCover_7 : decode cX0_isCover 7 = .ok (.iand, 1) := by decide +kernel
theorem dX0_isCover_8 : decode cX0_isCover 8 = .ok (.iload_n 2, 1) := by decide +kernel
theorem dX0_isCover_9 : decode cX0_isCover 9 = .ok (.if_icmp .eq 5, 3) := by decide +kernel
theorem dX0_isCover_12 : decode cX0_isCover 12 = .ok (.iconst 0, 1) := by decide +kernel
theorem dX0_isCover_13 : decode cX0_isCover 13 = .ok (.ireturn, 1) := by decide +kernel
theorem dX0_isCover_14 : decode cX0_isCover 14 = .ok (.iconst 0, 1) := by decide +kernel
theorem dX0_isCover_15 : decode cX0_isCover 15 = .ok (.istore_n 3, 1) := by decide +kernel
theorem dX0_isCover_16 : decode cX0_isCover 16 = .ok (.iload_n 3, 1) := by decide +kernel
theorem dX0_isCover_17 : decode cX0_isCover 17 = .ok (.aload_n 0, 1) := by decide +kernel
theorem dX0_isCover_18 : decode cX0_isCover 18 = .ok (.getfield 24, 3) := by decide +kernel
theorem dX0_isCover_21 : decode cX0_isCover 21 = .ok (.getfield 71, 3) := by decide +kernel
theorem dX0_isCover_24 : decode cX0_isCover 24 = .ok (.if_icmp .ge 59, 3) := by decide +kernel
theorem dX0_isCover_27 : decode cX0_isCover 27 = .ok (.aload_n 0, 1) := by decide +kernel
theorem dX0_isCover_28 : decode cX0_isCover 28 = .ok (.getfield 24, 3) := by decide +kernel
theorem dX0_isCover_31 : decode cX0_isCover 31 = .ok (.iload_n 3, 1) := by decide +kernel
theorem dX0_isCover_32 : decode cX0_isCover 32 = .ok (.invokevirtual 74, 3) := by decide +kernel
theorem dX0_isCover_35 : decode cX0_isCover 35 = .ok (.istore 4, 2) := by decide +kernel
theorem dX0_isCover_37 : decode cX0_isCover 37 = .ok (.iload 4, 2) := by decide +kernel
theorem dX0_isCover_39 : decode cX0_isCover 39 = .ok (.iload_n 1, 1) := by decide +kernel
theorem dX0_isCover_40 : decode cX0_isCover 40 = .ok (.iconst (-1), 1) := by decide +kernel
theorem dX0_isCover_41 : decode cX0_isCover 41 = .ok (.ixor, 1) := by decide +kernel
theorem dX0_isCover_42 : decode cX0_isCover 42 = .ok (.iand, 1) := by decide +kernel
theorem dX0_isCover_43 : decode cX0_isCover 43 = .ok (.ifCond .ne 16, 3) := by decide +kernel
theorem dX0_isCover_46 : decode cX0_isCover 46 = .ok (.iload 4, 2) := by decide +kernel
theorem dX0_isCover_48 : decode cX0_isCover 48 = .ok (.iload_n 2, 1) := by decide +kernel
theorem dX0_isCover_49 : decode cX0_isCover 49 = .ok (.iconst (-1), 1) := by decide +kernel
theorem dX0_isCover_50 : decode cX0_isCover 50 = .ok (.ixor, 1) := by decide +kernel
theorem dX0_isCover_51 : decode cX0_isCover 51 = .ok (.iand, 1) := by decide +kernel
theorem dX0_isCover_52 : decode cX0_isCover 52 = .ok (.ifCond .eq 7, 3) := by decide +kernel
theorem dX0_isCover_55 : decode cX0_isCover 55 = .ok (.iconst 1, 1) := by decide +kernel
theorem dX0_isCover_56 : decode cX0_isCover 56 = .ok (.goto 4, 3) := by decide +kernel
theorem dX0_isCover_59 : decode cX0_isCover 59 = .ok (.iconst 0, 1) := by decide +kernel
theorem dX0_isCover_60 : decode cX0_isCover 60 = .ok (.istore 5, 2) := by decide +kernel
theorem dX0_isCover_62 : decode cX0_isCover 62 = .ok (.iload 5, 2) := by decide +kernel
theorem dX0_isCover_64 : decode cX0_isCover 64 = .ok (.ifCond .eq 13, 3) := by decide +kernel
theorem dX0_isCover_67 : decode cX0_isCover 67 = .ok (.iload_n 2, 1) := by decide +kernel
theorem dX0_isCover_68 : decode cX0_isCover 68 = .ok (.iload 4, 2) := by decide +kernel
theorem dX0_isCover_70 : decode cX0_isCover 70 = .ok (.ior, 1) := by decide +kernel
theorem dX0_isCover_71 : decode cX0_isCover 71 = .ok (.iload_n 1, 1) := by decide +kernel
theorem dX0_isCover_72 : decode cX0_isCover 72 = .ok (.if_icmp .eq 5, 3) := by decide +kernel
theorem dX0_isCover_75 : decode cX0_isCover 75 = .ok (.iconst 0, 1) := by decide +kernel
theorem dX0_isCover_76 : decode cX0_isCover 76 = .ok (.ireturn, 1) := by decide +kernel
theorem dX0_isCover_77 : decode cX0_isCover 77 = .ok (.iinc 3 1, 3) := by decide +kernel
theorem dX0_isCover_80 : decode cX0_isCover 80 = .ok (.goto (-64), 3) := by decide +kernel
theorem dX0_isCover_83 : decode cX0_isCover 83 = .ok (.iconst 1, 1) := by decide +kernel
theorem dX0_isCover_84 : decode cX0_isCover 84 = .ok (.ireturn, 1) := by decide +kernel
theorem dX0_sharesOut_0 : decode cX0_sharesOut 0 = .ok (.aload_n 0, 1) := by decide +kernel
theorem dX0_sharesOut_1 : decode cX0_sharesOut 1 = .ok (.iload_n 1, 1) := by decide +kernel
theorem dX0_sharesOut_2 : decode cX0_sharesOut 2 = .ok (.iload_n 2, 1) := by decide +kernel
theorem dX0_sharesOut_3 : decode cX0_sharesOut 3 = .ok (.iload_n 3, 1) := by decide +kernel
theorem dX0_sharesOut_4 : decode cX0_sharesOut 4 = .ok (.ior, 1) := by decide +kernel
theorem dX0_sharesOut_5 : decode cX0_sharesOut 5 = .ok (.iand, 1) := by decide +kernel
theorem dX0_sharesOut_6 : decode cX0_sharesOut 6 = .ok (.invokevirtual 124, 3) := by decide +kernel
theorem dX0_sharesOut_9 : decode cX0_sharesOut 9 = .ok (.aload_n 0, 1) := by decide +kernel
theorem dX0_sharesOut_10 : decode cX0_sharesOut 10 = .ok (.iload_n 1, 1) := by decide +kernel
theorem dX0_sharesOut_11 : decode cX0_sharesOut 11 = .ok (.iload_n 2, 1) := by decide +kernel
theorem dX0_sharesOut_12 : decode cX0_sharesOut 12 = .ok (.iand, 1) := by decide +kernel
theorem dX0_sharesOut_13 : decode cX0_sharesOut 13 = .ok (.invokevirtual 124, 3) := by decide +kernel
theorem dX0_sharesOut_16 : decode cX0_sharesOut 16 = .ok (.aload_n 0, 1) := by decide +kernel
theorem dX0_sharesOut_17 : decode cX0_sharesOut 17 = .ok (.iload_n 1, 1) := by decide +kernel
theorem dX0_sharesOut_18 : decode cX0_sharesOut 18 = .ok (.iload_n 3, 1) := by decide +kernel
theorem dX0_sharesOut_19 : decode cX0_sharesOut 19 = .ok (.iand, 1) := by decide +kernel
theorem dX0_sharesOut_20 : decode cX0_sharesOut 20 = .ok (.invokevirtual 124, 3) := by decide +kernel
theorem dX0_sharesOut_23 : decode cX0_sharesOut 23 = .ok (.ior, 1) := by decide +kernel
theorem dX0_sharesOut_24 : decode cX0_sharesOut 24 = .ok (.if_icmp .ne 7, 3) := by decide +kernel
theorem dX0_sharesOut_27 : decode cX0_sharesOut 27 = .ok (.iconst 1, 1) := by decide +kernel
theorem dX0_sharesOut_28 : decode cX0_sharesOut 28 = .ok (.goto 4, 3) := by decide +kernel
theorem dX0_sharesOut_31 : decode cX0_sharesOut 31 = .ok (.iconst 0, 1) := by decide +kernel
theorem dX0_sharesOut_32 : decode cX0_sharesOut 32 = .ok (.ireturn, 1) := by decide +kernel
theorem dX0_hasAllIntersections_0 : decode cX0_hasAllIntersections 0 = .ok (.iconst 0, 1) := by decide +kernel
theorem dX0_hasAllIntersections_1 : decode cX0_hasAllIntersections 1 = .ok (.istore_n 1, 1) := by decide +kernel
theorem dX0_hasAllIntersections_2 : decode cX0_hasAllIntersections 2 = .ok (.iload_n 1, 1) := by decide +kernel
theorem dX0_hasAllIntersections_3 : decode cX0_hasAllIntersections 3 = .ok (.aload_n 0, 1) := by decide +kernel
theorem dX0_hasAllIntersections_4 : decode cX0_hasAllIntersections 4 = .ok (.getfield 20, 3) := by decide +kernel
theorem dX0_hasAllIntersections_7 : decode cX0_hasAllIntersections 7 = .ok (.getfield 71, 3) := by decide +kernel
theorem dX0_hasAllIntersections_10 : decode cX0_hasAllIntersections 10 = .ok (.if_icmp .ge 56, 3) := by decide +kernel
theorem dX0_hasAllIntersections_13 : decode cX0_hasAllIntersections 13 = .ok (.iload_n 1, 1) := by decide +kernel
theorem dX0_hasAllIntersections_14 : decode cX0_hasAllIntersections 14 = .ok (.iconst 1, 1) := by decide +kernel
theorem dX0_hasAllIntersections_15 : decode cX0_hasAllIntersections 15 = .ok (.iadd, 1) := by decide +kernel
theorem dX0_hasAllIntersections_16 : decode cX0_hasAllIntersections 16 = .ok (.istore_n 2, 1) := by decide +kernel
theorem dX0_hasAllIntersections_17 : decode cX0_hasAllIntersections 17 = .ok (.iload_n 2, 1) := by decide +kernel
theorem dX0_hasAllIntersections_18 : decode cX0_hasAllIntersections 18 = .ok (.aload_n 0, 1) := by decide +kernel
theorem dX0_hasAllIntersections_19 : decode cX0_hasAllIntersections 19 = .ok (.getfield 20, 3) := by decide +kernel
theorem dX0_hasAllIntersections_22 : decode cX0_hasAllIntersections 22 = .ok (.getfield 71, 3) := by decide +kernel
theorem dX0_hasAllIntersections_25 : decode cX0_hasAllIntersections 25 = .ok (.if_icmp .ge 35, 3) := by decide +kernel
theorem dX0_hasAllIntersections_28 : decode cX0_hasAllIntersections 28 = .ok (.aload_n 0, 1) := by decide +kernel
theorem dX0_hasAllIntersections_29 : decode cX0_hasAllIntersections 29 = .ok (.aload_n 0, 1) := by decide +kernel
theorem dX0_hasAllIntersections_30 : decode cX0_hasAllIntersections 30 = .ok (.getfield 20, 3) := by decide +kernel
theorem dX0_hasAllIntersections_33 : decode cX0_hasAllIntersections 33 = .ok (.iload_n 1, 1) := by decide +kernel
theorem dX0_hasAllIntersections_34 : decode cX0_hasAllIntersections 34 = .ok (.invokevirtual 74, 3) := by decide +kernel
theorem dX0_hasAllIntersections_37 : decode cX0_hasAllIntersections 37 = .ok (.aload_n 0, 1) := by decide +kernel
theorem dX0_hasAllIntersections_38 : decode cX0_hasAllIntersections 38 = .ok (.getfield 20, 3) := by decide +kernel
theorem dX0_hasAllIntersections_41 : decode cX0_hasAllIntersections 41 = .ok (.iload_n 2, 1) := by decide +kernel
theorem dX0_hasAllIntersections_42 : decode cX0_hasAllIntersections 42 = .ok (.invokevirtual 74, 3) := by decide +kernel
theorem dX0_hasAllIntersections_45 : decode cX0_hasAllIntersections 45 = .ok (.iand, 1) := by decide +kernel
theorem dX0_hasAllIntersections_46 : decode cX0_hasAllIntersections 46 = .ok (.invokevirtual 86, 3) := by decide +kernel
theorem dX0_hasAllIntersections_49 : decode cX0_hasAllIntersections 49 = .ok (.ifCond .ge 5, 3) := by decide +kernel
theorem dX0_hasAllIntersections_52 : decode cX0_hasAllIntersections 52 = .ok (.iconst 0, 1) := by decide +kernel
theorem dX0_hasAllIntersections_53 : decode cX0_hasAllIntersections 53 = .ok (.ireturn, 1) := by decide +kernel
theorem dX0_hasAllIntersections_54 : decode cX0_hasAllIntersections 54 = .ok (.iinc 2 1, 3) := by decide +kernel
theorem dX0_hasAllIntersections_57 : decode cX0_hasAllIntersections 57 = .ok (.goto (-40), 3) := by decide +kernel
theorem dX0_hasAllIntersections_60 : decode cX0_hasAllIntersections 60 = .ok (.iinc 1 1, 3) := by decide +kernel
theorem dX0_hasAllIntersections_63 : decode cX0_hasAllIntersections 63 = .ok (.goto (-61), 3) := by decide +kernel
theorem dX0_hasAllIntersections_66 : decode cX0_hasAllIntersections 66 = .ok (.iconst 1, 1) := by decide +kernel
theorem dX0_hasAllIntersections_67 : decode cX0_hasAllIntersections 67 = .ok (.ireturn, 1) := by decide +kernel
theorem dX0_countParts_0 : decode cX0_countParts 0 = .ok (.aload_n 0, 1) := by decide +kernel
theorem dX0_countParts_1 : decode cX0_countParts 1 = .ok (.invokevirtual 105, 3) := by decide +kernel
theorem dX0_countParts_4 : decode cX0_countParts 4 = .ok (.istore_n 1, 1) := by decide +kernel
theorem dX0_countParts_5 : decode cX0_countParts 5 = .ok (.iconst 0, 1) := by decide +kernel
theorem dX0_countParts_6 : decode cX0_countParts 6 = .ok (.istore_n 2, 1) := by decide +kernel
theorem dX0_countParts_7 : decode cX0_countParts 7 = .ok (.iconst 0, 1) := by decide +kernel
theorem dX0_countParts_8 : decode cX0_countParts 8 = .ok (.istore_n 3, 1) := by decide +kernel
theorem dX0_countParts_9 : decode cX0_countParts 9 = .ok (.iload_n 3, 1) := by decide +kernel
theorem dX0_countParts_10 : decode cX0_countParts 10 = .ok (.aload_n 0, 1) := by decide +kernel
theorem dX0_countParts_11 : decode cX0_countParts 11 = .ok (.getfield 39, 3) := by decide +kernel
theorem dX0_countParts_14 : decode cX0_countParts 14 = .ok (.if_icmp .ge 33, 3) := by decide +kernel
theorem dX0_countParts_17 : decode cX0_countParts 17 = .ok (.iload_n 1, 1) := by decide +kernel
theorem dX0_countParts_18 : decode cX0_countParts 18 = .ok (.iload_n 3, 1) := by decide +kernel
theorem dX0_countParts_19 : decode cX0_countParts 19 = .ok (.ishr, 1) := by decide +kernel
theorem dX0_countParts_20 : decode cX0_countParts 20 = .ok (.iconst 1, 1) := by decide +kernel
theorem dX0_countParts_21 : decode cX0_countParts 21 = .ok (.iand, 1) := by decide +kernel
theorem dX0_countParts_22 : decode cX0_countParts 22 = .ok (.iconst 1, 1) := by decide +kernel
theorem dX0_countParts_23 : decode cX0_countParts 23 = .ok (.if_icmp .ne 18, 3) := by decide +kernel
theorem dX0_countParts_26 : decode cX0_countParts 26 = .ok (.iload_n 1, 1) := by decide +kernel
theorem dX0_countParts_27 : decode cX0_countParts 27 = .ok (.aload_n 0, 1) := by decide +kernel
theorem dX0_countParts_28 : decode cX0_countParts 28 = .ok (.iconst 1, 1) := by decide +kernel
theorem dX0_countParts_29 : decode cX0_countParts 29 = .ok (.iload_n 3, 1) := by decide +kernel
theorem dX0_countParts_30 : decode cX0_countParts 30 = .ok (.ishl, 1) := by decide +kernel
theorem dX0_countParts_31 : decode cX0_countParts 31 = .ok (.invokevirtual 127, 3) := by decide +kernel
theorem dX0_countParts_34 : decode cX0_countParts 34 = .ok (.iconst (-1), 1) := by decide +kernel
theorem dX0_countParts_35 : decode cX0_countParts 35 = .ok (.ixor, 1) := by decide +kernel
theorem dX0_countParts_36 : decode cX0_countParts 36 = .ok (.iand, 1) := by decide +kernel
theorem dX0_countParts_37 : decode cX0_countParts 37 = .ok (.istore_n 1, 1) := by decide +kernel
theorem dX0_countParts_38 : decode cX0_countParts 38 = .ok (.iinc 2 1, 3) := by decide +kernel
theorem dX0_countParts_41 : decode cX0_countParts 41 = .ok (.iinc 3 1, 3) := by decide +kernel
theorem dX0_countParts_44 : decode cX0_countParts 44 = .ok (.goto (-35), 3) := by decide +kernel
theorem dX0_countParts_47 : decode cX0_countParts 47 = .ok (.iload_n 2, 1) := by decide +kernel
theorem dX0_countParts_48 : decode cX0_countParts 48 = .ok (.ireturn, 1) := by decide +kernel
theorem dX0_partOf_0 : decode cX0_partOf 0 = .ok (.iload_n 1, 1) := by decide +kernel
theorem dX0_partOf_1 : decode cX0_partOf 1 = .ok (.istore_n 2, 1) := by decide +kernel
theorem dX0_partOf_2 : decode cX0_partOf 2 = .ok (.iconst 0, 1) := by decide +kernel
theorem dX0_partOf_3 : decode cX0_partOf 3 = .ok (.istore_n 3, 1) := by decide +kernel
theorem dX0_partOf_4 : decode cX0_partOf 4 = .ok (.iload_n 3, 1) := by decide +kernel
theorem dX0_partOf_5 : decode cX0_partOf 5 = .ok (.bipush 7, 2) := by decide +kernel
theorem dX0_partOf_7 : decode cX0_partOf 7 = .ok (.if_icmp .ge 56, 3) := by decide +kernel
theorem dX0_partOf_10 : decode cX0_partOf 10 = .ok (.iconst 0, 1) := by decide +kernel
theorem dX0_partOf_11 : decode cX0_partOf 11 = .ok (.istore 4, 2) := by decide +kernel
theorem dX0_partOf_13 : decode cX0_partOf 13 = .ok (.iload 4, 2) := by decide +kernel
theorem dX0_partOf_15 : decode cX0_partOf 15 = .ok (.aload_n 0, 1) := by decide +kernel
theorem dX0_partOf_16 : decode cX0_partOf 16 = .ok (.getfield 24, 3) := by decide +kernel
theorem dX0_partOf_19 : decode cX0_partOf 19 = .ok (.getfield 71, 3) := by decide +kernel
theorem dX0_partOf_22 : decode cX0_partOf 22 = .ok (.if_icmp .ge 35, 3) := by decide +kernel
theorem dX0_partOf_25 : decode cX0_partOf 25 = .ok (.aload_n 0, 1) := by decide +kernel
theorem dX0_partOf_26 : decode cX0_partOf 26 = .ok (.getfield 24, 3) := by decide +kernel
theorem dX0_partOf_29 : decode cX0_partOf 29 = .ok (.iload 4, 2) := by decide +kernel
theorem dX0_partOf_31 : decode cX0_partOf 31 = .ok (.invokevirtual 74, 3) := by decide +kernel
theorem dX0_partOf_34 : decode cX0_partOf 34 = .ok (.iload_n 2, 1) := by decide +kernel
theorem dX0_partOf_35 : decode cX0_partOf 35 = .ok (.iand, 1) := by decide +kernel
theorem dX0_partOf_36 : decode cX0_partOf 36 = .ok (.ifCond .eq 15, 3) := by decide +kernel
theorem dX0_partOf_39 : decode cX0_partOf 39 = .ok (.iload_n 2, 1) := by decide +kernel
theorem dX0_partOf_40 : decode cX0_partOf 40 = .ok (.aload_n 0, 1) := by decide +kernel
theorem dX0_partOf_41 : decode cX0_partOf 41 = .ok (.getfield 24, 3) := by decide +kernel
theorem dX0_partOf_44 : decode cX0_partOf 44 = .ok (.iload 4, 2) := by decide +kernel
theorem dX0_partOf_46 : decode cX0_partOf 46 = .ok (.invokevirtual 74, 3) := by decide +kernel
theorem dX0_partOf_49 : decode cX0_partOf 49 = .ok (.ior, 1) := by decide +kernel
theorem dX0_partOf_50 : decode cX0_partOf 50 = .ok (.istore_n 2, 1) := by decide +kernel
theorem dX0_partOf_51 : decode cX0_partOf 51 = .ok (.iinc 4 1, 3) := by decide +kernel
theorem dX0_partOf_54 : decode cX0_partOf 54 = .ok (.goto (-41), 3) := by decide +kernel
theorem dX0_partOf_57 : decode cX0_partOf 57 = .ok (.iinc 3 1, 3) := by decide +kernel
theorem dX0_partOf_60 : decode cX0_partOf 60 = .ok (.goto (-56), 3) := by decide +kernel
theorem dX0_partOf_63 : decode cX0_partOf 63 = .ok (.iload_n 2, 1) := by decide +kernel
theorem dX0_partOf_64 : decode cX0_partOf 64 = .ok (.ireturn, 1) := by decide +kernel
theorem dX1_init_0 : decode cX1_init 0 = .ok (.aload_n 0, 1) := by decide +kernel
theorem dX1_init_1 : decode cX1_init 1 = .ok (.invokespecial 3, 3) := by decide +kernel
theorem dX1_init_4 : decode cX1_init 4 = .ok (.aload_n 0, 1) := by decide +kernel
theorem dX1_init_5 : decode cX1_init 5 = .ok (.bipush 12, 2) := by decide +kernel
theorem dX1_init_7 : decode cX1_init 7 = .ok (.anewarray 9, 3) := by decide +kernel
theorem dX1_init_10 : decode cX1_init 10 = .ok (.putfield 11, 3) := by decide +kernel
theorem dX1_init_13 : decode cX1_init 13 = .ok (.iconst 0, 1) := by decide +kernel
theorem dX1_init_14 : decode cX1_init 14 = .ok (.istore_n 1, 1) := by decide +kernel
theorem dX1_init_15 : decode cX1_init 15 = .ok (.iload_n 1, 1) := by decide +kernel
theorem dX1_init_16 : decode cX1_init 16 = .ok (.aload_n 0, 1) := by decide +kernel
theorem dX1_init_17 : decode cX1_init 17 = .ok (.getfield 11, 3) := by decide +kernel
theorem dX1_init_20 : decode cX1_init 20 = .ok (.arraylength, 1) := by decide +kernel
theorem dX1_init_21 : decode cX1_init 21 = .ok (.if_icmp .ge 22, 3) := by decide +kernel
theorem dX1_init_24 : decode cX1_init 24 = .ok (.aload_n 0, 1) := by decide +kernel
theorem dX1_init_25 : decode cX1_init 25 = .ok (.getfield 11, 3) := by decide +kernel
theorem dX1_init_28 : decode cX1_init 28 = .ok (.iload_n 1, 1) := by decide +kernel
theorem dX1_init_29 : decode cX1_init 29 = .ok (.new 9, 3) := by decide +kernel
theorem dX1_init_32 : decode cX1_init 32 = .ok (.dup, 1) := by decide +kernel
theorem dX1_init_33 : decode cX1_init 33 = .ok (.invokespecial 17, 3) := by decide +kernel
theorem dX1_init_36 : decode cX1_init 36 = .ok (.aastore, 1) := by decide +kernel
theorem dX1_init_37 : decode cX1_init 37 = .ok (.iinc 1 1, 3) := by decide +kernel
theorem dX1_init_40 : decode cX1_init 40 = .ok (.goto (-25), 3) := by decide +kernel
theorem dX1_init_43 : decode cX1_init 43 = .ok (.aload_n 0, 1) := by decide +kernel
theorem dX1_init_44 : decode cX1_init 44 = .ok (.iconst 0, 1) := by decide +kernel
theorem dX1_init_45 : decode cX1_init 45 = .ok (.putfield 18, 3) := by decide +kernel
theorem dX1_init_48 : decode cX1_init 48 = .ok (.aload_n 0, 1) := by decide +kernel
theorem dX1_init_49 : decode cX1_init 49 = .ok (.iconst 0, 1) := by decide +kernel
theorem dX1_init_50 : decode cX1_init 50 = .ok (.putfield 22, 3) := by decide +kernel
theorem dX1_init_53 : decode cX1_init 53 = .ok (.return_, 1) := by decide +kernel
theorem dX1_clear_0 : decode cX1_clear 0 = .ok (.aload_n 0, 1) := by decide +kernel
theorem dX1_clear_1 : decode cX1_clear 1 = .ok (.iconst 0, 1) := by decide +kernel
theorem dX1_clear_2 : decode cX1_clear 2 = .ok (.putfield 22, 3) := by decide +kernel
theorem dX1_clear_5 : decode cX1_clear 5 = .ok (.return_, 1) := by decide +kernel
theorem dX1_push_0 : decode cX1_push 0 = .ok (.aload_n 0, 1) := by decide +kernel
theorem dX1_push_1 : decode cX1_push 1 = .ok (.getfield 11, 3) := by decide +kernel
theorem dX1_push_4 : decode cX1_push 4 = .ok (.aload_n 0, 1) := by decide +kernel
theorem dX1_push_5 : decode cX1_push 5 = .ok (.getfield 18, 3) := by decide +kernel
theorem dX1_push_8 : decode cX1_push 8 = .ok (.aload_n 0, 1) := by decide +kernel
theorem dX1_push_9 : decode cX1_push 9 = .ok (.getfield 22, 3) := by decide +kernel
theorem dX1_push_12 : decode cX1_push 12 = .ok (.iadd, 1) := by decide +kernel
theorem dX1_push_13 : decode cX1_push 13 = .ok (.bipush 12, 2) := by decide +kernel
theorem dX1_push_15 : decode cX1_push 15 = .ok (.invokestatic 25, 3) := by decide +kernel
theorem dX1_push_18 : decode cX1_push 18 = .ok (.aaload, 1) := by decide +kernel
theorem dX1_push_19 : decode cX1_push 19 = .ok (.astore_n 2, 1) := by decide +kernel
theorem dX1_push_20 : decode cX1_push 20 = .ok (.aload_n 2, 1) := by decide +kernel
theorem dX1_push_21 : decode cX1_push 21 = .ok (.ifnull 8, 3) := by decide +kernel
theorem dX1_push_24 : decode cX1_push 24 = .ok (.aload_n 2, 1) := by decide +kernel
theorem dX1_push_25 : decode cX1_push 25 = .ok (.aload_n 1, 1) := by decide +kernel
theorem dX1_push_26 : decode cX1_push 26 = .ok (.invokevirtual 31, 3) := by decide +kernel
theorem dX1_push_29 : decode cX1_push 29 = .ok (.aload_n 0, 1) := by decide +kernel
theorem dX1_push_30 : decode cX1_push 30 = .ok (.getfield 22, 3) := by decide +kernel
theorem dX1_push_33 : decode cX1_push 33 = .ok (.bipush 12, 2) := by decide +kernel
theorem dX1_push_35 : decode cX1_push 35 = .ok (.if_icmp .ge 16, 3) := by decide +kernel
theorem dX1_push_38 : decode cX1_push 38 = .ok (.aload_n 0, 1) := by decide +kernel
theorem dX1_push_39 : decode cX1_push 39 = .ok (.dup, 1) := by decide +kernel
theorem dX1_push_40 : decode cX1_push 40 = .ok (.getfield 22, 3) := by decide +kernel
theorem dX1_push_43 : decode cX1_push 43 = .ok (.iconst 1, 1) := by decide +kernel
theorem dX1_push_44 : decode cX1_push 44 = .ok (.iadd, 1) := by decide +kernel
theorem dX1_push_45 : decode cX1_push 45 = .ok (.putfield 22, 3) := by decide +kernel
theorem dX1_push_48 : decode cX1_push 48 = .ok (.goto 18, 3) := by decide +kernel
theorem dX1_push_51 : decode cX1_push 51 = .ok (.aload_n 0, 1) := by decide +kernel
theorem dX1_push_52 : decode cX1_push 52 = .ok (.aload_n 0, 1) := by decide +kernel
theorem dX1_push_53 : decode cX1_push 53 = .ok (.getfield 18, 3) := by decide +kernel
theorem dX1_push_56 : decode cX1_push 56 = .ok (.iconst 1, 1) := by decide +kernel
theorem dX1_push_57 : decode cX1_push 57 = .ok (.iadd, 1) := by decide +kernel
theorem dX1_push_58 : decode cX1_push 58 = .ok (.bipush 12, 2) := by decide +kernel
theorem dX1_push_60 : decode cX1_push 60 = .ok (.invokestatic 25, 3) := by decide +kernel
theorem dX1_push_63 : decode cX1_push 63 = .ok (.putfield 18, 3) := by decide +kernel
theorem dX1_push_66 : decode cX1_push 66 = .ok (.return_, 1) := by decide +kernel
theorem dX1_pop_0 : decode cX1_pop 0 = .ok (.aload_n 0, 1) := by decide +kernel
theorem dX1_pop_1 : decode cX1_pop 1 = .ok (.getfield 22, 3) := by decide +kernel
theorem dX1_pop_4 : decode cX1_pop 4 = .ok (.ifCond .gt 4, 3) := by decide +kernel
theorem dX1_pop_7 : decode cX1_pop 7 = .ok (.return_, 1) := by decide +kernel
theorem dX1_pop_8 : decode cX1_pop 8 = .ok (.aload_n 0, 1) := by decide +kernel
theorem dX1_pop_9 : decode cX1_pop 9 = .ok (.dup, 1) := by decide +kernel
theorem dX1_pop_10 : decode cX1_pop 10 = .ok (.getfield 22, 3) := by decide +kernel
theorem dX1_pop_13 : decode cX1_pop 13 = .ok (.iconst 1, 1) := by decide +kernel
theorem dX1_pop_14 : decode cX1_pop 14 = .ok (.isub, 1) := by decide +kernel
theorem dX1_pop_15 : decode cX1_pop 15 = .ok (.putfield 22, 3) := by decide +kernel
theorem dX1_pop_18 : decode cX1_pop 18 = .ok (.aload_n 0, 1) := by decide +kernel
theorem dX1_pop_19 : decode cX1_pop 19 = .ok (.getfield 11, 3) := by decide +kernel
theorem dX1_pop_22 : decode cX1_pop 22 = .ok (.aload_n 0, 1) := by decide +kernel
theorem dX1_pop_23 : decode cX1_pop 23 = .ok (.getfield 18, 3) := by decide +kernel
theorem dX1_pop_26 : decode cX1_pop 26 = .ok (.aload_n 0, 1) := by decide +kernel
theorem dX1_pop_27 : decode cX1_pop 27 = .ok (.getfield 22, 3) := by decide +kernel
theorem dX1_pop_30 : decode cX1_pop 30 = .ok (.iadd, 1) := by decide +kernel
theorem dX1_pop_31 : decode cX1_pop 31 = .ok (.bipush 12, 2) := by decide +kernel
theorem dX1_pop_33 : decode cX1_pop 33 = .ok (.invokestatic 25, 3) := by decide +kernel
theorem dX1_pop_36 : decode cX1_pop 36 = .ok (.aaload, 1) := by decide +kernel
theorem dX1_pop_37 : decode cX1_pop 37 = .ok (.astore_n 2, 1) := by decide +kernel
theorem dX1_pop_38 : decode cX1_pop 38 = .ok (.aload_n 2, 1) := by decide +kernel
theorem dX1_pop_39 : decode cX1_pop 39 = .ok (.ifnull 8, 3) := by decide +kernel
theorem dX1_pop_42 : decode cX1_pop 42 = .ok (.aload_n 1, 1) := by decide +kernel
theorem dX1_pop_43 : decode cX1_pop 43 = .ok (.aload_n 2, 1) := by decide +kernel
theorem dX1_pop_44 : decode cX1_pop 44 = .ok (.invokevirtual 31, 3) := by decide +kernel
theorem dX1_pop_47 : decode cX1_pop 47 = .ok (.return_, 1) := by decide +kernel
theorem dX2_init_0 : decode cX2_init 0 = .ok (.aload_n 0, 1) := by decide +kernel
theorem dX2_init_1 : decode cX2_init 1 = .ok (.invokespecial 3, 3) := by decide +kernel
theorem dX2_init_4 : decode cX2_init 4 = .ok (.aload_n 0, 1) := by decide +kernel
theorem dX2_init_5 : decode cX2_init 5 = .ok (.aload_n 1, 1) := by decide +kernel
theorem dX2_init_6 : decode cX2_init 6 = .ok (.putfield 9, 3) := by decide +kernel
theorem dX2_init_9 : decode cX2_init 9 = .ok (.aload_n 0, 1) := by decide +kernel
theorem dX2_init_10 : decode cX2_init 10 = .ok (.sipush 128, 3) := by decide +kernel
theorem dX2_init_13 : decode cX2_init 13 = .ok (.newarray .int, 2) := by decide +kernel
theorem dX2_init_15 : decode cX2_init 15 = .ok (.putfield 15, 3) := by decide +kernel
theorem dX2_init_18 : decode cX2_init 18 = .ok (.aload_n 0, 1) := by decide +kernel
theorem dX2_init_19 : decode cX2_init 19 = .ok (.sipush 128, 3) := by decide +kernel
theorem dX2_init_22 : decode cX2_init 22 = .ok (.newarray .int, 2) := by decide +kernel
theorem dX2_init_24 : decode cX2_init 24 = .ok (.putfield 19, 3) := by decide +kernel
theorem dX2_init_27 : decode cX2_init 27 = .ok (.aload_n 0, 1) := by decide +kernel
theorem dX2_init_28 : decode cX2_init 28 = .ok (.sipush 128, 3) := by decide +kernel
theorem dX2_init_31 : decode cX2_init 31 = .ok (.newarray .int, 2) := by decide +kernel
theorem dX2_init_33 : decode cX2_init 33 = .ok (.putfield 22, 3) := by decide +kernel
theorem dX2_init_36 : decode cX2_init 36 = .ok (.aload_n 0, 1) := by decide +kernel
theorem dX2_init_37 : decode cX2_init 37 = .ok (.iconst 0, 1) := by decide +kernel
theorem dX2_init_38 : decode cX2_init 38 = .ok (.putfield 25, 3) := by decide +kernel
theorem dX2_init_41 : decode cX2_init 41 = .ok (.return_, 1) := by decide +kernel
theorem dX2_forget_0 : decode cX2_forget 0 = .ok (.aload_n 0, 1) := by decide +kernel
theorem dX2_forget_1 : decode cX2_forget 1 = .ok (.iconst 0, 1) := by decide +kernel
theorem dX2_forget_2 : decode cX2_forget 2 = .ok (.putfield 25, 3) := by decide +kernel
theorem dX2_forget_5 : decode cX2_forget 5 = .ok (.return_, 1) := by decide +kernel
theorem dX2_make_0 : decode cX2_make 0 = .ok (.aload_n 0, 1) := by decide +kernel
theorem dX2_make_1 : decode cX2_make 1 = .ok (.getfield 25, 3) := by decide +kernel
theorem dX2_make_4 : decode cX2_make 4 = .ok (.ifCond .eq 4, 3) := by decide +kernel
theorem dX2_make_7 : decode cX2_make 7 = .ok (.return_, 1) := by decide +kernel
theorem dX2_make_8 : decode cX2_make 8 = .ok (.aload_n 0, 1) := by decide +kernel
theorem dX2_make_9 : decode cX2_make 9 = .ok (.iconst 1, 1) := by decide +kernel
theorem dX2_make_10 : decode cX2_make 10 = .ok (.putfield 25, 3) := by decide +kernel
theorem dX2_make_13 : decode cX2_make 13 = .ok (.aload_n 0, 1) := by decide +kernel
theorem dX2_make_14 : decode cX2_make 14 = .ok (.getfield 15, 3) := by decide +kernel
theorem dX2_make_17 : decode cX2_make 17 = .ok (.iconst 0, 1) := by decide +kernel
theorem dX2_make_18 : decode cX2_make 18 = .ok (.invokestatic 29, 3) := by decide +kernel
theorem dX2_make_21 : decode cX2_make 21 = .ok (.aload_n 0, 1) := by decide +kernel
theorem dX2_make_22 : decode cX2_make 22 = .ok (.getfield 19, 3) := by decide +kernel
theorem dX2_make_25 : decode cX2_make 25 = .ok (.iconst 0, 1) := by decide +kernel
theorem dX2_make_26 : decode cX2_make 26 = .ok (.invokestatic 29, 3) := by decide +kernel
theorem dX2_make_29 : decode cX2_make 29 = .ok (.aload_n 0, 1) := by decide +kernel
theorem dX2_make_30 : decode cX2_make 30 = .ok (.getfield 22, 3) := by decide +kernel
theorem dX2_make_33 : decode cX2_make 33 = .ok (.iconst 0, 1) := by decide +kernel
theorem dX2_make_34 : decode cX2_make 34 = .ok (.invokestatic 29, 3) := by decide +kernel
theorem dX2_make_37 : decode cX2_make 37 = .ok (.aload_n 0, 1) := by decide +kernel
theorem dX2_make_38 : decode cX2_make 38 = .ok (.getfield 9, 3) := by decide +kernel
theorem dX2_make_41 : decode cX2_make 41 = .ok (.getfield 35, 3) := by decide +kernel
theorem dX2_make_44 : decode cX2_make 44 = .ok (.getfield 41, 3) := by decide +kernel
theorem dX2_make_47 : decode cX2_make 47 = .ok (.sipush 128, 3) := by decide +kernel
theorem dX2_make_50 : decode cX2_make 50 = .ok (.invokestatic 47, 3) := by decide +kernel
theorem dX2_make_53 : decode cX2_make 53 = .ok (.istore_n 1, 1) := by decide +kernel
theorem dX2_make_54 : decode cX2_make 54 = .ok (.iload_n 1, 1) := by decide +kernel
theorem dX2_make_55 : decode cX2_make 55 = .ok (.iconst 1, 1) := by decide +kernel
theorem dX2_make_56 : decode cX2_make 56 = .ok (.isub, 1) := by decide +kernel
theorem dX2_make_57 : decode cX2_make 57 = .ok (.istore_n 2, 1) := by decide +kernel
theorem dX2_make_58 : decode cX2_make 58 = .ok (.iload_n 2, 1) := by decide +kernel
theorem dX2_make_59 : decode cX2_make 59 = .ok (.ifCond .lt 99, 3) := by decide +kernel
theorem dX2_make_62 : decode cX2_make 62 = .ok (.iload_n 2, 1) := by decide +kernel
theorem dX2_make_63 : decode cX2_make 63 = .ok (.iconst 1, 1) := by decide +kernel
theorem dX2_make_64 : decode cX2_make 64 = .ok (.iadd, 1) := by decide +kernel
theorem dX2_make_65 : decode cX2_make 65 = .ok (.istore_n 3, 1) := by decide +kernel
theorem dX2_make_66 : decode cX2_make 66 = .ok (.iload_n 3, 1) := by decide +kernel
theorem dX2_make_67 : decode cX2_make 67 = .ok (.iload_n 1, 1) := by decide +kernel
theorem dX2_make_68 : decode cX2_make 68 = .ok (.if_icmp .ge 84, 3) := by decide +kernel
theorem dX2_make_71 : decode cX2_make 71 = .ok (.aload_n 0, 1) := by decide +kernel
theorem dX2_make_72 : decode cX2_make 72 = .ok (.getfield 9, 3) := by decide +kernel
theorem dX2_make_75 : decode cX2_make 75 = .ok (.aload_n 0, 1) := by decide +kernel
theorem dX2_make_76 : decode cX2_make 76 = .ok (.getfield 9, 3) := by decide +kernel
theorem dX2_make_79 : decode cX2_make 79 = .ok (.getfield 35, 3) := by decide +kernel
theorem dX2_make_82 : decode cX2_make 82 = .ok (.iload_n 3, 1) := by decide +kernel
theorem dX2_make_83 : decode cX2_make 83 = .ok (.invokevirtual 53, 3) := by decide +kernel
theorem dX2_make_86 : decode cX2_make 86 = .ok (.aload_n 0, 1) := by decide +kernel
theorem dX2_make_87 : decode cX2_make 87 = .ok (.getfield 9, 3) := by decide +kernel
theorem dX2_make_90 : decode cX2_make 90 = .ok (.getfield 35, 3) := by decide +kernel
theorem dX2_make_93 : decode cX2_make 93 = .ok (.iload_n 2, 1) := by decide +kernel
theorem dX2_make_94 : decode cX2_make 94 = .ok (.invokevirtual 53, 3) := by decide +kernel
theorem dX2_make_97 : decode cX2_make 97 = .ok (.invokevirtual 57, 3) := by decide +kernel
theorem dX2_make_100 : decode cX2_make 100 = .ok (.ifCond .eq 46, 3) := by decide +kernel
theorem dX2_make_103 : decode cX2_make 103 = .ok (.aload_n 0, 1) := by decide +kernel
theorem dX2_make_104 : decode cX2_make 104 = .ok (.getfield 15, 3) := by decide +kernel
theorem dX2_make_107 : decode cX2_make 107 = .ok (.iload_n 2, 1) := by decide +kernel
theorem dX2_make_108 : decode cX2_make 108 = .ok (.dup2, 1) := by decide +kernel
theorem dX2_make_109 : decode cX2_make 109 = .ok (.iaload, 1) := by decide +kernel
theorem dX2_make_110 : decode cX2_make 110 = .ok (.iconst 1, 1) := by decide +kernel
theorem dX2_make_111 : decode cX2_make 111 = .ok (.iadd, 1) := by decide +kernel
theorem dX2_make_112 : decode cX2_make 112 = .ok (.iastore, 1) := by decide +kernel
theorem dX2_make_113 : decode cX2_make 113 = .ok (.aload_n 0, 1) := by decide +kernel
theorem dX2_make_114 : decode cX2_make 114 = .ok (.getfield 19, 3) := by decide +kernel
theorem dX2_make_117 : decode cX2_make 117 = .ok (.iload_n 3, 1) := by decide +kernel
theorem dX2_make_118 : decode cX2_make 118 = .ok (.dup2, 1) := by decide +kernel
theorem dX2_make_119 : decode cX2_make 119 = .ok (.iaload, 1) := by decide +kernel
theorem dX2_make_120 : decode cX2_make 120 = .ok (.iconst 1, 1) := by decide +kernel
theorem dX2_make_121 : decode cX2_make 121 = .ok (.iadd, 1) := by decide +kernel
theorem dX2_make_122 : decode cX2_make 122 = .ok (.iastore, 1) := by decide +kernel
theorem dX2_make_123 : decode cX2_make 123 = .ok (.aload_n 0, 1) := by decide +kernel
theorem dX2_make_124 : decode cX2_make 124 = .ok (.getfield 22, 3) := by decide +kernel
theorem dX2_make_127 : decode cX2_make 127 = .ok (.iload_n 2, 1) := by decide +kernel
theorem dX2_make_128 : decode cX2_make 128 = .ok (.aload_n 0, 1) := by decide +kernel
theorem dX2_make_129 : decode cX2_make 129 = .ok (.getfield 22, 3) := by decide +kernel
theorem dX2_make_132 : decode cX2_make 132 = .ok (.iload_n 2, 1) := by decide +kernel
theorem dX2_make_133 : decode cX2_make 133 = .ok (.iaload, 1) := by decide +kernel
theorem dX2_make_134 : decode cX2_make 134 = .ok (.aload_n 0, 1) := by decide +kernel
theorem dX2_make_135 : decode cX2_make 135 = .ok (.getfield 22, 3) := by decide +kernel
theorem dX2_make_138 : decode cX2_make 138 = .ok (.iload_n 3, 1) := by decide +kernel
theorem dX2_make_139 : decode cX2_make 139 = .ok (.iaload, 1) := by decide +kernel
theorem dX2_make_140 : decode cX2_make 140 = .ok (.iconst 1, 1) := by decide +kernel
theorem dX2_make_141 : decode cX2_make 141 = .ok (.iadd, 1) := by decide +kernel
theorem dX2_make_142 : decode cX2_make 142 = .ok (.invokestatic 61, 3) := by decide +kernel
theorem dX2_make_145 : decode cX2_make 145 = .ok (.iastore, 1) := by decide +kernel
theorem dX2_make_146 : decode cX2_make 146 = .ok (.iinc 3 1, 3) := by decide +kernel
theorem dX2_make_149 : decode cX2_make 149 = .ok (.goto (-83), 3) := by decide +kernel
theorem dX2_make_152 : decode cX2_make 152 = .ok (.iinc 2 (-1), 3) := by decide +kernel
theorem dX2_make_155 : decode cX2_make 155 = .ok (.goto (-97), 3) := by decide +kernel
theorem dX2_make_158 : decode cX2_make 158 = .ok (.return_, 1) := by decide +kernel
theorem dX2_coversOf_0 : decode cX2_coversOf 0 = .ok (.aload_n 0, 1) := by decide +kernel
theorem dX2_coversOf_1 : decode cX2_coversOf 1 = .ok (.invokevirtual 64, 3) := by decide +kernel
theorem dX2_coversOf_4 : decode cX2_coversOf 4 = .ok (.iload_n 1, 1) := by decide +kernel
theorem dX2_coversOf_5 : decode cX2_coversOf 5 = .ok (.ifCond .lt 24, 3) := by decide +kernel
theorem dX2_coversOf_8 : decode cX2_coversOf 8 = .ok (.iload_n 1, 1) := by decide +kernel
theorem dX2_coversOf_9 : decode cX2_coversOf 9 = .ok (.aload_n 0, 1) := by decide +kernel
theorem dX2_coversOf_10 : decode cX2_coversOf 10 = .ok (.getfield 9, 3) := by decide +kernel
theorem dX2_coversOf_13 : decode cX2_coversOf 13 = .ok (.getfield 35, 3) := by decide +kernel
theorem dX2_coversOf_16 : decode cX2_coversOf 16 = .ok (.getfield 41, 3) := by decide +kernel
theorem dX2_coversOf_19 : decode cX2_coversOf 19 = .ok (.if_icmp .ge 10, 3) := by decide +kernel
theorem dX2_coversOf_22 : decode cX2_coversOf 22 = .ok (.iload_n 1, 1) := by decide +kernel
theorem dX2_coversOf_23 : decode cX2_coversOf 23 = .ok (.sipush 128, 3) := by decide +kernel
theorem dX2_coversOf_26 : decode cX2_coversOf 26 = .ok (.if_icmp .lt 5, 3) := by decide +kernel
theorem dX2_coversOf_29 : decode cX2_coversOf 29 = .ok (.iconst (-1), 1) := by decide +kernel
theorem dX2_coversOf_30 : decode cX2_coversOf 30 = .ok (.ireturn, 1) := by decide +kernel
theorem dX2_coversOf_31 : decode cX2_coversOf 31 = .ok (.iload_n 2, 1) := by decide +kernel
theorem dX2_coversOf_32 : decode cX2_coversOf 32 = .ok (.ifCond .eq 12, 3) := by decide +kernel
theorem dX2_coversOf_35 : decode cX2_coversOf 35 = .ok (.aload_n 0, 1) := by decide +kernel
theorem dX2_coversOf_36 : decode cX2_coversOf 36 = .ok (.getfield 15, 3) := by decide +kernel
theorem dX2_coversOf_39 : decode cX2_coversOf 39 = .ok (.iload_n 1, 1) := by decide +kernel
theorem dX2_coversOf_40 : decode cX2_coversOf 40 = .ok (.iaload, 1) := by decide +kernel
theorem dX2_coversOf_41 : decode cX2_coversOf 41 = .ok (.goto 9, 3) := by decide +kernel
theorem dX2_coversOf_44 : decode cX2_coversOf 44 = .ok (.aload_n 0, 1) := by decide +kernel
theorem dX2_coversOf_45 : decode cX2_coversOf 45 = .ok (.getfield 19, 3) := by decide +kernel
theorem dX2_coversOf_48 : decode cX2_coversOf 48 = .ok (.iload_n 1, 1) := by decide +kernel
theorem dX2_coversOf_49 : decode cX2_coversOf 49 = .ok (.iaload, 1) := by decide +kernel
theorem dX2_coversOf_50 : decode cX2_coversOf 50 = .ok (.ireturn, 1) := by decide +kernel
theorem dX2_riseOf_0 : decode cX2_riseOf 0 = .ok (.iload_n 1, 1) := by decide +kernel
theorem dX2_riseOf_1 : decode cX2_riseOf 1 = .ok (.ifCond .lt 21, 3) := by decide +kernel
theorem dX2_riseOf_4 : decode cX2_riseOf 4 = .ok (.iload_n 1, 1) := by decide +kernel
theorem dX2_riseOf_5 : decode cX2_riseOf 5 = .ok (.aload_n 0, 1) := by decide +kernel
theorem dX2_riseOf_6 : decode cX2_riseOf 6 = .ok (.getfield 22, 3) := by decide +kernel
theorem dX2_riseOf_9 : decode cX2_riseOf 9 = .ok (.arraylength, 1) := by decide +kernel
theorem dX2_riseOf_10 : decode cX2_riseOf 10 = .ok (.if_icmp .ge 12, 3) := by decide +kernel
theorem dX2_riseOf_13 : decode cX2_riseOf 13 = .ok (.aload_n 0, 1) := by decide +kernel
theorem dX2_riseOf_14 : decode cX2_riseOf 14 = .ok (.getfield 22, 3) := by decide +kernel
theorem dX2_riseOf_17 : decode cX2_riseOf 17 = .ok (.iload_n 1, 1) := by decide +kernel
theorem dX2_riseOf_18 : decode cX2_riseOf 18 = .ok (.iaload, 1) := by decide +kernel
theorem dX2_riseOf_19 : decode cX2_riseOf 19 = .ok (.goto 4, 3) := by decide +kernel
theorem dX2_riseOf_22 : decode cX2_riseOf 22 = .ok (.iconst 0, 1) := by decide +kernel
theorem dX2_riseOf_23 : decode cX2_riseOf 23 = .ok (.ireturn, 1) := by decide +kernel
theorem dX2_height_0 : decode cX2_height 0 = .ok (.aload_n 0, 1) := by decide +kernel
theorem dX2_height_1 : decode cX2_height 1 = .ok (.invokevirtual 64, 3) := by decide +kernel
theorem dX2_height_4 : decode cX2_height 4 = .ok (.aload_n 0, 1) := by decide +kernel
theorem dX2_height_5 : decode cX2_height 5 = .ok (.iconst 0, 1) := by decide +kernel
theorem dX2_height_6 : decode cX2_height 6 = .ok (.invokevirtual 67, 3) := by decide +kernel
theorem dX2_height_9 : decode cX2_height 9 = .ok (.ireturn, 1) := by decide +kernel
theorem dX2_pairs_0 : decode cX2_pairs 0 = .ok (.aload_n 0, 1) := by decide +kernel
theorem dX2_pairs_1 : decode cX2_pairs 1 = .ok (.invokevirtual 64, 3) := by decide +kernel
theorem dX2_pairs_4 : decode cX2_pairs 4 = .ok (.iconst 0, 1) := by decide +kernel
theorem dX2_pairs_5 : decode cX2_pairs 5 = .ok (.istore_n 1, 1) := by decide +kernel
theorem dX2_pairs_6 : decode cX2_pairs 6 = .ok (.iconst 0, 1) := by decide +kernel
theorem dX2_pairs_7 : decode cX2_pairs 7 = .ok (.istore_n 2, 1) := by decide +kernel
theorem dX2_pairs_8 : decode cX2_pairs 8 = .ok (.iload_n 2, 1) := by decide +kernel
theorem dX2_pairs_9 : decode cX2_pairs 9 = .ok (.aload_n 0, 1) := by decide +kernel
theorem dX2_pairs_10 : decode cX2_pairs 10 = .ok (.getfield 15, 3) := by decide +kernel
theorem dX2_pairs_13 : decode cX2_pairs 13 = .ok (.arraylength, 1) := by decide +kernel
theorem dX2_pairs_14 : decode cX2_pairs 14 = .ok (.if_icmp .ge 18, 3) := by decide +kernel
theorem dX2_pairs_17 : decode cX2_pairs 17 = .ok (.iload_n 1, 1) := by decide +kernel
theorem dX2_pairs_18 : decode cX2_pairs 18 = .ok (.aload_n 0, 1) := by decide +kernel
theorem dX2_pairs_19 : decode cX2_pairs 19 = .ok (.getfield 15, 3) := by decide +kernel
theorem dX2_pairs_22 : decode cX2_pairs 22 = .ok (.iload_n 2, 1) := by decide +kernel
theorem dX2_pairs_23 : decode cX2_pairs 23 = .ok (.iaload, 1) := by decide +kernel
theorem dX2_pairs_24 : decode cX2_pairs 24 = .ok (.iadd, 1) := by decide +kernel
theorem dX2_pairs_25 : decode cX2_pairs 25 = .ok (.istore_n 1, 1) := by decide +kernel
theorem dX2_pairs_26 : decode cX2_pairs 26 = .ok (.iinc 2 1, 3) := by decide +kernel
theorem dX2_pairs_29 : decode cX2_pairs 29 = .ok (.goto (-21), 3) := by decide +kernel
theorem dX2_pairs_32 : decode cX2_pairs 32 = .ok (.iload_n 1, 1) := by decide +kernel
theorem dX2_pairs_33 : decode cX2_pairs 33 = .ok (.ireturn, 1) := by decide +kernel
theorem dX2_coveredOnce_0 : decode cX2_coveredOnce 0 = .ok (.aload_n 0, 1) := by decide +kernel
theorem dX2_coveredOnce_1 : decode cX2_coveredOnce 1 = .ok (.invokevirtual 64, 3) := by decide +kernel
theorem dX2_coveredOnce_4 : decode cX2_coveredOnce 4 = .ok (.iconst 0, 1) := by decide +kernel
theorem dX2_coveredOnce_5 : decode cX2_coveredOnce 5 = .ok (.istore_n 1, 1) := by decide +kernel
theorem dX2_coveredOnce_6 : decode cX2_coveredOnce 6 = .ok (.iconst 0, 1) := by decide +kernel
theorem dX2_coveredOnce_7 : decode cX2_coveredOnce 7 = .ok (.istore_n 2, 1) := by decide +kernel
theorem dX2_coveredOnce_8 : decode cX2_coveredOnce 8 = .ok (.iload_n 2, 1) := by decide +kernel
theorem dX2_coveredOnce_9 : decode cX2_coveredOnce 9 = .ok (.iconst 1, 1) := by decide +kernel
theorem dX2_coveredOnce_10 : decode cX2_coveredOnce 10 = .ok (.iadd, 1) := by decide +kernel
theorem dX2_coveredOnce_11 : decode cX2_coveredOnce 11 = .ok (.aload_n 0, 1) := by decide +kernel
theorem dX2_coveredOnce_12 : decode cX2_coveredOnce 12 = .ok (.getfield 9, 3) := by decide +kernel
theorem dX2_coveredOnce_15 : decode cX2_coveredOnce 15 = .ok (.getfield 35, 3) := by decide +kernel
theorem dX2_coveredOnce_18 : decode cX2_coveredOnce 18 = .ok (.getfield 41, 3) := by decide +kernel
theorem dX2_coveredOnce_21 : decode cX2_coveredOnce 21 = .ok (.if_icmp .ge 31, 3) := by decide +kernel
theorem dX2_coveredOnce_24 : decode cX2_coveredOnce 24 = .ok (.iload_n 2, 1) := by decide +kernel
theorem dX2_coveredOnce_25 : decode cX2_coveredOnce 25 = .ok (.aload_n 0, 1) := by decide +kernel
theorem dX2_coveredOnce_26 : decode cX2_coveredOnce 26 = .ok (.getfield 15, 3) := by decide +kernel
theorem dX2_coveredOnce_29 : decode cX2_coveredOnce 29 = .ok (.arraylength, 1) := by decide +kernel
theorem dX2_coveredOnce_30 : decode cX2_coveredOnce 30 = .ok (.if_icmp .ge 22, 3) := by decide +kernel
theorem dX2_coveredOnce_33 : decode cX2_coveredOnce 33 = .ok (.aload_n 0, 1) := by decide +kernel
theorem dX2_coveredOnce_34 : decode cX2_coveredOnce 34 = .ok (.getfield 15, 3) := by decide +kernel
theorem dX2_coveredOnce_37 : decode cX2_coveredOnce 37 = .ok (.iload_n 2, 1) := by decide +kernel
theorem dX2_coveredOnce_38 : decode cX2_coveredOnce 38 = .ok (.iaload, 1) := by decide +kernel
theorem dX2_coveredOnce_39 : decode cX2_coveredOnce 39 = .ok (.iconst 1, 1) := by decide +kernel
theorem dX2_coveredOnce_40 : decode cX2_coveredOnce 40 = .ok (.if_icmp .ne 6, 3) := by decide +kernel
theorem dX2_coveredOnce_43 : decode cX2_coveredOnce 43 = .ok (.iinc 1 1, 3) := by decide +kernel
theorem dX2_coveredOnce_46 : decode cX2_coveredOnce 46 = .ok (.iinc 2 1, 3) := by decide +kernel
theorem dX2_coveredOnce_49 : decode cX2_coveredOnce 49 = .ok (.goto (-41), 3) := by decide +kernel
theorem dX2_coveredOnce_52 : decode cX2_coveredOnce 52 = .ok (.iload_n 1, 1) := by decide +kernel
theorem dX2_coveredOnce_53 : decode cX2_coveredOnce 53 = .ok (.ireturn, 1) := by decide +kernel
theorem dX2_stepOfLongest_0 : decode cX2_stepOfLongest 0 = .ok (.aload_n 0, 1) := by decide +kernel
theorem dX2_stepOfLongest_1 : decode cX2_stepOfLongest 1 = .ok (.invokevirtual 64, 3) := by decide +kernel
theorem dX2_stepOfLongest_4 : decode cX2_stepOfLongest 4 = .ok (.iload_n 1, 1) := by decide +kernel
theorem dX2_stepOfLongest_5 : decode cX2_stepOfLongest 5 = .ok (.ifCond .lt 12, 3) := by decide +kernel
theorem dX2_stepOfLongest_8 : decode cX2_stepOfLongest 8 = .ok (.iload_n 1, 1) := by decide +kernel
theorem dX2_stepOfLongest_9 : decode cX2_stepOfLongest 9 = .ok (.aload_n 0, 1) := by decide +kernel
theorem dX2_stepOfLongest_10 : decode cX2_stepOfLongest 10 = .ok (.iconst 0, 1) := by decide +kernel
theorem dX2_stepOfLongest_11 : decode cX2_stepOfLongest 11 = .ok (.invokevirtual 67, 3) := by decide +kernel
theorem dX2_stepOfLongest_14 : decode cX2_stepOfLongest 14 = .ok (.if_icmp .le 5, 3) := by decide +kernel
theorem dX2_stepOfLongest_17 : decode cX2_stepOfLongest 17 = .ok (.iconst (-1), 1) := by decide +kernel
theorem dX2_stepOfLongest_18 : decode cX2_stepOfLongest 18 = .ok (.ireturn, 1) := by decide +kernel
theorem dX2_stepOfLongest_19 : decode cX2_stepOfLongest 19 = .ok (.iconst 0, 1) := by decide +kernel
theorem dX2_stepOfLongest_20 : decode cX2_stepOfLongest 20 = .ok (.istore_n 2, 1) := by decide +kernel
theorem dX2_stepOfLongest_21 : decode cX2_stepOfLongest 21 = .ok (.iconst 0, 1) := by decide +kernel
theorem dX2_stepOfLongest_22 : decode cX2_stepOfLongest 22 = .ok (.istore_n 3, 1) := by decide +kernel
theorem dX2_stepOfLongest_23 : decode cX2_stepOfLongest 23 = .ok (.iload_n 3, 1) := by decide +kernel
theorem dX2_stepOfLongest_24 : decode cX2_stepOfLongest 24 = .ok (.iload_n 1, 1) := by decide +kernel
theorem dX2_stepOfLongest_25 : decode cX2_stepOfLongest 25 = .ok (.if_icmp .ge 21, 3) := by decide +kernel
theorem dX2_stepOfLongest_28 : decode cX2_stepOfLongest 28 = .ok (.iload_n 3, 1) := by decide +kernel
theorem dX2_stepOfLongest_29 : decode cX2_stepOfLongest 29 = .ok (.bipush 7, 2) := by decide +kernel
theorem dX2_stepOfLongest_31 : decode cX2_stepOfLongest 31 = .ok (.if_icmp .ge 15, 3) := by decide +kernel
theorem dX2_stepOfLongest_34 : decode cX2_stepOfLongest 34 = .ok (.aload_n 0, 1) := by decide +kernel
theorem dX2_stepOfLongest_35 : decode cX2_stepOfLongest 35 = .ok (.iload_n 2, 1) := by decide +kernel
theorem dX2_stepOfLongest_36 : decode cX2_stepOfLongest 36 = .ok (.invokevirtual 70, 3) := by decide +kernel
theorem dX2_stepOfLongest_39 : decode cX2_stepOfLongest 39 = .ok (.istore_n 2, 1) := by decide +kernel
theorem dX2_stepOfLongest_40 : decode cX2_stepOfLongest 40 = .ok (.iinc 3 1, 3) := by decide +kernel
theorem dX2_stepOfLongest_43 : decode cX2_stepOfLongest 43 = .ok (.goto (-20), 3) := by decide +kernel
theorem dX2_stepOfLongest_46 : decode cX2_stepOfLongest 46 = .ok (.iload_n 2, 1) := by decide +kernel
theorem dX2_stepOfLongest_47 : decode cX2_stepOfLongest 47 = .ok (.ireturn, 1) := by decide +kernel
theorem dX2_firstStepUp_0 : decode cX2_firstStepUp 0 = .ok (.iload_n 1, 1) := by decide +kernel
theorem dX2_firstStepUp_1 : decode cX2_firstStepUp 1 = .ok (.iconst 1, 1) := by decide +kernel
theorem dX2_firstStepUp_2 : decode cX2_firstStepUp 2 = .ok (.iadd, 1) := by decide +kernel
theorem dX2_firstStepUp_3 : decode cX2_firstStepUp 3 = .ok (.istore_n 2, 1) := by decide +kernel
theorem dX2_firstStepUp_4 : decode cX2_firstStepUp 4 = .ok (.iload_n 2, 1) := by decide +kernel
theorem dX2_firstStepUp_5 : decode cX2_firstStepUp 5 = .ok (.aload_n 0, 1) := by decide +kernel
theorem dX2_firstStepUp_6 : decode cX2_firstStepUp 6 = .ok (.getfield 9, 3) := by decide +kernel
theorem dX2_firstStepUp_9 : decode cX2_firstStepUp 9 = .ok (.getfield 35, 3) := by decide +kernel
theorem dX2_firstStepUp_12 : decode cX2_firstStepUp 12 = .ok (.getfield 41, 3) := by decide +kernel
theorem dX2_firstStepUp_15 : decode cX2_firstStepUp 15 = .ok (.if_icmp .ge 68, 3) := by decide +kernel
theorem dX2_firstStepUp_18 : decode cX2_firstStepUp 18 = .ok (.aload_n 0, 1) := by decide +kernel
theorem dX2_firstStepUp_19 : decode cX2_firstStepUp 19 = .ok (.iload_n 2, 1) := by decide +kernel
theorem dX2_firstStepUp_20 : decode cX2_firstStepUp 20 = .ok (.invokevirtual 67, 3) := by decide +kernel
theorem dX2_firstStepUp_23 : decode cX2_firstStepUp 23 = .ok (.iconst 1, 1) := by decide +kernel
theorem dX2_firstStepUp_24 : decode cX2_firstStepUp 24 = .ok (.iadd, 1) := by decide +kernel
theorem dX2_firstStepUp_25 : decode cX2_firstStepUp 25 = .ok (.aload_n 0, 1) := by decide +kernel
theorem dX2_firstStepUp_26 : decode cX2_firstStepUp 26 = .ok (.iload_n 1, 1) := by decide +kernel
theorem dX2_firstStepUp_27 : decode cX2_firstStepUp 27 = .ok (.invokevirtual 67, 3) := by decide +kernel
theorem dX2_firstStepUp_30 : decode cX2_firstStepUp 30 = .ok (.if_icmp .ne 7, 3) := by decide +kernel
theorem dX2_firstStepUp_33 : decode cX2_firstStepUp 33 = .ok (.iconst 1, 1) := by decide +kernel
theorem dX2_firstStepUp_34 : decode cX2_firstStepUp 34 = .ok (.goto 4, 3) := by decide +kernel
theorem dX2_firstStepUp_37 : decode cX2_firstStepUp 37 = .ok (.iconst 0, 1) := by decide +kernel
theorem dX2_firstStepUp_38 : decode cX2_firstStepUp 38 = .ok (.istore_n 3, 1) := by decide +kernel
theorem dX2_firstStepUp_39 : decode cX2_firstStepUp 39 = .ok (.iload_n 3, 1) := by decide +kernel
theorem dX2_firstStepUp_40 : decode cX2_firstStepUp 40 = .ok (.ifCond .eq 37, 3) := by decide +kernel
theorem dX2_firstStepUp_43 : decode cX2_firstStepUp 43 = .ok (.aload_n 0, 1) := by decide +kernel
theorem dX2_firstStepUp_44 : decode cX2_firstStepUp 44 = .ok (.getfield 9, 3) := by decide +kernel
theorem dX2_firstStepUp_47 : decode cX2_firstStepUp 47 = .ok (.aload_n 0, 1) := by decide +kernel
theorem dX2_firstStepUp_48 : decode cX2_firstStepUp 48 = .ok (.getfield 9, 3) := by decide +kernel
theorem dX2_firstStepUp_51 : decode cX2_firstStepUp 51 = .ok (.getfield 35, 3) := by decide +kernel
theorem dX2_firstStepUp_54 : decode cX2_firstStepUp 54 = .ok (.iload_n 2, 1) := by decide +kernel
theorem dX2_firstStepUp_55 : decode cX2_firstStepUp 55 = .ok (.invokevirtual 53, 3) := by decide +kernel
theorem dX2_firstStepUp_58 : decode cX2_firstStepUp 58 = .ok (.aload_n 0, 1) := by decide +kernel
theorem dX2_firstStepUp_59 : decode cX2_firstStepUp 59 = .ok (.getfield 9, 3) := by decide +kernel
theorem dX2_firstStepUp_62 : decode cX2_firstStepUp 62 = .ok (.getfield 35, 3) := by decide +kernel
theorem dX2_firstStepUp_65 : decode cX2_firstStepUp 65 = .ok (.iload_n 1, 1) := by decide +kernel
theorem dX2_firstStepUp_66 : decode cX2_firstStepUp 66 = .ok (.invokevirtual 53, 3) := by decide +kernel
theorem dX2_firstStepUp_69 : decode cX2_firstStepUp 69 = .ok (.invokevirtual 57, 3) := by decide +kernel
theorem dX2_firstStepUp_72 : decode cX2_firstStepUp 72 = .ok (.ifCond .eq 5, 3) := by decide +kernel
theorem dX2_firstStepUp_75 : decode cX2_firstStepUp 75 = .ok (.iload_n 2, 1) := by decide +kernel
theorem dX2_firstStepUp_76 : decode cX2_firstStepUp 76 = .ok (.ireturn, 1) := by decide +kernel
theorem dX2_firstStepUp_77 : decode cX2_firstStepUp 77 = .ok (.iinc 2 1, 3) := by decide +kernel
theorem dX2_firstStepUp_80 : decode cX2_firstStepUp 80 = .ok (.goto (-76), 3) := by decide +kernel
theorem dX2_firstStepUp_83 : decode cX2_firstStepUp 83 = .ok (.iload_n 1, 1) := by decide +kernel
theorem dX2_firstStepUp_84 : decode cX2_firstStepUp 84 = .ok (.ireturn, 1) := by decide +kernel
theorem dX3_init_0 : decode cX3_init 0 = .ok (.aload_n 0, 1) := by decide +kernel
theorem dX3_init_1 : decode cX3_init 1 = .ok (.invokespecial 3, 3) := by decide +kernel
theorem dX3_init_4 : decode cX3_init 4 = .ok (.aload_n 0, 1) := by decide +kernel
theorem dX3_init_5 : decode cX3_init 5 = .ok (.aload_n 1, 1) := by decide +kernel
theorem dX3_init_6 : decode cX3_init 6 = .ok (.putfield 9, 3) := by decide +kernel
theorem dX3_init_9 : decode cX3_init 9 = .ok (.aload_n 0, 1) := by decide +kernel
theorem dX3_init_10 : decode cX3_init 10 = .ok (.aload_n 2, 1) := by decide +kernel
theorem dX3_init_11 : decode cX3_init 11 = .ok (.putfield 15, 3) := by decide +kernel
theorem dX3_init_14 : decode cX3_init 14 = .ok (.aload_n 0, 1) := by decide +kernel
theorem dX3_init_15 : decode cX3_init 15 = .ok (.iconst 0, 1) := by decide +kernel
theorem dX3_init_16 : decode cX3_init 16 = .ok (.putfield 19, 3) := by decide +kernel
theorem dX3_init_19 : decode cX3_init 19 = .ok (.aload_n 0, 1) := by decide +kernel
theorem dX3_init_20 : decode cX3_init 20 = .ok (.iconst (-1), 1) := by decide +kernel
theorem dX3_init_21 : decode cX3_init 21 = .ok (.putfield 23, 3) := by decide +kernel
theorem dX3_init_24 : decode cX3_init 24 = .ok (.return_, 1) := by decide +kernel
theorem dX3_read_0 : decode cX3_read 0 = .ok (.aload_n 0, 1) := by decide +kernel
theorem dX3_read_1 : decode cX3_read 1 = .ok (.iconst 0, 1) := by decide +kernel
theorem dX3_read_2 : decode cX3_read 2 = .ok (.putfield 19, 3) := by decide +kernel
theorem dX3_read_5 : decode cX3_read 5 = .ok (.aload_n 0, 1) := by decide +kernel
theorem dX3_read_6 : decode cX3_read 6 = .ok (.iconst (-1), 1) := by decide +kernel
theorem dX3_read_7 : decode cX3_read 7 = .ok (.putfield 23, 3) := by decide +kernel
theorem dX3_read_10 : decode cX3_read 10 = .ok (.aload_n 0, 1) := by decide +kernel
theorem dX3_read_11 : decode cX3_read 11 = .ok (.getfield 15, 3) := by decide +kernel
theorem dX3_read_14 : decode cX3_read 14 = .ok (.invokevirtual 26, 3) := by decide +kernel
theorem dX3_read_17 : decode cX3_read 17 = .ok (.aload_n 0, 1) := by decide +kernel
theorem dX3_read_18 : decode cX3_read 18 = .ok (.invokevirtual 31, 3) := by decide +kernel
theorem dX3_read_21 : decode cX3_read 21 = .ok (.iconst 1, 1) := by decide +kernel
theorem dX3_read_22 : decode cX3_read 22 = .ok (.istore_n 1, 1) := by decide +kernel
theorem dX3_read_23 : decode cX3_read 23 = .ok (.iconst 0, 1) := by decide +kernel
theorem dX3_read_24 : decode cX3_read 24 = .ok (.istore_n 2, 1) := by decide +kernel
theorem dX3_read_25 : decode cX3_read 25 = .ok (.iload_n 2, 1) := by decide +kernel
theorem dX3_read_26 : decode cX3_read 26 = .ok (.sipush 300, 3) := by decide +kernel
theorem dX3_read_29 : decode cX3_read 29 = .ok (.if_icmp .ge 42, 3) := by decide +kernel
theorem dX3_read_32 : decode cX3_read 32 = .ok (.aload_n 0, 1) := by decide +kernel
theorem dX3_read_33 : decode cX3_read 33 = .ok (.getfield 23, 3) := by decide +kernel
theorem dX3_read_36 : decode cX3_read 36 = .ok (.iconst (-1), 1) := by decide +kernel
theorem dX3_read_37 : decode cX3_read 37 = .ok (.if_icmp .ne 34, 3) := by decide +kernel
theorem dX3_read_40 : decode cX3_read 40 = .ok (.aload_n 0, 1) := by decide +kernel
theorem dX3_read_41 : decode cX3_read 41 = .ok (.getfield 19, 3) := by decide +kernel
theorem dX3_read_44 : decode cX3_read 44 = .ok (.aload_n 0, 1) := by decide +kernel
theorem dX3_read_45 : decode cX3_read 45 = .ok (.getfield 9, 3) := by decide +kernel
theorem dX3_read_48 : decode cX3_read 48 = .ok (.getfield 34, 3) := by decide +kernel
theorem dX3_read_51 : decode cX3_read 51 = .ok (.if_icmp .ge 20, 3) := by decide +kernel
theorem dX3_read_54 : decode cX3_read 54 = .ok (.aload_n 0, 1) := by decide +kernel
theorem dX3_read_55 : decode cX3_read 55 = .ok (.iload_n 1, 1) := by decide +kernel
theorem dX3_read_56 : decode cX3_read 56 = .ok (.invokevirtual 39, 3) := by decide +kernel
theorem dX3_read_59 : decode cX3_read 59 = .ok (.iconst 0, 1) := by decide +kernel
theorem dX3_read_60 : decode cX3_read 60 = .ok (.istore_n 1, 1) := by decide +kernel
theorem dX3_read_61 : decode cX3_read 61 = .ok (.aload_n 0, 1) := by decide +kernel
theorem dX3_read_62 : decode cX3_read 62 = .ok (.invokevirtual 31, 3) := by decide +kernel
theorem dX3_read_65 : decode cX3_read 65 = .ok (.iinc 2 1, 3) := by decide +kernel
theorem dX3_read_68 : decode cX3_read 68 = .ok (.goto (-43), 3) := by decide +kernel
theorem dX3_read_71 : decode cX3_read 71 = .ok (.aload_n 0, 1) := by decide +kernel
theorem dX3_read_72 : decode cX3_read 72 = .ok (.getfield 23, 3) := by decide +kernel
theorem dX3_read_75 : decode cX3_read 75 = .ok (.ireturn, 1) := by decide +kernel
theorem dX3_readClause_0 : decode cX3_readClause 0 = .ok (.aload_n 0, 1) := by decide +kernel
theorem dX3_readClause_1 : decode cX3_readClause 1 = .ok (.getfield 19, 3) := by decide +kernel
theorem dX3_readClause_4 : decode cX3_readClause 4 = .ok (.istore_n 2, 1) := by decide +kernel
theorem dX3_readClause_5 : decode cX3_readClause 5 = .ok (.aload_n 0, 1) := by decide +kernel
theorem dX3_readClause_6 : decode cX3_readClause 6 = .ok (.iload_n 2, 1) := by decide +kernel
theorem dX3_readClause_7 : decode cX3_readClause 7 = .ok (.invokevirtual 43, 3) := by decide +kernel
theorem dX3_readClause_10 : decode cX3_readClause 10 = .ok (.istore_n 3, 1) := by decide +kernel
theorem dX3_readClause_11 : decode cX3_readClause 11 = .ok (.aload_n 0, 1) := by decide +kernel
theorem dX3_readClause_12 : decode cX3_readClause 12 = .ok (.iload_n 3, 1) := by decide +kernel
theorem dX3_readClause_13 : decode cX3_readClause 13 = .ok (.putfield 19, 3) := by decide +kernel
theorem dX3_readClause_16 : decode cX3_readClause 16 = .ok (.aload_n 0, 1) := by decide +kernel
theorem dX3_readClause_17 : decode cX3_readClause 17 = .ok (.iload_n 2, 1) := by decide +kernel
theorem dX3_readClause_18 : decode cX3_readClause 18 = .ok (.iload_n 3, 1) := by decide +kernel
theorem dX3_readClause_19 : decode cX3_readClause 19 = .ok (.ldc 47, 2) := by decide +kernel
theorem dX3_readClause_21 : decode cX3_readClause 21 = .ok (.invokevirtual 49, 3) := by decide +kernel
theorem dX3_readClause_24 : decode cX3_readClause 24 = .ok (.ifCond .eq 14, 3) := by decide +kernel
theorem dX3_readClause_27 : decode cX3_readClause 27 = .ok (.iload_n 1, 1) := by decide +kernel
theorem dX3_readClause_28 : decode cX3_readClause 28 = .ok (.ifCond .eq 10, 3) := by decide +kernel
theorem dX3_readClause_31 : decode cX3_readClause 31 = .ok (.aload_n 0, 1) := by decide +kernel
theorem dX3_readClause_32 : decode cX3_readClause 32 = .ok (.invokevirtual 53, 3) := by decide +kernel
theorem dX3_readClause_35 : decode cX3_readClause 35 = .ok (.goto 59, 3) := by decide +kernel
theorem dX3_readClause_38 : decode cX3_readClause 38 = .ok (.aload_n 0, 1) := by decide +kernel
theorem dX3_readClause_39 : decode cX3_readClause 39 = .ok (.iload_n 2, 1) := by decide +kernel
theorem dX3_readClause_40 : decode cX3_readClause 40 = .ok (.iload_n 3, 1) := by decide +kernel
theorem dX3_readClause_41 : decode cX3_readClause 41 = .ok (.ldc 56, 2) := by decide +kernel
theorem dX3_readClause_43 : decode cX3_readClause 43 = .ok (.invokevirtual 49, 3) := by decide +kernel
theorem dX3_readClause_46 : decode cX3_readClause 46 = .ok (.ifCond .eq 10, 3) := by decide +kernel
theorem dX3_readClause_49 : decode cX3_readClause 49 = .ok (.aload_n 0, 1) := by decide +kernel
theorem dX3_readClause_50 : decode cX3_readClause 50 = .ok (.invokevirtual 58, 3) := by decide +kernel
theorem dX3_readClause_53 : decode cX3_readClause 53 = .ok (.goto 41, 3) := by decide +kernel
theorem dX3_readClause_56 : decode cX3_readClause 56 = .ok (.aload_n 0, 1) := by decide +kernel
theorem dX3_readClause_57 : decode cX3_readClause 57 = .ok (.iload_n 2, 1) := by decide +kernel
theorem dX3_readClause_58 : decode cX3_readClause 58 = .ok (.iload_n 3, 1) := by decide +kernel
theorem dX3_readClause_59 : decode cX3_readClause 59 = .ok (.ldc 61, 2) := by decide +kernel
theorem dX3_readClause_61 : decode cX3_readClause 61 = .ok (.invokevirtual 49, 3) := by decide +kernel
theorem dX3_readClause_64 : decode cX3_readClause 64 = .ok (.ifCond .eq 25, 3) := by decide +kernel
theorem dX3_readClause_67 : decode cX3_readClause 67 = .ok (.aload_n 0, 1) := by decide +kernel
theorem dX3_readClause_68 : decode cX3_readClause 68 = .ok (.getfield 15, 3) := by decide +kernel
theorem dX3_readClause_71 : decode cX3_readClause 71 = .ok (.getfield 63, 3) := by decide +kernel
theorem dX3_readClause_74 : decode cX3_readClause 74 = .ok (.getfield 34, 3) := by decide +kernel
theorem dX3_readClause_77 : decode cX3_readClause 77 = .ok (.bipush 12, 2) := by decide +kernel
theorem dX3_readClause_79 : decode cX3_readClause 79 = .ok (.if_icmp .ge 10, 3) := by decide +kernel
theorem dX3_readClause_82 : decode cX3_readClause 82 = .ok (.aload_n 0, 1) := by decide +kernel
theorem dX3_readClause_83 : decode cX3_readClause 83 = .ok (.invokevirtual 66, 3) := by decide +kernel
theorem dX3_readClause_86 : decode cX3_readClause 86 = .ok (.goto 8, 3) := by decide +kernel
theorem dX3_readClause_89 : decode cX3_readClause 89 = .ok (.aload_n 0, 1) := by decide +kernel
theorem dX3_readClause_90 : decode cX3_readClause 90 = .ok (.iload_n 2, 1) := by decide +kernel
theorem dX3_readClause_91 : decode cX3_readClause 91 = .ok (.invokevirtual 69, 3) := by decide +kernel
theorem dX3_readClause_94 : decode cX3_readClause 94 = .ok (.aload_n 0, 1) := by decide +kernel
theorem dX3_readClause_95 : decode cX3_readClause 95 = .ok (.invokevirtual 73, 3) := by decide +kernel
theorem dX3_readClause_98 : decode cX3_readClause 98 = .ok (.return_, 1) := by decide +kernel
theorem dX3_readPoints_0 : decode cX3_readPoints 0 = .ok (.aload_n 0, 1) := by decide +kernel
theorem dX3_readPoints_1 : decode cX3_readPoints 1 = .ok (.invokevirtual 76, 3) := by decide +kernel
theorem dX3_readPoints_4 : decode cX3_readPoints 4 = .ok (.aload_n 0, 1) := by decide +kernel
theorem dX3_readPoints_5 : decode cX3_readPoints 5 = .ok (.getfield 15, 3) := by decide +kernel
theorem dX3_readPoints_8 : decode cX3_readPoints 8 = .ok (.aload_n 0, 1) := by decide +kernel
theorem dX3_readPoints_9 : decode cX3_readPoints 9 = .ok (.iconst 1, 1) := by decide +kernel
theorem dX3_readPoints_10 : decode cX3_readPoints 10 = .ok (.bipush 7, 2) := by decide +kernel
theorem dX3_readPoints_12 : decode cX3_readPoints 12 = .ok (.invokevirtual 79, 3) := by decide +kernel
theorem dX3_readPoints_15 : decode cX3_readPoints 15 = .ok (.putfield 83, 3) := by decide +kernel
theorem dX3_readPoints_18 : decode cX3_readPoints 18 = .ok (.return_, 1) := by decide +kernel
theorem dX3_readWeight_0 : decode cX3_readWeight 0 = .ok (.aload_n 0, 1) := by decide +kernel
theorem dX3_readWeight_1 : decode cX3_readWeight 1 = .ok (.invokevirtual 76, 3) := by decide +kernel
theorem dX3_readWeight_4 : decode cX3_readWeight 4 = .ok (.aload_n 0, 1) := by decide +kernel
theorem dX3_readWeight_5 : decode cX3_readWeight 5 = .ok (.getfield 19, 3) := by decide +kernel
theorem dX3_readWeight_8 : decode cX3_readWeight 8 = .ok (.istore_n 1, 1) := by decide +kernel
theorem dX3_readWeight_9 : decode cX3_readWeight 9 = .ok (.aload_n 0, 1) := by decide +kernel
theorem dX3_readWeight_10 : decode cX3_readWeight 10 = .ok (.iload_n 1, 1) := by decide +kernel
theorem dX3_readWeight_11 : decode cX3_readWeight 11 = .ok (.invokevirtual 43, 3) := by decide +kernel
theorem dX3_readWeight_14 : decode cX3_readWeight 14 = .ok (.istore_n 2, 1) := by decide +kernel
theorem dX3_readWeight_15 : decode cX3_readWeight 15 = .ok (.aload_n 0, 1) := by decide +kernel
theorem dX3_readWeight_16 : decode cX3_readWeight 16 = .ok (.getfield 9, 3) := by decide +kernel
theorem dX3_readWeight_19 : decode cX3_readWeight 19 = .ok (.iload_n 1, 1) := by decide +kernel
theorem dX3_readWeight_20 : decode cX3_readWeight 20 = .ok (.invokevirtual 85, 3) := by decide +kernel
theorem dX3_readWeight_23 : decode cX3_readWeight 23 = .ok (.bipush 97, 2) := by decide +kernel
theorem dX3_readWeight_25 : decode cX3_readWeight 25 = .ok (.isub, 1) := by decide +kernel
theorem dX3_readWeight_26 : decode cX3_readWeight 26 = .ok (.istore_n 3, 1) := by decide +kernel
theorem dX3_readWeight_27 : decode cX3_readWeight 27 = .ok (.iload_n 2, 1) := by decide +kernel
theorem dX3_readWeight_28 : decode cX3_readWeight 28 = .ok (.iload_n 1, 1) := by decide +kernel
theorem dX3_readWeight_29 : decode cX3_readWeight 29 = .ok (.iconst 1, 1) := by decide +kernel
theorem dX3_readWeight_30 : decode cX3_readWeight 30 = .ok (.iadd, 1) := by decide +kernel
theorem dX3_readWeight_31 : decode cX3_readWeight 31 = .ok (.if_icmp .ne 14, 3) := by decide +kernel
theorem dX3_readWeight_34 : decode cX3_readWeight 34 = .ok (.iload_n 3, 1) := by decide +kernel
theorem dX3_readWeight_35 : decode cX3_readWeight 35 = .ok (.aload_n 0, 1) := by decide +kernel
theorem dX3_readWeight_36 : decode cX3_readWeight 36 = .ok (.getfield 15, 3) := by decide +kernel
theorem dX3_readWeight_39 : decode cX3_readWeight 39 = .ok (.getfield 83, 3) := by decide +kernel
theorem dX3_readWeight_42 : decode cX3_readWeight 42 = .ok (.if_icmp .lt 8, 3) := by decide +kernel
theorem dX3_readWeight_45 : decode cX3_readWeight 45 = .ok (.aload_n 0, 1) := by decide +kernel
theorem dX3_readWeight_46 : decode cX3_readWeight 46 = .ok (.iload_n 1, 1) := by decide +kernel
theorem dX3_readWeight_47 : decode cX3_readWeight 47 = .ok (.invokevirtual 69, 3) := by decide +kernel
theorem dX3_readWeight_50 : decode cX3_readWeight 50 = .ok (.aload_n 0, 1) := by decide +kernel
theorem dX3_readWeight_51 : decode cX3_readWeight 51 = .ok (.iload_n 2, 1) := by decide +kernel
theorem dX3_readWeight_52 : decode cX3_readWeight 52 = .ok (.putfield 19, 3) := by decide +kernel
theorem dX3_readWeight_55 : decode cX3_readWeight 55 = .ok (.aload_n 0, 1) := by decide +kernel
theorem dX3_readWeight_56 : decode cX3_readWeight 56 = .ok (.invokevirtual 76, 3) := by decide +kernel
theorem dX3_readWeight_59 : decode cX3_readWeight 59 = .ok (.aload_n 0, 1) := by decide +kernel
theorem dX3_readWeight_60 : decode cX3_readWeight 60 = .ok (.getfield 15, 3) := by decide +kernel
theorem dX3_readWeight_63 : decode cX3_readWeight 63 = .ok (.iload_n 3, 1) := by decide +kernel
theorem dX3_readWeight_64 : decode cX3_readWeight 64 = .ok (.aload_n 0, 1) := by decide +kernel
theorem dX3_readWeight_65 : decode cX3_readWeight 65 = .ok (.iconst 0, 1) := by decide +kernel
theorem dX3_readWeight_66 : decode cX3_readWeight 66 = .ok (.bipush 9, 2) := by decide +kernel
theorem dX3_readWeight_68 : decode cX3_readWeight 68 = .ok (.invokevirtual 79, 3) := by decide +kernel
theorem dX3_readWeight_71 : decode cX3_readWeight 71 = .ok (.invokevirtual 88, 3) := by decide +kernel
theorem dX3_readWeight_74 : decode cX3_readWeight 74 = .ok (.return_, 1) := by decide +kernel
theorem dX3_readSet_0 : decode cX3_readSet 0 = .ok (.aload_n 0, 1) := by decide +kernel
theorem dX3_readSet_1 : decode cX3_readSet 1 = .ok (.invokevirtual 76, 3) := by decide +kernel
theorem dX3_readSet_4 : decode cX3_readSet 4 = .ok (.aload_n 0, 1) := by decide +kernel
theorem dX3_readSet_5 : decode cX3_readSet 5 = .ok (.getfield 19, 3) := by decide +kernel
theorem dX3_readSet_8 : decode cX3_readSet 8 = .ok (.istore_n 1, 1) := by decide +kernel
theorem dX3_readSet_9 : decode cX3_readSet 9 = .ok (.aload_n 0, 1) := by decide +kernel
theorem dX3_readSet_10 : decode cX3_readSet 10 = .ok (.iload_n 1, 1) := by decide +kernel
theorem dX3_readSet_11 : decode cX3_readSet 11 = .ok (.invokevirtual 43, 3) := by decide +kernel
theorem dX3_readSet_14 : decode cX3_readSet 14 = .ok (.istore_n 2, 1) := by decide +kernel
theorem dX3_readSet_15 : decode cX3_readSet 15 = .ok (.iconst 0, 1) := by decide +kernel
theorem dX3_readSet_16 : decode cX3_readSet 16 = .ok (.istore_n 3, 1) := by decide +kernel
theorem dX3_readSet_17 : decode cX3_readSet 17 = .ok (.iload_n 1, 1) := by decide +kernel
theorem dX3_readSet_18 : decode cX3_readSet 18 = .ok (.istore 4, 2) := by decide +kernel
theorem dX3_readSet_20 : decode cX3_readSet 20 = .ok (.iload 4, 2) := by decide +kernel
theorem dX3_readSet_22 : decode cX3_readSet 22 = .ok (.iload_n 2, 1) := by decide +kernel
theorem dX3_readSet_23 : decode cX3_readSet 23 = .ok (.if_icmp .ge 60, 3) := by decide +kernel
theorem dX3_readSet_26 : decode cX3_readSet 26 = .ok (.aload_n 0, 1) := by decide +kernel
theorem dX3_readSet_27 : decode cX3_readSet 27 = .ok (.getfield 9, 3) := by decide +kernel
theorem dX3_readSet_30 : decode cX3_readSet 30 = .ok (.iload 4, 2) := by decide +kernel
theorem dX3_readSet_32 : decode cX3_readSet 32 = .ok (.invokevirtual 85, 3) := by decide +kernel
theorem dX3_readSet_35 : decode cX3_readSet 35 = .ok (.bipush 97, 2) := by decide +kernel
theorem dX3_readSet_37 : decode cX3_readSet 37 = .ok (.isub, 1) := by decide +kernel
theorem dX3_readSet_38 : decode cX3_readSet 38 = .ok (.istore 5, 2) := by decide +kernel
theorem dX3_readSet_40 : decode cX3_readSet 40 = .ok (.iload 5, 2) := by decide +kernel
theorem dX3_readSet_42 : decode cX3_readSet 42 = .ok (.aload_n 0, 1) := by decide +kernel
theorem dX3_readSet_43 : decode cX3_readSet 43 = .ok (.getfield 15, 3) := by decide +kernel
theorem dX3_readSet_46 : decode cX3_readSet 46 = .ok (.getfield 83, 3) := by decide +kernel
theorem dX3_readSet_49 : decode cX3_readSet 49 = .ok (.if_icmp .ge 13, 3) := by decide +kernel
theorem dX3_readSet_52 : decode cX3_readSet 52 = .ok (.iload_n 3, 1) := by decide +kernel
theorem dX3_readSet_53 : decode cX3_readSet 53 = .ok (.iload 5, 2) := by decide +kernel
theorem dX3_readSet_55 : decode cX3_readSet 55 = .ok (.ishr, 1) := by decide +kernel
theorem dX3_readSet_56 : decode cX3_readSet 56 = .ok (.iconst 1, 1) := by decide +kernel
theorem dX3_readSet_57 : decode cX3_readSet 57 = .ok (.iand, 1) := by decide +kernel
theorem dX3_readSet_58 : decode cX3_readSet 58 = .ok (.iconst 1, 1) := by decide +kernel
theorem dX3_readSet_59 : decode cX3_readSet 59 = .ok (.if_icmp .ne 11, 3) := by decide +kernel
theorem dX3_readSet_62 : decode cX3_readSet 62 = .ok (.aload_n 0, 1) := by decide +kernel
theorem dX3_readSet_63 : decode cX3_readSet 63 = .ok (.iload_n 1, 1) := by decide +kernel
theorem dX3_readSet_64 : decode cX3_readSet 64 = .ok (.invokevirtual 69, 3) := by decide +kernel
theorem dX3_readSet_67 : decode cX3_readSet 67 = .ok (.goto 10, 3) := by decide +kernel
theorem dX3_readSet_70 : decode cX3_readSet 70 = .ok (.iload_n 3, 1) := by decide +kernel
theorem dX3_readSet_71 : decode cX3_readSet 71 = .ok (.iconst 1, 1) := by decide +kernel
theorem dX3_readSet_72 : decode cX3_readSet 72 = .ok (.iload 5, 2) := by decide +kernel
theorem dX3_readSet_74 : decode cX3_readSet 74 = .ok (.ishl, 1) := by decide +kernel
theorem dX3_readSet_75 : decode cX3_readSet 75 = .ok (.ior, 1) := by decide +kernel
theorem dX3_readSet_76 : decode cX3_readSet 76 = .ok (.istore_n 3, 1) := by decide +kernel
theorem dX3_readSet_77 : decode cX3_readSet 77 = .ok (.iinc 4 1, 3) := by decide +kernel
theorem dX3_readSet_80 : decode cX3_readSet 80 = .ok (.goto (-60), 3) := by decide +kernel
theorem dX3_readSet_83 : decode cX3_readSet 83 = .ok (.iload_n 3, 1) := by decide +kernel
theorem dX3_readSet_84 : decode cX3_readSet 84 = .ok (.ifCond .eq 18, 3) := by decide +kernel
theorem dX3_readSet_87 : decode cX3_readSet 87 = .ok (.aload_n 0, 1) := by decide +kernel
theorem dX3_readSet_88 : decode cX3_readSet 88 = .ok (.getfield 15, 3) := by decide +kernel
theorem dX3_readSet_91 : decode cX3_readSet 91 = .ok (.getfield 63, 3) := by decide +kernel
theorem dX3_readSet_94 : decode cX3_readSet 94 = .ok (.iload_n 3, 1) := by decide +kernel
theorem dX3_readSet_95 : decode cX3_readSet 95 = .ok (.invokevirtual 92, 3) := by decide +kernel
theorem dX3_readSet_98 : decode cX3_readSet 98 = .ok (.iconst (-1), 1) := by decide +kernel
theorem dX3_readSet_99 : decode cX3_readSet 99 = .ok (.if_icmp .eq 8, 3) := by decide +kernel
theorem dX3_readSet_102 : decode cX3_readSet 102 = .ok (.aload_n 0, 1) := by decide +kernel
theorem dX3_readSet_103 : decode cX3_readSet 103 = .ok (.iload_n 1, 1) := by decide +kernel
theorem dX3_readSet_104 : decode cX3_readSet 104 = .ok (.invokevirtual 69, 3) := by decide +kernel
theorem dX3_readSet_107 : decode cX3_readSet 107 = .ok (.aload_n 0, 1) := by decide +kernel
theorem dX3_readSet_108 : decode cX3_readSet 108 = .ok (.iload_n 2, 1) := by decide +kernel
theorem dX3_readSet_109 : decode cX3_readSet 109 = .ok (.putfield 19, 3) := by decide +kernel
theorem dX3_readSet_112 : decode cX3_readSet 112 = .ok (.aload_n 0, 1) := by decide +kernel
theorem dX3_readSet_113 : decode cX3_readSet 113 = .ok (.getfield 15, 3) := by decide +kernel
theorem dX3_readSet_116 : decode cX3_readSet 116 = .ok (.getfield 63, 3) := by decide +kernel
theorem dX3_readSet_119 : decode cX3_readSet 119 = .ok (.iload_n 3, 1) := by decide +kernel
theorem dX3_readSet_120 : decode cX3_readSet 120 = .ok (.invokevirtual 95, 3) := by decide +kernel
theorem dX3_readSet_123 : decode cX3_readSet 123 = .ok (.return_, 1) := by decide +kernel
theorem dX3_readDigit_0 : decode cX3_readDigit 0 = .ok (.aload_n 0, 1) := by decide +kernel
theorem dX3_readDigit_1 : decode cX3_readDigit 1 = .ok (.getfield 9, 3) := by decide +kernel
theorem dX3_readDigit_4 : decode cX3_readDigit 4 = .ok (.aload_n 0, 1) := by decide +kernel
theorem dX3_readDigit_5 : decode cX3_readDigit 5 = .ok (.getfield 19, 3) := by decide +kernel
theorem dX3_readDigit_8 : decode cX3_readDigit 8 = .ok (.invokevirtual 85, 3) := by decide +kernel
theorem dX3_readDigit_11 : decode cX3_readDigit 11 = .ok (.bipush 48, 2) := by decide +kernel
theorem dX3_readDigit_13 : decode cX3_readDigit 13 = .ok (.isub, 1) := by decide +kernel
theorem dX3_readDigit_14 : decode cX3_readDigit 14 = .ok (.istore_n 3, 1) := by decide +kernel
theorem dX3_readDigit_15 : decode cX3_readDigit 15 = .ok (.iload_n 3, 1) := by decide +kernel
theorem dX3_readDigit_16 : decode cX3_readDigit 16 = .ok (.iload_n 1, 1) := by decide +kernel
theorem dX3_readDigit_17 : decode cX3_readDigit 17 = .ok (.if_icmp .lt 8, 3) := by decide +kernel
theorem dX3_readDigit_20 : decode cX3_readDigit 20 = .ok (.iload_n 3, 1) := by decide +kernel
theorem dX3_readDigit_21 : decode cX3_readDigit 21 = .ok (.iload_n 2, 1) := by decide +kernel
theorem dX3_readDigit_22 : decode cX3_readDigit 22 = .ok (.if_icmp .le 13, 3) := by decide +kernel
theorem dX3_readDigit_25 : decode cX3_readDigit 25 = .ok (.aload_n 0, 1) := by decide +kernel
theorem dX3_readDigit_26 : decode cX3_readDigit 26 = .ok (.aload_n 0, 1) := by decide +kernel
theorem dX3_readDigit_27 : decode cX3_readDigit 27 = .ok (.getfield 19, 3) := by decide +kernel
theorem dX3_readDigit_30 : decode cX3_readDigit 30 = .ok (.invokevirtual 69, 3) := by decide +kernel
theorem dX3_readDigit_33 : decode cX3_readDigit 33 = .ok (.iload_n 1, 1) := by decide +kernel
theorem dX3_readDigit_34 : decode cX3_readDigit 34 = .ok (.ireturn, 1) := by decide +kernel
theorem dX3_readDigit_35 : decode cX3_readDigit 35 = .ok (.aload_n 0, 1) := by decide +kernel
theorem dX3_readDigit_36 : decode cX3_readDigit 36 = .ok (.dup, 1) := by decide +kernel
theorem dX3_readDigit_37 : decode cX3_readDigit 37 = .ok (.getfield 19, 3) := by decide +kernel
theorem dX3_readDigit_40 : decode cX3_readDigit 40 = .ok (.iconst 1, 1) := by decide +kernel
theorem dX3_readDigit_41 : decode cX3_readDigit 41 = .ok (.iadd, 1) := by decide +kernel
theorem dX3_readDigit_42 : decode cX3_readDigit 42 = .ok (.putfield 19, 3) := by decide +kernel
theorem dX3_readDigit_45 : decode cX3_readDigit 45 = .ok (.iload_n 3, 1) := by decide +kernel
theorem dX3_readDigit_46 : decode cX3_readDigit 46 = .ok (.ireturn, 1) := by decide +kernel
theorem dX3_expectGap_0 : decode cX3_expectGap 0 = .ok (.aload_n 0, 1) := by decide +kernel
theorem dX3_expectGap_1 : decode cX3_expectGap 1 = .ok (.getfield 9, 3) := by decide +kernel
theorem dX3_expectGap_4 : decode cX3_expectGap 4 = .ok (.aload_n 0, 1) := by decide +kernel
theorem dX3_expectGap_5 : decode cX3_expectGap 5 = .ok (.getfield 19, 3) := by decide +kernel
theorem dX3_expectGap_8 : decode cX3_expectGap 8 = .ok (.invokevirtual 85, 3) := by decide +kernel
theorem dX3_expectGap_11 : decode cX3_expectGap 11 = .ok (.invokestatic 98, 3) := by decide +kernel
theorem dX3_expectGap_14 : decode cX3_expectGap 14 = .ok (.ifCond .ne 11, 3) := by decide +kernel
theorem dX3_expectGap_17 : decode cX3_expectGap 17 = .ok (.aload_n 0, 1) := by decide +kernel
theorem dX3_expectGap_18 : decode cX3_expectGap 18 = .ok (.aload_n 0, 1) := by decide +kernel
theorem dX3_expectGap_19 : decode cX3_expectGap 19 = .ok (.getfield 19, 3) := by decide +kernel
theorem dX3_expectGap_22 : decode cX3_expectGap 22 = .ok (.invokevirtual 69, 3) := by decide +kernel
theorem dX3_expectGap_25 : decode cX3_expectGap 25 = .ok (.aload_n 0, 1) := by decide +kernel
theorem dX3_expectGap_26 : decode cX3_expectGap 26 = .ok (.invokevirtual 31, 3) := by decide +kernel
theorem dX3_expectGap_29 : decode cX3_expectGap 29 = .ok (.return_, 1) := by decide +kernel
theorem dX3_expectEnd_0 : decode cX3_expectEnd 0 = .ok (.aload_n 0, 1) := by decide +kernel
theorem dX3_expectEnd_1 : decode cX3_expectEnd 1 = .ok (.invokevirtual 31, 3) := by decide +kernel
theorem dX3_expectEnd_4 : decode cX3_expectEnd 4 = .ok (.aload_n 0, 1) := by decide +kernel
theorem dX3_expectEnd_5 : decode cX3_expectEnd 5 = .ok (.getfield 9, 3) := by decide +kernel
theorem dX3_expectEnd_8 : decode cX3_expectEnd 8 = .ok (.aload_n 0, 1) := by decide +kernel
theorem dX3_expectEnd_9 : decode cX3_expectEnd 9 = .ok (.getfield 19, 3) := by decide +kernel
theorem dX3_expectEnd_12 : decode cX3_expectEnd 12 = .ok (.invokevirtual 85, 3) := by decide +kernel
theorem dX3_expectEnd_15 : decode cX3_expectEnd 15 = .ok (.bipush 59, 2) := by decide +kernel
theorem dX3_expectEnd_17 : decode cX3_expectEnd 17 = .ok (.if_icmp .eq 11, 3) := by decide +kernel
theorem dX3_expectEnd_20 : decode cX3_expectEnd 20 = .ok (.aload_n 0, 1) := by decide +kernel
theorem dX3_expectEnd_21 : decode cX3_expectEnd 21 = .ok (.aload_n 0, 1) := by decide +kernel
theorem dX3_expectEnd_22 : decode cX3_expectEnd 22 = .ok (.getfield 19, 3) := by decide +kernel
theorem dX3_expectEnd_25 : decode cX3_expectEnd 25 = .ok (.invokevirtual 69, 3) := by decide +kernel
theorem dX3_expectEnd_28 : decode cX3_expectEnd 28 = .ok (.aload_n 0, 1) := by decide +kernel
theorem dX3_expectEnd_29 : decode cX3_expectEnd 29 = .ok (.dup, 1) := by decide +kernel
theorem dX3_expectEnd_30 : decode cX3_expectEnd 30 = .ok (.getfield 19, 3) := by decide +kernel
theorem dX3_expectEnd_33 : decode cX3_expectEnd 33 = .ok (.iconst 1, 1) := by decide +kernel
theorem dX3_expectEnd_34 : decode cX3_expectEnd 34 = .ok (.iadd, 1) := by decide +kernel
theorem dX3_expectEnd_35 : decode cX3_expectEnd 35 = .ok (.putfield 19, 3) := by decide +kernel
theorem dX3_expectEnd_38 : decode cX3_expectEnd 38 = .ok (.return_, 1) := by decide +kernel
theorem dX3_skipGap_0 : decode cX3_skipGap 0 = .ok (.aload_n 0, 1) := by decide +kernel
theorem dX3_skipGap_1 : decode cX3_skipGap 1 = .ok (.getfield 19, 3) := by decide +kernel
theorem dX3_skipGap_4 : decode cX3_skipGap 4 = .ok (.aload_n 0, 1) := by decide +kernel
theorem dX3_skipGap_5 : decode cX3_skipGap 5 = .ok (.getfield 9, 3) := by decide +kernel
theorem dX3_skipGap_8 : decode cX3_skipGap 8 = .ok (.getfield 34, 3) := by decide +kernel
theorem dX3_skipGap_11 : decode cX3_skipGap 11 = .ok (.if_icmp .ge 33, 3) := by decide +kernel
theorem dX3_skipGap_14 : decode cX3_skipGap 14 = .ok (.aload_n 0, 1) := by decide +kernel
theorem dX3_skipGap_15 : decode cX3_skipGap 15 = .ok (.getfield 9, 3) := by decide +kernel
theorem dX3_skipGap_18 : decode cX3_skipGap 18 = .ok (.aload_n 0, 1) := by decide +kernel
theorem dX3_skipGap_19 : decode cX3_skipGap 19 = .ok (.getfield 19, 3) := by decide +kernel
theorem dX3_skipGap_22 : decode cX3_skipGap 22 = .ok (.invokevirtual 85, 3) := by decide +kernel
theorem dX3_skipGap_25 : decode cX3_skipGap 25 = .ok (.invokestatic 98, 3) := by decide +kernel
theorem dX3_skipGap_28 : decode cX3_skipGap 28 = .ok (.ifCond .eq 16, 3) := by decide +kernel
theorem dX3_skipGap_31 : decode cX3_skipGap 31 = .ok (.aload_n 0, 1) := by decide +kernel
theorem dX3_skipGap_32 : decode cX3_skipGap 32 = .ok (.dup, 1) := by decide +kernel
theorem dX3_skipGap_33 : decode cX3_skipGap 33 = .ok (.getfield 19, 3) := by decide +kernel
theorem dX3_skipGap_36 : decode cX3_skipGap 36 = .ok (.iconst 1, 1) := by decide +kernel
theorem dX3_skipGap_37 : decode cX3_skipGap 37 = .ok (.iadd, 1) := by decide +kernel
theorem dX3_skipGap_38 : decode cX3_skipGap 38 = .ok (.putfield 19, 3) := by decide +kernel
theorem dX3_skipGap_41 : decode cX3_skipGap 41 = .ok (.goto (-41), 3) := by decide +kernel
theorem dX3_skipGap_44 : decode cX3_skipGap 44 = .ok (.return_, 1) := by decide +kernel
theorem dX3_lettersEnd_0 : decode cX3_lettersEnd 0 = .ok (.iload_n 1, 1) := by decide +kernel
theorem dX3_lettersEnd_1 : decode cX3_lettersEnd 1 = .ok (.istore_n 2, 1) := by decide +kernel
theorem dX3_lettersEnd_2 : decode cX3_lettersEnd 2 = .ok (.iload_n 2, 1) := by decide +kernel
theorem dX3_lettersEnd_3 : decode cX3_lettersEnd 3 = .ok (.aload_n 0, 1) := by decide +kernel
theorem dX3_lettersEnd_4 : decode cX3_lettersEnd 4 = .ok (.getfield 9, 3) := by decide +kernel
theorem dX3_lettersEnd_7 : decode cX3_lettersEnd 7 = .ok (.getfield 34, 3) := by decide +kernel
theorem dX3_lettersEnd_10 : decode cX3_lettersEnd 10 = .ok (.if_icmp .ge 23, 3) := by decide +kernel
theorem dX3_lettersEnd_13 : decode cX3_lettersEnd 13 = .ok (.aload_n 0, 1) := by decide +kernel
theorem dX3_lettersEnd_14 : decode cX3_lettersEnd 14 = .ok (.getfield 9, 3) := by decide +kernel
theorem dX3_lettersEnd_17 : decode cX3_lettersEnd 17 = .ok (.iload_n 2, 1) := by decide +kernel
theorem dX3_lettersEnd_18 : decode cX3_lettersEnd 18 = .ok (.invokevirtual 85, 3) := by decide +kernel
theorem dX3_lettersEnd_21 : decode cX3_lettersEnd 21 = .ok (.invokestatic 102, 3) := by decide +kernel
theorem dX3_lettersEnd_24 : decode cX3_lettersEnd 24 = .ok (.ifCond .eq 9, 3) := by decide +kernel
theorem dX3_lettersEnd_27 : decode cX3_lettersEnd 27 = .ok (.iinc 2 1, 3) := by decide +kernel
theorem dX3_lettersEnd_30 : decode cX3_lettersEnd 30 = .ok (.goto (-28), 3) := by decide +kernel
theorem dX3_lettersEnd_33 : decode cX3_lettersEnd 33 = .ok (.iload_n 2, 1) := by decide +kernel
theorem dX3_lettersEnd_34 : decode cX3_lettersEnd 34 = .ok (.ireturn, 1) := by decide +kernel
theorem dX3_isWord_0 : decode cX3_isWord 0 = .ok (.iload_n 2, 1) := by decide +kernel
theorem dX3_isWord_1 : decode cX3_isWord 1 = .ok (.iload_n 1, 1) := by decide +kernel
theorem dX3_isWord_2 : decode cX3_isWord 2 = .ok (.isub, 1) := by decide +kernel
theorem dX3_isWord_3 : decode cX3_isWord 3 = .ok (.aload_n 3, 1) := by decide +kernel
theorem dX3_isWord_4 : decode cX3_isWord 4 = .ok (.invokevirtual 105, 3) := by decide +kernel
theorem dX3_isWord_7 : decode cX3_isWord 7 = .ok (.if_icmp .eq 5, 3) := by decide +kernel
theorem dX3_isWord_10 : decode cX3_isWord 10 = .ok (.iconst 0, 1) := by decide +kernel
theorem dX3_isWord_11 : decode cX3_isWord 11 = .ok (.ireturn, 1) := by decide +kernel
theorem dX3_isWord_12 : decode cX3_isWord 12 = .ok (.iconst 0, 1) := by decide +kernel
theorem dX3_isWord_13 : decode cX3_isWord 13 = .ok (.istore 4, 2) := by decide +kernel
theorem dX3_isWord_15 : decode cX3_isWord 15 = .ok (.iload 4, 2) := by decide +kernel
theorem dX3_isWord_17 : decode cX3_isWord 17 = .ok (.aload_n 3, 1) := by decide +kernel
theorem dX3_isWord_18 : decode cX3_isWord 18 = .ok (.invokevirtual 105, 3) := by decide +kernel
theorem dX3_isWord_21 : decode cX3_isWord 21 = .ok (.if_icmp .ge 31, 3) := by decide +kernel
theorem dX3_isWord_24 : decode cX3_isWord 24 = .ok (.aload_n 0, 1) := by decide +kernel
theorem dX3_isWord_25 : decode cX3_isWord 25 = .ok (.getfield 9, 3) := by decide +kernel
theorem dX3_isWord_28 : decode cX3_isWord 28 = .ok (.iload_n 1, 1) := by decide +kernel
theorem dX3_isWord_29 : decode cX3_isWord 29 = .ok (.iload 4, 2) := by decide +kernel
theorem dX3_isWord_31 : decode cX3_isWord 31 = .ok (.iadd, 1) := by decide +kernel
theorem dX3_isWord_32 : decode cX3_isWord 32 = .ok (.invokevirtual 85, 3) := by decide +kernel
theorem dX3_isWord_35 : decode cX3_isWord 35 = .ok (.aload_n 3, 1) := by decide +kernel
theorem dX3_isWord_36 : decode cX3_isWord 36 = .ok (.iload 4, 2) := by decide +kernel
theorem dX3_isWord_38 : decode cX3_isWord 38 = .ok (.invokevirtual 111, 3) := by decide +kernel
theorem dX3_isWord_41 : decode cX3_isWord 41 = .ok (.if_icmp .eq 5, 3) := by decide +kernel
theorem dX3_isWord_44 : decode cX3_isWord 44 = .ok (.iconst 0, 1) := by decide +kernel
theorem dX3_isWord_45 : decode cX3_isWord 45 = .ok (.ireturn, 1) := by decide +kernel
theorem dX3_isWord_46 : decode cX3_isWord 46 = .ok (.iinc 4 1, 3) := by decide +kernel
theorem dX3_isWord_49 : decode cX3_isWord 49 = .ok (.goto (-34), 3) := by decide +kernel
theorem dX3_isWord_52 : decode cX3_isWord 52 = .ok (.iconst 1, 1) := by decide +kernel
theorem dX3_isWord_53 : decode cX3_isWord 53 = .ok (.ireturn, 1) := by decide +kernel
theorem dX3_fail_0 : decode cX3_fail 0 = .ok (.aload_n 0, 1) := by decide +kernel
theorem dX3_fail_1 : decode cX3_fail 1 = .ok (.getfield 23, 3) := by decide +kernel
theorem dX3_fail_4 : decode cX3_fail 4 = .ok (.iconst (-1), 1) := by decide +kernel
theorem dX3_fail_5 : decode cX3_fail 5 = .ok (.if_icmp .ne 8, 3) := by decide +kernel
theorem dX3_fail_8 : decode cX3_fail 8 = .ok (.aload_n 0, 1) := by decide +kernel
theorem dX3_fail_9 : decode cX3_fail 9 = .ok (.iload_n 1, 1) := by decide +kernel
theorem dX3_fail_10 : decode cX3_fail 10 = .ok (.putfield 23, 3) := by decide +kernel
theorem dX3_fail_13 : decode cX3_fail 13 = .ok (.return_, 1) := by decide +kernel
theorem dX3_isLetter_0 : decode cX3_isLetter 0 = .ok (.iload_n 0, 1) := by decide +kernel
theorem dX3_isLetter_1 : decode cX3_isLetter 1 = .ok (.bipush 97, 2) := by decide +kernel
theorem dX3_isLetter_3 : decode cX3_isLetter 3 = .ok (.if_icmp .lt 13, 3) := by decide +kernel
theorem dX3_isLetter_6 : decode cX3_isLetter 6 = .ok (.iload_n 0, 1) := by decide +kernel
theorem dX3_isLetter_7 : decode cX3_isLetter 7 = .ok (.bipush 122, 2) := by decide +kernel
theorem dX3_isLetter_9 : decode cX3_isLetter 9 = .ok (.if_icmp .gt 7, 3) := by decide +kernel
theorem dX3_isLetter_12 : decode cX3_isLetter 12 = .ok (.iconst 1, 1) := by decide +kernel
theorem dX3_isLetter_13 : decode cX3_isLetter 13 = .ok (.goto 4, 3) := by decide +kernel
theorem dX3_isLetter_16 : decode cX3_isLetter 16 = .ok (.iconst 0, 1) := by decide +kernel
theorem dX3_isLetter_17 : decode cX3_isLetter 17 = .ok (.ireturn, 1) := by decide +kernel
theorem dX3_isBlank_0 : decode cX3_isBlank 0 = .ok (.iload_n 0, 1) := by decide +kernel
theorem dX3_isBlank_1 : decode cX3_isBlank 1 = .ok (.bipush 32, 2) := by decide +kernel
theorem dX3_isBlank_3 : decode cX3_isBlank 3 = .ok (.if_icmp .eq 9, 3) := by decide +kernel
theorem dX3_isBlank_6 : decode cX3_isBlank 6 = .ok (.iload_n 0, 1) := by decide +kernel
theorem dX3_isBlank_7 : decode cX3_isBlank 7 = .ok (.bipush 10, 2) := by decide +kernel
theorem dX3_isBlank_9 : decode cX3_isBlank 9 = .ok (.if_icmp .ne 7, 3) := by decide +kernel
theorem dX3_isBlank_12 : decode cX3_isBlank 12 = .ok (.iconst 1, 1) := by decide +kernel
theorem dX3_isBlank_13 : decode cX3_isBlank 13 = .ok (.goto 4, 3) := by decide +kernel
theorem dX3_isBlank_16 : decode cX3_isBlank 16 = .ok (.iconst 0, 1) := by decide +kernel
theorem dX3_isBlank_17 : decode cX3_isBlank 17 = .ok (.ireturn, 1) := by decide +kernel
theorem dX4_init_0 : decode cX4_init 0 = .ok (.aload_n 0, 1) := by decide +kernel
theorem dX4_init_1 : decode cX4_init 1 = .ok (.invokespecial 3, 3) := by decide +kernel
theorem dX4_init_4 : decode cX4_init 4 = .ok (.aload_n 0, 1) := by decide +kernel
theorem dX4_init_5 : decode cX4_init 5 = .ok (.iload_n 1, 1) := by decide +kernel
theorem dX4_init_6 : decode cX4_init 6 = .ok (.iconst 0, 1) := by decide +kernel
theorem dX4_init_7 : decode cX4_init 7 = .ok (.invokestatic 9, 3) := by decide +kernel
theorem dX4_init_10 : decode cX4_init 10 = .ok (.newarray .int, 2) := by decide +kernel
theorem dX4_init_12 : decode cX4_init 12 = .ok (.putfield 15, 3) := by decide +kernel
theorem dX4_init_15 : decode cX4_init 15 = .ok (.aload_n 0, 1) := by decide +kernel
theorem dX4_init_16 : decode cX4_init 16 = .ok (.iconst 0, 1) := by decide +kernel
theorem dX4_init_17 : decode cX4_init 17 = .ok (.putfield 21, 3) := by decide +kernel
theorem dX4_init_20 : decode cX4_init 20 = .ok (.return_, 1) := by decide +kernel
theorem dX4_at_0 : decode cX4_at 0 = .ok (.iload_n 1, 1) := by decide +kernel
theorem dX4_at_1 : decode cX4_at 1 = .ok (.ifCond .lt 29, 3) := by decide +kernel
theorem dX4_at_4 : decode cX4_at 4 = .ok (.iload_n 1, 1) := by decide +kernel
theorem dX4_at_5 : decode cX4_at 5 = .ok (.aload_n 0, 1) := by decide +kernel
theorem dX4_at_6 : decode cX4_at 6 = .ok (.getfield 21, 3) := by decide +kernel
theorem dX4_at_9 : decode cX4_at 9 = .ok (.if_icmp .ge 21, 3) := by decide +kernel
theorem dX4_at_12 : decode cX4_at 12 = .ok (.iload_n 1, 1) := by decide +kernel
theorem dX4_at_13 : decode cX4_at 13 = .ok (.aload_n 0, 1) := by decide +kernel
theorem dX4_at_14 : decode cX4_at 14 = .ok (.getfield 15, 3) := by decide +kernel
theorem dX4_at_17 : decode cX4_at 17 = .ok (.arraylength, 1) := by decide +kernel
theorem dX4_at_18 : decode cX4_at 18 = .ok (.if_icmp .ge 12, 3) := by decide +kernel
theorem dX4_at_21 : decode cX4_at 21 = .ok (.aload_n 0, 1) := by decide +kernel
theorem dX4_at_22 : decode cX4_at 22 = .ok (.getfield 15, 3) := by decide +kernel
theorem dX4_at_25 : decode cX4_at 25 = .ok (.iload_n 1, 1) := by decide +kernel
theorem dX4_at_26 : decode cX4_at 26 = .ok (.iaload, 1) := by decide +kernel
theorem dX4_at_27 : decode cX4_at 27 = .ok (.goto 4, 3) := by decide +kernel
theorem dX4_at_30 : decode cX4_at 30 = .ok (.iconst (-1), 1) := by decide +kernel
theorem dX4_at_31 : decode cX4_at 31 = .ok (.ireturn, 1) := by decide +kernel
theorem dX4_find_0 : decode cX4_find 0 = .ok (.iconst 0, 1) := by decide +kernel
theorem dX4_find_1 : decode cX4_find 1 = .ok (.istore_n 2, 1) := by decide +kernel
theorem dX4_find_2 : decode cX4_find 2 = .ok (.iload_n 2, 1) := by decide +kernel
theorem dX4_find_3 : decode cX4_find 3 = .ok (.aload_n 0, 1) := by decide +kernel
theorem dX4_find_4 : decode cX4_find 4 = .ok (.getfield 21, 3) := by decide +kernel
theorem dX4_find_7 : decode cX4_find 7 = .ok (.if_icmp .ge 30, 3) := by decide +kernel
theorem dX4_find_10 : decode cX4_find 10 = .ok (.iload_n 2, 1) := by decide +kernel
theorem dX4_find_11 : decode cX4_find 11 = .ok (.aload_n 0, 1) := by decide +kernel
theorem dX4_find_12 : decode cX4_find 12 = .ok (.getfield 15, 3) := by decide +kernel
theorem dX4_find_15 : decode cX4_find 15 = .ok (.arraylength, 1) := by decide +kernel
theorem dX4_find_16 : decode cX4_find 16 = .ok (.if_icmp .ge 21, 3) := by decide +kernel
theorem dX4_find_19 : decode cX4_find 19 = .ok (.aload_n 0, 1) := by decide +kernel
theorem dX4_find_20 : decode cX4_find 20 = .ok (.getfield 15, 3) := by decide +kernel
theorem dX4_find_23 : decode cX4_find 23 = .ok (.iload_n 2, 1) := by decide +kernel
theorem dX4_find_24 : decode cX4_find 24 = .ok (.iaload, 1) := by decide +kernel
theorem dX4_find_25 : decode cX4_find 25 = .ok (.iload_n 1, 1) := by decide +kernel
theorem dX4_find_26 : decode cX4_find 26 = .ok (.if_icmp .ne 5, 3) := by decide +kernel
theorem dX4_find_29 : decode cX4_find 29 = .ok (.iload_n 2, 1) := by decide +kernel
theorem dX4_find_30 : decode cX4_find 30 = .ok (.ireturn, 1) := by decide +kernel
theorem dX4_find_31 : decode cX4_find 31 = .ok (.iinc 2 1, 3) := by decide +kernel
theorem dX4_find_34 : decode cX4_find 34 = .ok (.goto (-32), 3) := by decide +kernel
theorem dX4_find_37 : decode cX4_find 37 = .ok (.iconst (-1), 1) := by decide +kernel
theorem dX4_find_38 : decode cX4_find 38 = .ok (.ireturn, 1) := by decide +kernel
theorem dX4_append_0 : decode cX4_append 0 = .ok (.aload_n 0, 1) := by decide +kernel
theorem dX4_append_1 : decode cX4_append 1 = .ok (.getfield 21, 3) := by decide +kernel
theorem dX4_append_4 : decode cX4_append 4 = .ok (.ifCond .lt 35, 3) := by decide +kernel
theorem dX4_append_7 : decode cX4_append 7 = .ok (.aload_n 0, 1) := by decide +kernel
theorem dX4_append_8 : decode cX4_append 8 = .ok (.getfield 21, 3) := by decide +kernel
theorem dX4_append_11 : decode cX4_append 11 = .ok (.aload_n 0, 1) := by decide +kernel
theorem dX4_append_12 : decode cX4_append 12 = .ok (.getfield 15, 3) := by decide +kernel
theorem dX4_append_15 : decode cX4_append 15 = .ok (.arraylength, 1) := by decide +kernel
theorem dX4_append_16 : decode cX4_append 16 = .ok (.if_icmp .ge 23, 3) := by decide +kernel
theorem dX4_append_19 : decode cX4_append 19 = .ok (.aload_n 0, 1) := by decide +kernel
theorem dX4_append_20 : decode cX4_append 20 = .ok (.getfield 15, 3) := by decide +kernel
theorem dX4_append_23 : decode cX4_append 23 = .ok (.aload_n 0, 1) := by decide +kernel
theorem dX4_append_24 : decode cX4_append 24 = .ok (.getfield 21, 3) := by decide +kernel
theorem dX4_append_27 : decode cX4_append 27 = .ok (.iload_n 1, 1) := by decide +kernel
theorem dX4_append_28 : decode cX4_append 28 = .ok (.iastore, 1) := by decide +kernel
theorem dX4_append_29 : decode cX4_append 29 = .ok (.aload_n 0, 1) := by decide +kernel
theorem dX4_append_30 : decode cX4_append 30 = .ok (.dup, 1) := by decide +kernel
theorem dX4_append_31 : decode cX4_append 31 = .ok (.getfield 21, 3) := by decide +kernel
theorem dX4_append_34 : decode cX4_append 34 = .ok (.iconst 1, 1) := by decide +kernel
theorem dX4_append_35 : decode cX4_append 35 = .ok (.iadd, 1) := by decide +kernel
theorem dX4_append_36 : decode cX4_append 36 = .ok (.putfield 21, 3) := by decide +kernel
theorem dX4_append_39 : decode cX4_append 39 = .ok (.return_, 1) := by decide +kernel
theorem dX4_appendBytes_0 : decode cX4_appendBytes 0 = .ok (.bipush 24, 2) := by decide +kernel
theorem dX4_appendBytes_2 : decode cX4_appendBytes 2 = .ok (.istore_n 2, 1) := by decide +kernel
theorem dX4_appendBytes_3 : decode cX4_appendBytes 3 = .ok (.iload_n 2, 1) := by decide +kernel
theorem dX4_appendBytes_4 : decode cX4_appendBytes 4 = .ok (.ifCond .lt 20, 3) := by decide +kernel
theorem dX4_appendBytes_7 : decode cX4_appendBytes 7 = .ok (.aload_n 0, 1) := by decide +kernel
theorem dX4_appendBytes_8 : decode cX4_appendBytes 8 = .ok (.iload_n 1, 1) := by decide +kernel
theorem dX4_appendBytes_9 : decode cX4_appendBytes 9 = .ok (.iload_n 2, 1) := by decide +kernel
theorem dX4_appendBytes_10 : decode cX4_appendBytes 10 = .ok (.iushr, 1) := by decide +kernel
theorem dX4_appendBytes_11 : decode cX4_appendBytes 11 = .ok (.sipush 255, 3) := by decide +kernel
theorem dX4_appendBytes_14 : decode cX4_appendBytes 14 = .ok (.iand, 1) := by decide +kernel
theorem dX4_appendBytes_15 : decode cX4_appendBytes 15 = .ok (.invokevirtual 25, 3) := by decide +kernel
theorem dX4_appendBytes_18 : decode cX4_appendBytes 18 = .ok (.iinc 2 (-8), 3) := by decide +kernel
theorem dX4_appendBytes_21 : decode cX4_appendBytes 21 = .ok (.goto (-18), 3) := by decide +kernel
theorem dX4_appendBytes_24 : decode cX4_appendBytes 24 = .ok (.return_, 1) := by decide +kernel
theorem dX4_replace_0 : decode cX4_replace 0 = .ok (.iload_n 1, 1) := by decide +kernel
theorem dX4_replace_1 : decode cX4_replace 1 = .ok (.ifCond .lt 27, 3) := by decide +kernel
theorem dX4_replace_4 : decode cX4_replace 4 = .ok (.iload_n 1, 1) := by decide +kernel
theorem dX4_replace_5 : decode cX4_replace 5 = .ok (.aload_n 0, 1) := by decide +kernel
theorem dX4_replace_6 : decode cX4_replace 6 = .ok (.getfield 21, 3) := by decide +kernel
theorem dX4_replace_9 : decode cX4_replace 9 = .ok (.if_icmp .ge 19, 3) := by decide +kernel
theorem dX4_replace_12 : decode cX4_replace 12 = .ok (.iload_n 1, 1) := by decide +kernel
theorem dX4_replace_13 : decode cX4_replace 13 = .ok (.aload_n 0, 1) := by decide +kernel
theorem dX4_replace_14 : decode cX4_replace 14 = .ok (.getfield 15, 3) := by decide +kernel
theorem dX4_replace_17 : decode cX4_replace 17 = .ok (.arraylength, 1) := by decide +kernel
theorem dX4_replace_18 : decode cX4_replace 18 = .ok (.if_icmp .ge 10, 3) := by decide +kernel
theorem dX4_replace_21 : decode cX4_replace 21 = .ok (.aload_n 0, 1) := by decide +kernel
theorem dX4_replace_22 : decode cX4_replace 22 = .ok (.getfield 15, 3) := by decide +kernel
theorem dX4_replace_25 : decode cX4_replace 25 = .ok (.iload_n 1, 1) := by decide +kernel
theorem dX4_replace_26 : decode cX4_replace 26 = .ok (.iload_n 2, 1) := by decide +kernel
theorem dX4_replace_27 : decode cX4_replace 27 = .ok (.iastore, 1) := by decide +kernel
theorem dX4_replace_28 : decode cX4_replace 28 = .ok (.return_, 1) := by decide +kernel
theorem dX4_cutOut_0 : decode cX4_cutOut 0 = .ok (.iload_n 1, 1) := by decide +kernel
theorem dX4_cutOut_1 : decode cX4_cutOut 1 = .ok (.ifCond .lt 11, 3) := by decide +kernel
theorem dX4_cutOut_4 : decode cX4_cutOut 4 = .ok (.iload_n 1, 1) := by decide +kernel
theorem dX4_cutOut_5 : decode cX4_cutOut 5 = .ok (.aload_n 0, 1) := by decide +kernel
theorem dX4_cutOut_6 : decode cX4_cutOut 6 = .ok (.getfield 21, 3) := by decide +kernel
theorem dX4_cutOut_9 : decode cX4_cutOut 9 = .ok (.if_icmp .lt 4, 3) := by decide +kernel
theorem dX4_cutOut_12 : decode cX4_cutOut 12 = .ok (.return_, 1) := by decide +kernel
theorem dX4_cutOut_13 : decode cX4_cutOut 13 = .ok (.iload_n 1, 1) := by decide +kernel
theorem dX4_cutOut_14 : decode cX4_cutOut 14 = .ok (.istore_n 2, 1) := by decide +kernel
theorem dX4_cutOut_15 : decode cX4_cutOut 15 = .ok (.iload_n 2, 1) := by decide +kernel
theorem dX4_cutOut_16 : decode cX4_cutOut 16 = .ok (.iconst 1, 1) := by decide +kernel
theorem dX4_cutOut_17 : decode cX4_cutOut 17 = .ok (.iadd, 1) := by decide +kernel
theorem dX4_cutOut_18 : decode cX4_cutOut 18 = .ok (.aload_n 0, 1) := by decide +kernel
theorem dX4_cutOut_19 : decode cX4_cutOut 19 = .ok (.getfield 21, 3) := by decide +kernel
theorem dX4_cutOut_22 : decode cX4_cutOut 22 = .ok (.if_icmp .ge 21, 3) := by decide +kernel
theorem dX4_cutOut_25 : decode cX4_cutOut 25 = .ok (.aload_n 0, 1) := by decide +kernel
theorem dX4_cutOut_26 : decode cX4_cutOut 26 = .ok (.iload_n 2, 1) := by decide +kernel
theorem dX4_cutOut_27 : decode cX4_cutOut 27 = .ok (.aload_n 0, 1) := by decide +kernel
theorem dX4_cutOut_28 : decode cX4_cutOut 28 = .ok (.iload_n 2, 1) := by decide +kernel
theorem dX4_cutOut_29 : decode cX4_cutOut 29 = .ok (.iconst 1, 1) := by decide +kernel
theorem dX4_cutOut_30 : decode cX4_cutOut 30 = .ok (.iadd, 1) := by decide +kernel
theorem dX4_cutOut_31 : decode cX4_cutOut 31 = .ok (.invokevirtual 29, 3) := by decide +kernel
theorem dX4_cutOut_34 : decode cX4_cutOut 34 = .ok (.invokevirtual 33, 3) := by decide +kernel
theorem dX4_cutOut_37 : decode cX4_cutOut 37 = .ok (.iinc 2 1, 3) := by decide +kernel
theorem dX4_cutOut_40 : decode cX4_cutOut 40 = .ok (.goto (-25), 3) := by decide +kernel
theorem dX4_cutOut_43 : decode cX4_cutOut 43 = .ok (.aload_n 0, 1) := by decide +kernel
theorem dX4_cutOut_44 : decode cX4_cutOut 44 = .ok (.dup, 1) := by decide +kernel
theorem dX4_cutOut_45 : decode cX4_cutOut 45 = .ok (.getfield 21, 3) := by decide +kernel
theorem dX4_cutOut_48 : decode cX4_cutOut 48 = .ok (.iconst 1, 1) := by decide +kernel
theorem dX4_cutOut_49 : decode cX4_cutOut 49 = .ok (.isub, 1) := by decide +kernel
theorem dX4_cutOut_50 : decode cX4_cutOut 50 = .ok (.putfield 21, 3) := by decide +kernel
theorem dX4_cutOut_53 : decode cX4_cutOut 53 = .ok (.return_, 1) := by decide +kernel
theorem dX4_clear_0 : decode cX4_clear 0 = .ok (.aload_n 0, 1) := by decide +kernel
theorem dX4_clear_1 : decode cX4_clear 1 = .ok (.iconst 0, 1) := by decide +kernel
theorem dX4_clear_2 : decode cX4_clear 2 = .ok (.putfield 21, 3) := by decide +kernel
theorem dX4_clear_5 : decode cX4_clear 5 = .ok (.return_, 1) := by decide +kernel
theorem dX4_copy_0 : decode cX4_copy 0 = .ok (.aload_n 0, 1) := by decide +kernel
theorem dX4_copy_1 : decode cX4_copy 1 = .ok (.iconst 0, 1) := by decide +kernel
theorem dX4_copy_2 : decode cX4_copy 2 = .ok (.putfield 21, 3) := by decide +kernel
theorem dX4_copy_5 : decode cX4_copy 5 = .ok (.iconst 0, 1) := by decide +kernel
theorem dX4_copy_6 : decode cX4_copy 6 = .ok (.istore_n 2, 1) := by decide +kernel
theorem dX4_copy_7 : decode cX4_copy 7 = .ok (.iload_n 2, 1) := by decide +kernel
theorem dX4_copy_8 : decode cX4_copy 8 = .ok (.aload_n 1, 1) := by decide +kernel
theorem dX4_copy_9 : decode cX4_copy 9 = .ok (.getfield 21, 3) := by decide +kernel
theorem dX4_copy_12 : decode cX4_copy 12 = .ok (.if_icmp .ge 18, 3) := by decide +kernel
theorem dX4_copy_15 : decode cX4_copy 15 = .ok (.aload_n 0, 1) := by decide +kernel
theorem dX4_copy_16 : decode cX4_copy 16 = .ok (.aload_n 1, 1) := by decide +kernel
theorem dX4_copy_17 : decode cX4_copy 17 = .ok (.iload_n 2, 1) := by decide +kernel
theorem dX4_copy_18 : decode cX4_copy 18 = .ok (.invokevirtual 29, 3) := by decide +kernel
theorem dX4_copy_21 : decode cX4_copy 21 = .ok (.invokevirtual 25, 3) := by decide +kernel
theorem dX4_copy_24 : decode cX4_copy 24 = .ok (.iinc 2 1, 3) := by decide +kernel
theorem dX4_copy_27 : decode cX4_copy 27 = .ok (.goto (-20), 3) := by decide +kernel
theorem dX4_copy_30 : decode cX4_copy 30 = .ok (.return_, 1) := by decide +kernel
theorem dX4_isSame_0 : decode cX4_isSame 0 = .ok (.aload_n 0, 1) := by decide +kernel
theorem dX4_isSame_1 : decode cX4_isSame 1 = .ok (.getfield 21, 3) := by decide +kernel
theorem dX4_isSame_4 : decode cX4_isSame 4 = .ok (.aload_n 1, 1) := by decide +kernel
theorem dX4_isSame_5 : decode cX4_isSame 5 = .ok (.getfield 21, 3) := by decide +kernel
theorem dX4_isSame_8 : decode cX4_isSame 8 = .ok (.if_icmp .eq 5, 3) := by decide +kernel
theorem dX4_isSame_11 : decode cX4_isSame 11 = .ok (.iconst 0, 1) := by decide +kernel
theorem dX4_isSame_12 : decode cX4_isSame 12 = .ok (.ireturn, 1) := by decide +kernel
theorem dX4_isSame_13 : decode cX4_isSame 13 = .ok (.iconst 0, 1) := by decide +kernel
theorem dX4_isSame_14 : decode cX4_isSame 14 = .ok (.istore_n 2, 1) := by decide +kernel
theorem dX4_isSame_15 : decode cX4_isSame 15 = .ok (.iload_n 2, 1) := by decide +kernel
theorem dX4_isSame_16 : decode cX4_isSame 16 = .ok (.aload_n 0, 1) := by decide +kernel
theorem dX4_isSame_17 : decode cX4_isSame 17 = .ok (.getfield 21, 3) := by decide +kernel
theorem dX4_isSame_20 : decode cX4_isSame 20 = .ok (.if_icmp .ge 24, 3) := by decide +kernel
theorem dX4_isSame_23 : decode cX4_isSame 23 = .ok (.aload_n 0, 1) := by decide +kernel
theorem dX4_isSame_24 : decode cX4_isSame 24 = .ok (.iload_n 2, 1) := by decide +kernel
theorem dX4_isSame_25 : decode cX4_isSame 25 = .ok (.invokevirtual 29, 3) := by decide +kernel
theorem dX4_isSame_28 : decode cX4_isSame 28 = .ok (.aload_n 1, 1) := by decide +kernel
theorem dX4_isSame_29 : decode cX4_isSame 29 = .ok (.iload_n 2, 1) := by decide +kernel
theorem dX4_isSame_30 : decode cX4_isSame 30 = .ok (.invokevirtual 29, 3) := by decide +kernel
theorem dX4_isSame_33 : decode cX4_isSame 33 = .ok (.if_icmp .eq 5, 3) := by decide +kernel
theorem dX4_isSame_36 : decode cX4_isSame 36 = .ok (.iconst 0, 1) := by decide +kernel
theorem dX4_isSame_37 : decode cX4_isSame 37 = .ok (.ireturn, 1) := by decide +kernel
theorem dX4_isSame_38 : decode cX4_isSame 38 = .ok (.iinc 2 1, 3) := by decide +kernel
theorem dX4_isSame_41 : decode cX4_isSame 41 = .ok (.goto (-26), 3) := by decide +kernel
theorem dX4_isSame_44 : decode cX4_isSame 44 = .ok (.iconst 1, 1) := by decide +kernel
theorem dX4_isSame_45 : decode cX4_isSame 45 = .ok (.ireturn, 1) := by decide +kernel
theorem dX5_init_0 : decode cX5_init 0 = .ok (.aload_n 0, 1) := by decide +kernel
theorem dX5_init_1 : decode cX5_init 1 = .ok (.invokespecial 3, 3) := by decide +kernel
theorem dX5_init_4 : decode cX5_init 4 = .ok (.aload_n 0, 1) := by decide +kernel
theorem dX5_init_5 : decode cX5_init 5 = .ok (.new 9, 3) := by decide +kernel
theorem dX5_init_8 : decode cX5_init 8 = .ok (.dup, 1) := by decide +kernel
theorem dX5_init_9 : decode cX5_init 9 = .ok (.sipush 300, 3) := by decide +kernel
theorem dX5_init_12 : decode cX5_init 12 = .ok (.invokespecial 11, 3) := by decide +kernel
theorem dX5_init_15 : decode cX5_init 15 = .ok (.putfield 14, 3) := by decide +kernel
theorem dX5_init_18 : decode cX5_init 18 = .ok (.return_, 1) := by decide +kernel
theorem dX5_write_0 : decode cX5_write 0 = .ok (.aload_n 0, 1) := by decide +kernel
theorem dX5_write_1 : decode cX5_write 1 = .ok (.getfield 14, 3) := by decide +kernel
theorem dX5_write_4 : decode cX5_write 4 = .ok (.invokevirtual 20, 3) := by decide +kernel
theorem dX5_write_7 : decode cX5_write 7 = .ok (.aload_n 0, 1) := by decide +kernel
theorem dX5_write_8 : decode cX5_write 8 = .ok (.ldc 23, 2) := by decide +kernel
theorem dX5_write_10 : decode cX5_write 10 = .ok (.invokevirtual 25, 3) := by decide +kernel
theorem dX5_write_13 : decode cX5_write 13 = .ok (.aload_n 0, 1) := by decide +kernel
theorem dX5_write_14 : decode cX5_write 14 = .ok (.aload_n 1, 1) := by decide +kernel
theorem dX5_write_15 : decode cX5_write 15 = .ok (.getfield 29, 3) := by decide +kernel
theorem dX5_write_18 : decode cX5_write 18 = .ok (.invokevirtual 34, 3) := by decide +kernel
theorem dX5_write_21 : decode cX5_write 21 = .ok (.iconst 0, 1) := by decide +kernel
theorem dX5_write_22 : decode cX5_write 22 = .ok (.istore_n 2, 1) := by decide +kernel
theorem dX5_write_23 : decode cX5_write 23 = .ok (.iload_n 2, 1) := by decide +kernel
theorem dX5_write_24 : decode cX5_write 24 = .ok (.aload_n 1, 1) := by decide +kernel
theorem dX5_write_25 : decode cX5_write 25 = .ok (.getfield 29, 3) := by decide +kernel
theorem dX5_write_28 : decode cX5_write 28 = .ok (.if_icmp .ge 53, 3) := by decide +kernel
theorem dX5_write_31 : decode cX5_write 31 = .ok (.aload_n 1, 1) := by decide +kernel
theorem dX5_write_32 : decode cX5_write 32 = .ok (.iload_n 2, 1) := by decide +kernel
theorem dX5_write_33 : decode cX5_write 33 = .ok (.invokevirtual 37, 3) := by decide +kernel
theorem dX5_write_36 : decode cX5_write 36 = .ok (.iconst 1, 1) := by decide +kernel
theorem dX5_write_37 : decode cX5_write 37 = .ok (.if_icmp .eq 38, 3) := by decide +kernel
theorem dX5_write_40 : decode cX5_write 40 = .ok (.aload_n 0, 1) := by decide +kernel
theorem dX5_write_41 : decode cX5_write 41 = .ok (.ldc 41, 2) := by decide +kernel
theorem dX5_write_43 : decode cX5_write 43 = .ok (.invokevirtual 25, 3) := by decide +kernel
theorem dX5_write_46 : decode cX5_write 46 = .ok (.aload_n 0, 1) := by decide +kernel
theorem dX5_write_47 : decode cX5_write 47 = .ok (.getfield 14, 3) := by decide +kernel
theorem dX5_write_50 : decode cX5_write 50 = .ok (.bipush 97, 2) := by decide +kernel
theorem dX5_write_52 : decode cX5_write 52 = .ok (.iload_n 2, 1) := by decide +kernel
theorem dX5_write_53 : decode cX5_write 53 = .ok (.iadd, 1) := by decide +kernel
theorem dX5_write_54 : decode cX5_write 54 = .ok (.invokevirtual 43, 3) := by decide +kernel
theorem dX5_write_57 : decode cX5_write 57 = .ok (.aload_n 0, 1) := by decide +kernel
theorem dX5_write_58 : decode cX5_write 58 = .ok (.getfield 14, 3) := by decide +kernel
theorem dX5_write_61 : decode cX5_write 61 = .ok (.bipush 32, 2) := by decide +kernel
theorem dX5_write_63 : decode cX5_write 63 = .ok (.invokevirtual 43, 3) := by decide +kernel
theorem dX5_write_66 : decode cX5_write 66 = .ok (.aload_n 0, 1) := by decide +kernel
theorem dX5_write_67 : decode cX5_write 67 = .ok (.aload_n 1, 1) := by decide +kernel
theorem dX5_write_68 : decode cX5_write 68 = .ok (.iload_n 2, 1) := by decide +kernel
theorem dX5_write_69 : decode cX5_write 69 = .ok (.invokevirtual 37, 3) := by decide +kernel
theorem dX5_write_72 : decode cX5_write 72 = .ok (.invokevirtual 34, 3) := by decide +kernel
theorem dX5_write_75 : decode cX5_write 75 = .ok (.iinc 2 1, 3) := by decide +kernel
theorem dX5_write_78 : decode cX5_write 78 = .ok (.goto (-55), 3) := by decide +kernel
theorem dX5_write_81 : decode cX5_write 81 = .ok (.iconst 0, 1) := by decide +kernel
theorem dX5_write_82 : decode cX5_write 82 = .ok (.istore_n 2, 1) := by decide +kernel
theorem dX5_write_83 : decode cX5_write 83 = .ok (.iload_n 2, 1) := by decide +kernel
theorem dX5_write_84 : decode cX5_write 84 = .ok (.aload_n 1, 1) := by decide +kernel
theorem dX5_write_85 : decode cX5_write 85 = .ok (.getfield 46, 3) := by decide +kernel
theorem dX5_write_88 : decode cX5_write 88 = .ok (.getfield 49, 3) := by decide +kernel
theorem dX5_write_91 : decode cX5_write 91 = .ok (.if_icmp .ge 27, 3) := by decide +kernel
theorem dX5_write_94 : decode cX5_write 94 = .ok (.aload_n 0, 1) := by decide +kernel
theorem dX5_write_95 : decode cX5_write 95 = .ok (.ldc 52, 2) := by decide +kernel
theorem dX5_write_97 : decode cX5_write 97 = .ok (.invokevirtual 25, 3) := by decide +kernel
theorem dX5_write_100 : decode cX5_write 100 = .ok (.aload_n 0, 1) := by decide +kernel
theorem dX5_write_101 : decode cX5_write 101 = .ok (.aload_n 1, 1) := by decide +kernel
theorem dX5_write_102 : decode cX5_write 102 = .ok (.getfield 46, 3) := by decide +kernel
theorem dX5_write_105 : decode cX5_write 105 = .ok (.iload_n 2, 1) := by decide +kernel
theorem dX5_write_106 : decode cX5_write 106 = .ok (.invokevirtual 54, 3) := by decide +kernel
theorem dX5_write_109 : decode cX5_write 109 = .ok (.invokevirtual 57, 3) := by decide +kernel
theorem dX5_write_112 : decode cX5_write 112 = .ok (.iinc 2 1, 3) := by decide +kernel
theorem dX5_write_115 : decode cX5_write 115 = .ok (.goto (-32), 3) := by decide +kernel
theorem dX5_write_118 : decode cX5_write 118 = .ok (.return_, 1) := by decide +kernel
theorem dX5_putWord_0 : decode cX5_putWord 0 = .ok (.iconst 0, 1) := by decide +kernel
theorem dX5_putWord_1 : decode cX5_putWord 1 = .ok (.istore_n 2, 1) := by decide +kernel
theorem dX5_putWord_2 : decode cX5_putWord 2 = .ok (.iload_n 2, 1) := by decide +kernel
theorem dX5_putWord_3 : decode cX5_putWord 3 = .ok (.aload_n 1, 1) := by decide +kernel
theorem dX5_putWord_4 : decode cX5_putWord 4 = .ok (.invokevirtual 60, 3) := by decide +kernel
theorem dX5_putWord_7 : decode cX5_putWord 7 = .ok (.if_icmp .ge 21, 3) := by decide +kernel
theorem dX5_putWord_10 : decode cX5_putWord 10 = .ok (.aload_n 0, 1) := by decide +kernel
theorem dX5_putWord_11 : decode cX5_putWord 11 = .ok (.getfield 14, 3) := by decide +kernel
theorem dX5_putWord_14 : decode cX5_putWord 14 = .ok (.aload_n 1, 1) := by decide +kernel
theorem dX5_putWord_15 : decode cX5_putWord 15 = .ok (.iload_n 2, 1) := by decide +kernel
theorem dX5_putWord_16 : decode cX5_putWord 16 = .ok (.invokevirtual 66, 3) := by decide +kernel
theorem dX5_putWord_19 : decode cX5_putWord 19 = .ok (.invokevirtual 43, 3) := by decide +kernel
theorem dX5_putWord_22 : decode cX5_putWord 22 = .ok (.iinc 2 1, 3) := by decide +kernel
theorem dX5_putWord_25 : decode cX5_putWord 25 = .ok (.goto (-23), 3) := by decide +kernel
theorem dX5_putWord_28 : decode cX5_putWord 28 = .ok (.aload_n 0, 1) := by decide +kernel
theorem dX5_putWord_29 : decode cX5_putWord 29 = .ok (.getfield 14, 3) := by decide +kernel
theorem dX5_putWord_32 : decode cX5_putWord 32 = .ok (.bipush 32, 2) := by decide +kernel
theorem dX5_putWord_34 : decode cX5_putWord 34 = .ok (.invokevirtual 43, 3) := by decide +kernel
theorem dX5_putWord_37 : decode cX5_putWord 37 = .ok (.return_, 1) := by decide +kernel
theorem dX5_putDigit_0 : decode cX5_putDigit 0 = .ok (.aload_n 0, 1) := by decide +kernel
theorem dX5_putDigit_1 : decode cX5_putDigit 1 = .ok (.getfield 14, 3) := by decide +kernel
theorem dX5_putDigit_4 : decode cX5_putDigit 4 = .ok (.bipush 48, 2) := by decide +kernel
theorem dX5_putDigit_6 : decode cX5_putDigit 6 = .ok (.iload_n 1, 1) := by decide +kernel
theorem dX5_putDigit_7 : decode cX5_putDigit 7 = .ok (.iadd, 1) := by decide +kernel
theorem dX5_putDigit_8 : decode cX5_putDigit 8 = .ok (.invokevirtual 43, 3) := by decide +kernel
theorem dX5_putDigit_11 : decode cX5_putDigit 11 = .ok (.aload_n 0, 1) := by decide +kernel
theorem dX5_putDigit_12 : decode cX5_putDigit 12 = .ok (.getfield 14, 3) := by decide +kernel
theorem dX5_putDigit_15 : decode cX5_putDigit 15 = .ok (.bipush 59, 2) := by decide +kernel
theorem dX5_putDigit_17 : decode cX5_putDigit 17 = .ok (.invokevirtual 43, 3) := by decide +kernel
theorem dX5_putDigit_20 : decode cX5_putDigit 20 = .ok (.return_, 1) := by decide +kernel
theorem dX5_putLetters_0 : decode cX5_putLetters 0 = .ok (.iconst 0, 1) := by decide +kernel
theorem dX5_putLetters_1 : decode cX5_putLetters 1 = .ok (.istore_n 2, 1) := by decide +kernel
theorem dX5_putLetters_2 : decode cX5_putLetters 2 = .ok (.iload_n 2, 1) := by decide +kernel
theorem dX5_putLetters_3 : decode cX5_putLetters 3 = .ok (.bipush 7, 2) := by decide +kernel
theorem dX5_putLetters_5 : decode cX5_putLetters 5 = .ok (.if_icmp .ge 29, 3) := by decide +kernel
theorem dX5_putLetters_8 : decode cX5_putLetters 8 = .ok (.iload_n 1, 1) := by decide +kernel
theorem dX5_putLetters_9 : decode cX5_putLetters 9 = .ok (.iload_n 2, 1) := by decide +kernel
theorem dX5_putLetters_10 : decode cX5_putLetters 10 = .ok (.ishr, 1) := by decide +kernel
theorem dX5_putLetters_11 : decode cX5_putLetters 11 = .ok (.iconst 1, 1) := by decide +kernel
theorem dX5_putLetters_12 : decode cX5_putLetters 12 = .ok (.iand, 1) := by decide +kernel
theorem dX5_putLetters_13 : decode cX5_putLetters 13 = .ok (.iconst 1, 1) := by decide +kernel
theorem dX5_putLetters_14 : decode cX5_putLetters 14 = .ok (.if_icmp .ne 14, 3) := by decide +kernel
theorem dX5_putLetters_17 : decode cX5_putLetters 17 = .ok (.aload_n 0, 1) := by decide +kernel
theorem dX5_putLetters_18 : decode cX5_putLetters 18 = .ok (.getfield 14, 3) := by decide +kernel
theorem dX5_putLetters_21 : decode cX5_putLetters 21 = .ok (.bipush 97, 2) := by decide +kernel
theorem dX5_putLetters_23 : decode cX5_putLetters 23 = .ok (.iload_n 2, 1) := by decide +kernel
theorem dX5_putLetters_24 : decode cX5_putLetters 24 = .ok (.iadd, 1) := by decide +kernel
theorem dX5_putLetters_25 : decode cX5_putLetters 25 = .ok (.invokevirtual 43, 3) := by decide +kernel
theorem dX5_putLetters_28 : decode cX5_putLetters 28 = .ok (.iinc 2 1, 3) := by decide +kernel
theorem dX5_putLetters_31 : decode cX5_putLetters 31 = .ok (.goto (-29), 3) := by decide +kernel
theorem dX5_putLetters_34 : decode cX5_putLetters 34 = .ok (.aload_n 0, 1) := by decide +kernel
theorem dX5_putLetters_35 : decode cX5_putLetters 35 = .ok (.getfield 14, 3) := by decide +kernel
theorem dX5_putLetters_38 : decode cX5_putLetters 38 = .ok (.bipush 59, 2) := by decide +kernel
theorem dX5_putLetters_40 : decode cX5_putLetters 40 = .ok (.invokevirtual 43, 3) := by decide +kernel
theorem dX5_putLetters_43 : decode cX5_putLetters 43 = .ok (.return_, 1) := by decide +kernel
theorem dX6_init_0 : decode cX6_init 0 = .ok (.aload_n 0, 1) := by decide +kernel
theorem dX6_init_1 : decode cX6_init 1 = .ok (.invokespecial 3, 3) := by decide +kernel
theorem dX6_init_4 : decode cX6_init 4 = .ok (.aload_n 0, 1) := by decide +kernel
theorem dX6_init_5 : decode cX6_init 5 = .ok (.aload_n 1, 1) := by decide +kernel
theorem dX6_init_6 : decode cX6_init 6 = .ok (.putfield 9, 3) := by decide +kernel
theorem dX6_init_9 : decode cX6_init 9 = .ok (.aload_n 0, 1) := by decide +kernel
theorem dX6_init_10 : decode cX6_init 10 = .ok (.sipush 128, 3) := by decide +kernel
theorem dX6_init_13 : decode cX6_init 13 = .ok (.newarray .int, 2) := by decide +kernel
theorem dX6_init_15 : decode cX6_init 15 = .ok (.putfield 15, 3) := by decide +kernel
theorem dX6_init_18 : decode cX6_init 18 = .ok (.aload_n 0, 1) := by decide +kernel
theorem dX6_init_19 : decode cX6_init 19 = .ok (.sipush 128, 3) := by decide +kernel
theorem dX6_init_22 : decode cX6_init 22 = .ok (.newarray .int, 2) := by decide +kernel
theorem dX6_init_24 : decode cX6_init 24 = .ok (.putfield 19, 3) := by decide +kernel
theorem dX6_init_27 : decode cX6_init 27 = .ok (.aload_n 0, 1) := by decide +kernel
theorem dX6_init_28 : decode cX6_init 28 = .ok (.sipush 128, 3) := by decide +kernel
theorem dX6_init_31 : decode cX6_init 31 = .ok (.newarray .int, 2) := by decide +kernel
theorem dX6_init_33 : decode cX6_init 33 = .ok (.putfield 22, 3) := by decide +kernel
theorem dX6_init_36 : decode cX6_init 36 = .ok (.aload_n 0, 1) := by decide +kernel
theorem dX6_init_37 : decode cX6_init 37 = .ok (.sipush 128, 3) := by decide +kernel
theorem dX6_init_40 : decode cX6_init 40 = .ok (.newarray .int, 2) := by decide +kernel
theorem dX6_init_42 : decode cX6_init 42 = .ok (.putfield 25, 3) := by decide +kernel
theorem dX6_init_45 : decode cX6_init 45 = .ok (.aload_n 0, 1) := by decide +kernel
theorem dX6_init_46 : decode cX6_init 46 = .ok (.iconst (-1), 1) := by decide +kernel
theorem dX6_init_47 : decode cX6_init 47 = .ok (.putfield 28, 3) := by decide +kernel
theorem dX6_init_50 : decode cX6_init 50 = .ok (.return_, 1) := by decide +kernel
theorem dX6_forget_0 : decode cX6_forget 0 = .ok (.aload_n 0, 1) := by decide +kernel
theorem dX6_forget_1 : decode cX6_forget 1 = .ok (.iconst (-1), 1) := by decide +kernel
theorem dX6_forget_2 : decode cX6_forget 2 = .ok (.putfield 28, 3) := by decide +kernel
theorem dX6_forget_5 : decode cX6_forget 5 = .ok (.return_, 1) := by decide +kernel
theorem dX6_most_0 : decode cX6_most 0 = .ok (.aload_n 0, 1) := by decide +kernel
theorem dX6_most_1 : decode cX6_most 1 = .ok (.getfield 28, 3) := by decide +kernel
theorem dX6_most_4 : decode cX6_most 4 = .ok (.iconst (-1), 1) := by decide +kernel
theorem dX6_most_5 : decode cX6_most 5 = .ok (.if_icmp .ne 19, 3) := by decide +kernel
theorem dX6_most_8 : decode cX6_most 8 = .ok (.aload_n 0, 1) := by decide +kernel
theorem dX6_most_9 : decode cX6_most 9 = .ok (.aload_n 0, 1) := by decide +kernel
theorem dX6_most_10 : decode cX6_most 10 = .ok (.getfield 9, 3) := by decide +kernel
theorem dX6_most_13 : decode cX6_most 13 = .ok (.getfield 32, 3) := by decide +kernel
theorem dX6_most_16 : decode cX6_most 16 = .ok (.aload_n 0, 1) := by decide +kernel
theorem dX6_most_17 : decode cX6_most 17 = .ok (.invokevirtual 37, 3) := by decide +kernel
theorem dX6_most_20 : decode cX6_most 20 = .ok (.isub, 1) := by decide +kernel
theorem dX6_most_21 : decode cX6_most 21 = .ok (.putfield 28, 3) := by decide +kernel
theorem dX6_most_24 : decode cX6_most 24 = .ok (.aload_n 0, 1) := by decide +kernel
theorem dX6_most_25 : decode cX6_most 25 = .ok (.getfield 28, 3) := by decide +kernel
theorem dX6_most_28 : decode cX6_most 28 = .ok (.ireturn, 1) := by decide +kernel
theorem dX6_matchAll_0 : decode cX6_matchAll 0 = .ok (.aload_n 0, 1) := by decide +kernel
theorem dX6_matchAll_1 : decode cX6_matchAll 1 = .ok (.getfield 15, 3) := by decide +kernel
theorem dX6_matchAll_4 : decode cX6_matchAll 4 = .ok (.iconst (-1), 1) := by decide +kernel
theorem dX6_matchAll_5 : decode cX6_matchAll 5 = .ok (.invokestatic 41, 3) := by decide +kernel
theorem dX6_matchAll_8 : decode cX6_matchAll 8 = .ok (.aload_n 0, 1) := by decide +kernel
theorem dX6_matchAll_9 : decode cX6_matchAll 9 = .ok (.getfield 19, 3) := by decide +kernel
theorem dX6_matchAll_12 : decode cX6_matchAll 12 = .ok (.iconst (-1), 1) := by decide +kernel
theorem dX6_matchAll_13 : decode cX6_matchAll 13 = .ok (.invokestatic 41, 3) := by decide +kernel
theorem dX6_matchAll_16 : decode cX6_matchAll 16 = .ok (.iconst 0, 1) := by decide +kernel
theorem dX6_matchAll_17 : decode cX6_matchAll 17 = .ok (.istore_n 1, 1) := by decide +kernel
theorem dX6_matchAll_18 : decode cX6_matchAll 18 = .ok (.iconst 0, 1) := by decide +kernel
theorem dX6_matchAll_19 : decode cX6_matchAll 19 = .ok (.istore_n 2, 1) := by decide +kernel
theorem dX6_matchAll_20 : decode cX6_matchAll 20 = .ok (.iload_n 2, 1) := by decide +kernel
theorem dX6_matchAll_21 : decode cX6_matchAll 21 = .ok (.aload_n 0, 1) := by decide +kernel
theorem dX6_matchAll_22 : decode cX6_matchAll 22 = .ok (.getfield 9, 3) := by decide +kernel
theorem dX6_matchAll_25 : decode cX6_matchAll 25 = .ok (.getfield 32, 3) := by decide +kernel
theorem dX6_matchAll_28 : decode cX6_matchAll 28 = .ok (.if_icmp .ge 28, 3) := by decide +kernel
theorem dX6_matchAll_31 : decode cX6_matchAll 31 = .ok (.aload_n 0, 1) := by decide +kernel
theorem dX6_matchAll_32 : decode cX6_matchAll 32 = .ok (.iload_n 2, 1) := by decide +kernel
theorem dX6_matchAll_33 : decode cX6_matchAll 33 = .ok (.invokevirtual 47, 3) := by decide +kernel
theorem dX6_matchAll_36 : decode cX6_matchAll 36 = .ok (.istore_n 3, 1) := by decide +kernel
theorem dX6_matchAll_37 : decode cX6_matchAll 37 = .ok (.iload_n 3, 1) := by decide +kernel
theorem dX6_matchAll_38 : decode cX6_matchAll 38 = .ok (.iconst (-1), 1) := by decide +kernel
theorem dX6_matchAll_39 : decode cX6_matchAll 39 = .ok (.if_icmp .eq 11, 3) := by decide +kernel
theorem dX6_matchAll_42 : decode cX6_matchAll 42 = .ok (.aload_n 0, 1) := by decide +kernel
theorem dX6_matchAll_43 : decode cX6_matchAll 43 = .ok (.iload_n 3, 1) := by decide +kernel
theorem dX6_matchAll_44 : decode cX6_matchAll 44 = .ok (.invokevirtual 51, 3) := by decide +kernel
theorem dX6_matchAll_47 : decode cX6_matchAll 47 = .ok (.iinc 1 1, 3) := by decide +kernel
theorem dX6_matchAll_50 : decode cX6_matchAll 50 = .ok (.iinc 2 1, 3) := by decide +kernel
theorem dX6_matchAll_53 : decode cX6_matchAll 53 = .ok (.goto (-33), 3) := by decide +kernel
theorem dX6_matchAll_56 : decode cX6_matchAll 56 = .ok (.iload_n 1, 1) := by decide +kernel
theorem dX6_matchAll_57 : decode cX6_matchAll 57 = .ok (.ireturn, 1) := by decide +kernel
theorem dX6_searchFrom_0 : decode cX6_searchFrom 0 = .ok (.aload_n 0, 1) := by decide +kernel
theorem dX6_searchFrom_1 : decode cX6_searchFrom 1 = .ok (.getfield 22, 3) := by decide +kernel
theorem dX6_searchFrom_4 : decode cX6_searchFrom 4 = .ok (.iconst (-1), 1) := by decide +kernel
theorem dX6_searchFrom_5 : decode cX6_searchFrom 5 = .ok (.invokestatic 41, 3) := by decide +kernel
theorem dX6_searchFrom_8 : decode cX6_searchFrom 8 = .ok (.iconst 1, 1) := by decide +kernel
theorem dX6_searchFrom_9 : decode cX6_searchFrom 9 = .ok (.istore_n 2, 1) := by decide +kernel
theorem dX6_searchFrom_10 : decode cX6_searchFrom 10 = .ok (.aload_n 0, 1) := by decide +kernel
theorem dX6_searchFrom_11 : decode cX6_searchFrom 11 = .ok (.getfield 25, 3) := by decide +kernel
theorem dX6_searchFrom_14 : decode cX6_searchFrom 14 = .ok (.iconst 0, 1) := by decide +kernel
theorem dX6_searchFrom_15 : decode cX6_searchFrom 15 = .ok (.iload_n 1, 1) := by decide +kernel
theorem dX6_searchFrom_16 : decode cX6_searchFrom 16 = .ok (.iastore, 1) := by decide +kernel
theorem dX6_searchFrom_17 : decode cX6_searchFrom 17 = .ok (.iconst 0, 1) := by decide +kernel
theorem dX6_searchFrom_18 : decode cX6_searchFrom 18 = .ok (.istore_n 3, 1) := by decide +kernel
theorem dX6_searchFrom_19 : decode cX6_searchFrom 19 = .ok (.iload_n 3, 1) := by decide +kernel
theorem dX6_searchFrom_20 : decode cX6_searchFrom 20 = .ok (.iload_n 2, 1) := by decide +kernel
theorem dX6_searchFrom_21 : decode cX6_searchFrom 21 = .ok (.if_icmp .ge 135, 3) := by decide +kernel
theorem dX6_searchFrom_24 : decode cX6_searchFrom 24 = .ok (.iload_n 3, 1) := by decide +kernel
theorem dX6_searchFrom_25 : decode cX6_searchFrom 25 = .ok (.aload_n 0, 1) := by decide +kernel
theorem dX6_searchFrom_26 : decode cX6_searchFrom 26 = .ok (.getfield 25, 3) := by decide +kernel
theorem dX6_searchFrom_29 : decode cX6_searchFrom 29 = .ok (.arraylength, 1) := by decide +kernel
theorem dX6_searchFrom_30 : decode cX6_searchFrom 30 = .ok (.if_icmp .ge 126, 3) := by decide +kernel
theorem dX6_searchFrom_33 : decode cX6_searchFrom 33 = .ok (.aload_n 0, 1) := by decide +kernel
theorem dX6_searchFrom_34 : decode cX6_searchFrom 34 = .ok (.getfield 25, 3) := by decide +kernel
theorem dX6_searchFrom_37 : decode cX6_searchFrom 37 = .ok (.iload_n 3, 1) := by decide +kernel
theorem dX6_searchFrom_38 : decode cX6_searchFrom 38 = .ok (.iaload, 1) := by decide +kernel
theorem dX6_searchFrom_39 : decode cX6_searchFrom 39 = .ok (.istore 4, 2) := by decide +kernel
theorem dX6_searchFrom_41 : decode cX6_searchFrom 41 = .ok (.iload 4, 2) := by decide +kernel
theorem dX6_searchFrom_43 : decode cX6_searchFrom 43 = .ok (.iconst 1, 1) := by decide +kernel
theorem dX6_searchFrom_44 : decode cX6_searchFrom 44 = .ok (.iadd, 1) := by decide +kernel
theorem dX6_searchFrom_45 : decode cX6_searchFrom 45 = .ok (.istore 5, 2) := by decide +kernel
theorem dX6_searchFrom_47 : decode cX6_searchFrom 47 = .ok (.iload 5, 2) := by decide +kernel
theorem dX6_searchFrom_49 : decode cX6_searchFrom 49 = .ok (.aload_n 0, 1) := by decide +kernel
theorem dX6_searchFrom_50 : decode cX6_searchFrom 50 = .ok (.getfield 9, 3) := by decide +kernel
theorem dX6_searchFrom_53 : decode cX6_searchFrom 53 = .ok (.getfield 32, 3) := by decide +kernel
theorem dX6_searchFrom_56 : decode cX6_searchFrom 56 = .ok (.if_icmp .ge 94, 3) := by decide +kernel
theorem dX6_searchFrom_59 : decode cX6_searchFrom 59 = .ok (.iload 5, 2) := by decide +kernel
theorem dX6_searchFrom_61 : decode cX6_searchFrom 61 = .ok (.aload_n 0, 1) := by decide +kernel
theorem dX6_searchFrom_62 : decode cX6_searchFrom 62 = .ok (.getfield 19, 3) := by decide +kernel
theorem dX6_searchFrom_65 : decode cX6_searchFrom 65 = .ok (.arraylength, 1) := by decide +kernel
theorem dX6_searchFrom_66 : decode cX6_searchFrom 66 = .ok (.if_icmp .ge 84, 3) := by decide +kernel
theorem dX6_searchFrom_69 : decode cX6_searchFrom 69 = .ok (.iload 5, 2) := by decide +kernel
theorem dX6_searchFrom_71 : decode cX6_searchFrom 71 = .ok (.ifCond .lt 73, 3) := by decide +kernel
theorem dX6_searchFrom_74 : decode cX6_searchFrom 74 = .ok (.aload_n 0, 1) := by decide +kernel
theorem dX6_searchFrom_75 : decode cX6_searchFrom 75 = .ok (.getfield 22, 3) := by decide +kernel
theorem dX6_searchFrom_78 : decode cX6_searchFrom 78 = .ok (.iload 5, 2) := by decide +kernel
theorem dX6_searchFrom_80 : decode cX6_searchFrom 80 = .ok (.iaload, 1) := by decide +kernel
theorem dX6_searchFrom_81 : decode cX6_searchFrom 81 = .ok (.iconst (-1), 1) := by decide +kernel
theorem dX6_searchFrom_82 : decode cX6_searchFrom 82 = .ok (.if_icmp .ne 62, 3) := by decide +kernel
theorem dX6_searchFrom_85 : decode cX6_searchFrom 85 = .ok (.aload_n 0, 1) := by decide +kernel
theorem dX6_searchFrom_86 : decode cX6_searchFrom 86 = .ok (.iload 4, 2) := by decide +kernel
theorem dX6_searchFrom_88 : decode cX6_searchFrom 88 = .ok (.iload 5, 2) := by decide +kernel
theorem dX6_searchFrom_90 : decode cX6_searchFrom 90 = .ok (.invokevirtual 55, 3) := by decide +kernel
theorem dX6_searchFrom_93 : decode cX6_searchFrom 93 = .ok (.ifCond .eq 51, 3) := by decide +kernel
theorem dX6_searchFrom_96 : decode cX6_searchFrom 96 = .ok (.aload_n 0, 1) := by decide +kernel
theorem dX6_searchFrom_97 : decode cX6_searchFrom 97 = .ok (.getfield 22, 3) := by decide +kernel
theorem dX6_searchFrom_100 : decode cX6_searchFrom 100 = .ok (.iload 5, 2) := by decide +kernel
theorem dX6_searchFrom_102 : decode cX6_searchFrom 102 = .ok (.iload 4, 2) := by decide +kernel
theorem dX6_searchFrom_104 : decode cX6_searchFrom 104 = .ok (.iastore, 1) := by decide +kernel
theorem dX6_searchFrom_105 : decode cX6_searchFrom 105 = .ok (.aload_n 0, 1) := by decide +kernel
theorem dX6_searchFrom_106 : decode cX6_searchFrom 106 = .ok (.getfield 19, 3) := by decide +kernel
theorem dX6_searchFrom_109 : decode cX6_searchFrom 109 = .ok (.iload 5, 2) := by decide +kernel
theorem dX6_searchFrom_111 : decode cX6_searchFrom 111 = .ok (.iaload, 1) := by decide +kernel
theorem dX6_searchFrom_112 : decode cX6_searchFrom 112 = .ok (.iconst (-1), 1) := by decide +kernel
theorem dX6_searchFrom_113 : decode cX6_searchFrom 113 = .ok (.if_icmp .ne 6, 3) := by decide +kernel
theorem dX6_searchFrom_116 : decode cX6_searchFrom 116 = .ok (.iload 5, 2) := by decide +kernel
theorem dX6_searchFrom_118 : decode cX6_searchFrom 118 = .ok (.ireturn, 1) := by decide +kernel
theorem dX6_searchFrom_119 : decode cX6_searchFrom 119 = .ok (.iload_n 2, 1) := by decide +kernel
theorem dX6_searchFrom_120 : decode cX6_searchFrom 120 = .ok (.aload_n 0, 1) := by decide +kernel
theorem dX6_searchFrom_121 : decode cX6_searchFrom 121 = .ok (.getfield 25, 3) := by decide +kernel
theorem dX6_searchFrom_124 : decode cX6_searchFrom 124 = .ok (.arraylength, 1) := by decide +kernel
theorem dX6_searchFrom_125 : decode cX6_searchFrom 125 = .ok (.if_icmp .ge 19, 3) := by decide +kernel
theorem dX6_searchFrom_128 : decode cX6_searchFrom 128 = .ok (.aload_n 0, 1) := by decide +kernel
theorem dX6_searchFrom_129 : decode cX6_searchFrom 129 = .ok (.getfield 25, 3) := by decide +kernel
theorem dX6_searchFrom_132 : decode cX6_searchFrom 132 = .ok (.iload_n 2, 1) := by decide +kernel
theorem dX6_searchFrom_133 : decode cX6_searchFrom 133 = .ok (.aload_n 0, 1) := by decide +kernel
theorem dX6_searchFrom_134 : decode cX6_searchFrom 134 = .ok (.getfield 19, 3) := by decide +kernel
theorem dX6_searchFrom_137 : decode cX6_searchFrom 137 = .ok (.iload 5, 2) := by decide +kernel
theorem dX6_searchFrom_139 : decode cX6_searchFrom 139 = .ok (.iaload, 1) := by decide +kernel
theorem dX6_searchFrom_140 : decode cX6_searchFrom 140 = .ok (.iastore, 1) := by decide +kernel
theorem dX6_searchFrom_141 : decode cX6_searchFrom 141 = .ok (.iinc 2 1, 3) := by decide +kernel
theorem dX6_searchFrom_144 : decode cX6_searchFrom 144 = .ok (.iinc 5 1, 3) := by decide +kernel
theorem dX6_searchFrom_147 : decode cX6_searchFrom 147 = .ok (.goto (-100), 3) := by decide +kernel
theorem dX6_searchFrom_150 : decode cX6_searchFrom 150 = .ok (.iinc 3 1, 3) := by decide +kernel
theorem dX6_searchFrom_153 : decode cX6_searchFrom 153 = .ok (.goto (-134), 3) := by decide +kernel
theorem dX6_searchFrom_156 : decode cX6_searchFrom 156 = .ok (.iconst (-1), 1) := by decide +kernel
theorem dX6_searchFrom_157 : decode cX6_searchFrom 157 = .ok (.ireturn, 1) := by decide +kernel
theorem dX6_isInside_0 : decode cX6_isInside 0 = .ok (.aload_n 0, 1) := by decide +kernel
theorem dX6_isInside_1 : decode cX6_isInside 1 = .ok (.getfield 9, 3) := by decide +kernel
theorem dX6_isInside_4 : decode cX6_isInside 4 = .ok (.iload_n 1, 1) := by decide +kernel
theorem dX6_isInside_5 : decode cX6_isInside 5 = .ok (.invokevirtual 59, 3) := by decide +kernel
theorem dX6_isInside_8 : decode cX6_isInside 8 = .ok (.aload_n 0, 1) := by decide +kernel
theorem dX6_isInside_9 : decode cX6_isInside 9 = .ok (.getfield 9, 3) := by decide +kernel
theorem dX6_isInside_12 : decode cX6_isInside 12 = .ok (.iload_n 2, 1) := by decide +kernel
theorem dX6_isInside_13 : decode cX6_isInside 13 = .ok (.invokevirtual 59, 3) := by decide +kernel
theorem dX6_isInside_16 : decode cX6_isInside 16 = .ok (.iconst (-1), 1) := by decide +kernel
theorem dX6_isInside_17 : decode cX6_isInside 17 = .ok (.ixor, 1) := by decide +kernel
theorem dX6_isInside_18 : decode cX6_isInside 18 = .ok (.iand, 1) := by decide +kernel
theorem dX6_isInside_19 : decode cX6_isInside 19 = .ok (.ifCond .ne 7, 3) := by decide +kernel
theorem dX6_isInside_22 : decode cX6_isInside 22 = .ok (.iconst 1, 1) := by decide +kernel
theorem dX6_isInside_23 : decode cX6_isInside 23 = .ok (.goto 4, 3) := by decide +kernel
theorem dX6_isInside_26 : decode cX6_isInside 26 = .ok (.iconst 0, 1) := by decide +kernel
theorem dX6_isInside_27 : decode cX6_isInside 27 = .ok (.ireturn, 1) := by decide +kernel
theorem dX6_turnPath_0 : decode cX6_turnPath 0 = .ok (.iload_n 1, 1) := by decide +kernel
theorem dX6_turnPath_1 : decode cX6_turnPath 1 = .ok (.istore_n 2, 1) := by decide +kernel
theorem dX6_turnPath_2 : decode cX6_turnPath 2 = .ok (.iconst 0, 1) := by decide +kernel
theorem dX6_turnPath_3 : decode cX6_turnPath 3 = .ok (.istore_n 3, 1) := by decide +kernel
theorem dX6_turnPath_4 : decode cX6_turnPath 4 = .ok (.iload_n 3, 1) := by decide +kernel
theorem dX6_turnPath_5 : decode cX6_turnPath 5 = .ok (.sipush 128, 3) := by decide +kernel
theorem dX6_turnPath_8 : decode cX6_turnPath 8 = .ok (.if_icmp .ge 74, 3) := by decide +kernel
theorem dX6_turnPath_11 : decode cX6_turnPath 11 = .ok (.iload_n 2, 1) := by decide +kernel
theorem dX6_turnPath_12 : decode cX6_turnPath 12 = .ok (.ifCond .lt 70, 3) := by decide +kernel
theorem dX6_turnPath_15 : decode cX6_turnPath 15 = .ok (.iload_n 2, 1) := by decide +kernel
theorem dX6_turnPath_16 : decode cX6_turnPath 16 = .ok (.aload_n 0, 1) := by decide +kernel
theorem dX6_turnPath_17 : decode cX6_turnPath 17 = .ok (.getfield 22, 3) := by decide +kernel
theorem dX6_turnPath_20 : decode cX6_turnPath 20 = .ok (.arraylength, 1) := by decide +kernel
theorem dX6_turnPath_21 : decode cX6_turnPath 21 = .ok (.if_icmp .ge 61, 3) := by decide +kernel
theorem dX6_turnPath_24 : decode cX6_turnPath 24 = .ok (.aload_n 0, 1) := by decide +kernel
theorem dX6_turnPath_25 : decode cX6_turnPath 25 = .ok (.getfield 22, 3) := by decide +kernel
theorem dX6_turnPath_28 : decode cX6_turnPath 28 = .ok (.iload_n 2, 1) := by decide +kernel
theorem dX6_turnPath_29 : decode cX6_turnPath 29 = .ok (.iaload, 1) := by decide +kernel
theorem dX6_turnPath_30 : decode cX6_turnPath 30 = .ok (.istore 4, 2) := by decide +kernel
theorem dX6_turnPath_32 : decode cX6_turnPath 32 = .ok (.iload 4, 2) := by decide +kernel
theorem dX6_turnPath_34 : decode cX6_turnPath 34 = .ok (.ifCond .lt 13, 3) := by decide +kernel
theorem dX6_turnPath_37 : decode cX6_turnPath 37 = .ok (.iload 4, 2) := by decide +kernel
theorem dX6_turnPath_39 : decode cX6_turnPath 39 = .ok (.aload_n 0, 1) := by decide +kernel
theorem dX6_turnPath_40 : decode cX6_turnPath 40 = .ok (.getfield 15, 3) := by decide +kernel
theorem dX6_turnPath_43 : decode cX6_turnPath 43 = .ok (.arraylength, 1) := by decide +kernel
theorem dX6_turnPath_44 : decode cX6_turnPath 44 = .ok (.if_icmp .lt 4, 3) := by decide +kernel
theorem dX6_turnPath_47 : decode cX6_turnPath 47 = .ok (.return_, 1) := by decide +kernel
theorem dX6_turnPath_48 : decode cX6_turnPath 48 = .ok (.aload_n 0, 1) := by decide +kernel
theorem dX6_turnPath_49 : decode cX6_turnPath 49 = .ok (.getfield 15, 3) := by decide +kernel
theorem dX6_turnPath_52 : decode cX6_turnPath 52 = .ok (.iload 4, 2) := by decide +kernel
theorem dX6_turnPath_54 : decode cX6_turnPath 54 = .ok (.iaload, 1) := by decide +kernel
theorem dX6_turnPath_55 : decode cX6_turnPath 55 = .ok (.istore 5, 2) := by decide +kernel
theorem dX6_turnPath_57 : decode cX6_turnPath 57 = .ok (.aload_n 0, 1) := by decide +kernel
theorem dX6_turnPath_58 : decode cX6_turnPath 58 = .ok (.getfield 15, 3) := by decide +kernel
theorem dX6_turnPath_61 : decode cX6_turnPath 61 = .ok (.iload 4, 2) := by decide +kernel
theorem dX6_turnPath_63 : decode cX6_turnPath 63 = .ok (.iload_n 2, 1) := by decide +kernel
theorem dX6_turnPath_64 : decode cX6_turnPath 64 = .ok (.iastore, 1) := by decide +kernel
theorem dX6_turnPath_65 : decode cX6_turnPath 65 = .ok (.aload_n 0, 1) := by decide +kernel
theorem dX6_turnPath_66 : decode cX6_turnPath 66 = .ok (.getfield 19, 3) := by decide +kernel
theorem dX6_turnPath_69 : decode cX6_turnPath 69 = .ok (.iload_n 2, 1) := by decide +kernel
theorem dX6_turnPath_70 : decode cX6_turnPath 70 = .ok (.iload 4, 2) := by decide +kernel
theorem dX6_turnPath_72 : decode cX6_turnPath 72 = .ok (.iastore, 1) := by decide +kernel
theorem dX6_turnPath_73 : decode cX6_turnPath 73 = .ok (.iload 5, 2) := by decide +kernel
theorem dX6_turnPath_75 : decode cX6_turnPath 75 = .ok (.istore_n 2, 1) := by decide +kernel
theorem dX6_turnPath_76 : decode cX6_turnPath 76 = .ok (.iinc 3 1, 3) := by decide +kernel
theorem dX6_turnPath_79 : decode cX6_turnPath 79 = .ok (.goto (-75), 3) := by decide +kernel
theorem dX6_turnPath_82 : decode cX6_turnPath 82 = .ok (.return_, 1) := by decide +kernel
theorem dX7_init_0 : decode cX7_init 0 = .ok (.aload_n 0, 1) := by decide +kernel
theorem dX7_init_1 : decode cX7_init 1 = .ok (.invokespecial 3, 3) := by decide +kernel
theorem dX7_init_4 : decode cX7_init 4 = .ok (.aload_n 0, 1) := by decide +kernel
theorem dX7_init_5 : decode cX7_init 5 = .ok (.new 9, 3) := by decide +kernel
theorem dX7_init_8 : decode cX7_init 8 = .ok (.dup, 1) := by decide +kernel
theorem dX7_init_9 : decode cX7_init 9 = .ok (.bipush 12, 2) := by decide +kernel
theorem dX7_init_11 : decode cX7_init 11 = .ok (.invokespecial 11, 3) := by decide +kernel
theorem dX7_init_14 : decode cX7_init 14 = .ok (.putfield 14, 3) := by decide +kernel
theorem dX7_init_17 : decode cX7_init 17 = .ok (.aload_n 0, 1) := by decide +kernel
theorem dX7_init_18 : decode cX7_init 18 = .ok (.new 9, 3) := by decide +kernel
theorem dX7_init_21 : decode cX7_init 21 = .ok (.dup, 1) := by decide +kernel
theorem dX7_init_22 : decode cX7_init 22 = .ok (.bipush 20, 2) := by decide +kernel
theorem dX7_init_24 : decode cX7_init 24 = .ok (.invokespecial 11, 3) := by decide +kernel
theorem dX7_init_27 : decode cX7_init 27 = .ok (.putfield 20, 3) := by decide +kernel
theorem dX7_init_30 : decode cX7_init 30 = .ok (.aload_n 0, 1) := by decide +kernel
theorem dX7_init_31 : decode cX7_init 31 = .ok (.bipush 7, 2) := by decide +kernel
theorem dX7_init_33 : decode cX7_init 33 = .ok (.newarray .int, 2) := by decide +kernel
theorem dX7_init_35 : decode cX7_init 35 = .ok (.putfield 23, 3) := by decide +kernel
theorem dX7_init_38 : decode cX7_init 38 = .ok (.aload_n 0, 1) := by decide +kernel
theorem dX7_init_39 : decode cX7_init 39 = .ok (.getfield 23, 3) := by decide +kernel
theorem dX7_init_42 : decode cX7_init 42 = .ok (.iconst 1, 1) := by decide +kernel
theorem dX7_init_43 : decode cX7_init 43 = .ok (.invokestatic 27, 3) := by decide +kernel
theorem dX7_init_46 : decode cX7_init 46 = .ok (.aload_n 0, 1) := by decide +kernel
theorem dX7_init_47 : decode cX7_init 47 = .ok (.iconst 4, 1) := by decide +kernel
theorem dX7_init_48 : decode cX7_init 48 = .ok (.putfield 33, 3) := by decide +kernel
theorem dX7_init_51 : decode cX7_init 51 = .ok (.return_, 1) := by decide +kernel
theorem dX7_reset_0 : decode cX7_reset 0 = .ok (.aload_n 0, 1) := by decide +kernel
theorem dX7_reset_1 : decode cX7_reset 1 = .ok (.getfield 14, 3) := by decide +kernel
theorem dX7_reset_4 : decode cX7_reset 4 = .ok (.invokevirtual 37, 3) := by decide +kernel
theorem dX7_reset_7 : decode cX7_reset 7 = .ok (.aload_n 0, 1) := by decide +kernel
theorem dX7_reset_8 : decode cX7_reset 8 = .ok (.getfield 20, 3) := by decide +kernel
theorem dX7_reset_11 : decode cX7_reset 11 = .ok (.invokevirtual 37, 3) := by decide +kernel
theorem dX7_reset_14 : decode cX7_reset 14 = .ok (.aload_n 0, 1) := by decide +kernel
theorem dX7_reset_15 : decode cX7_reset 15 = .ok (.getfield 23, 3) := by decide +kernel
theorem dX7_reset_18 : decode cX7_reset 18 = .ok (.iconst 1, 1) := by decide +kernel
theorem dX7_reset_19 : decode cX7_reset 19 = .ok (.invokestatic 27, 3) := by decide +kernel
theorem dX7_reset_22 : decode cX7_reset 22 = .ok (.aload_n 0, 1) := by decide +kernel
theorem dX7_reset_23 : decode cX7_reset 23 = .ok (.iconst 4, 1) := by decide +kernel
theorem dX7_reset_24 : decode cX7_reset 24 = .ok (.putfield 33, 3) := by decide +kernel
theorem dX7_reset_27 : decode cX7_reset 27 = .ok (.return_, 1) := by decide +kernel
theorem dX7_copy_0 : decode cX7_copy 0 = .ok (.aload_n 0, 1) := by decide +kernel
theorem dX7_copy_1 : decode cX7_copy 1 = .ok (.getfield 14, 3) := by decide +kernel
theorem dX7_copy_4 : decode cX7_copy 4 = .ok (.aload_n 1, 1) := by decide +kernel
theorem dX7_copy_5 : decode cX7_copy 5 = .ok (.getfield 14, 3) := by decide +kernel
theorem dX7_copy_8 : decode cX7_copy 8 = .ok (.invokevirtual 40, 3) := by decide +kernel
theorem dX7_copy_11 : decode cX7_copy 11 = .ok (.aload_n 0, 1) := by decide +kernel
theorem dX7_copy_12 : decode cX7_copy 12 = .ok (.getfield 20, 3) := by decide +kernel
theorem dX7_copy_15 : decode cX7_copy 15 = .ok (.aload_n 1, 1) := by decide +kernel
theorem dX7_copy_16 : decode cX7_copy 16 = .ok (.getfield 20, 3) := by decide +kernel
theorem dX7_copy_19 : decode cX7_copy 19 = .ok (.invokevirtual 40, 3) := by decide +kernel
theorem dX7_copy_22 : decode cX7_copy 22 = .ok (.iconst 0, 1) := by decide +kernel
theorem dX7_copy_23 : decode cX7_copy 23 = .ok (.istore_n 2, 1) := by decide +kernel
theorem dX7_copy_24 : decode cX7_copy 24 = .ok (.iload_n 2, 1) := by decide +kernel
theorem dX7_copy_25 : decode cX7_copy 25 = .ok (.aload_n 0, 1) := by decide +kernel
theorem dX7_copy_26 : decode cX7_copy 26 = .ok (.getfield 23, 3) := by decide +kernel
theorem dX7_copy_29 : decode cX7_copy 29 = .ok (.arraylength, 1) := by decide +kernel
theorem dX7_copy_30 : decode cX7_copy 30 = .ok (.if_icmp .ge 20, 3) := by decide +kernel
theorem dX7_copy_33 : decode cX7_copy 33 = .ok (.aload_n 0, 1) := by decide +kernel
theorem dX7_copy_34 : decode cX7_copy 34 = .ok (.getfield 23, 3) := by decide +kernel
theorem dX7_copy_37 : decode cX7_copy 37 = .ok (.iload_n 2, 1) := by decide +kernel
theorem dX7_copy_38 : decode cX7_copy 38 = .ok (.aload_n 1, 1) := by decide +kernel
theorem dX7_copy_39 : decode cX7_copy 39 = .ok (.iload_n 2, 1) := by decide +kernel
theorem dX7_copy_40 : decode cX7_copy 40 = .ok (.invokevirtual 44, 3) := by decide +kernel
theorem dX7_copy_43 : decode cX7_copy 43 = .ok (.iastore, 1) := by decide +kernel
theorem dX7_copy_44 : decode cX7_copy 44 = .ok (.iinc 2 1, 3) := by decide +kernel
theorem dX7_copy_47 : decode cX7_copy 47 = .ok (.goto (-23), 3) := by decide +kernel
theorem dX7_copy_50 : decode cX7_copy 50 = .ok (.aload_n 0, 1) := by decide +kernel
theorem dX7_copy_51 : decode cX7_copy 51 = .ok (.aload_n 1, 1) := by decide +kernel
theorem dX7_copy_52 : decode cX7_copy 52 = .ok (.getfield 33, 3) := by decide +kernel
theorem dX7_copy_55 : decode cX7_copy 55 = .ok (.putfield 33, 3) := by decide +kernel
theorem dX7_copy_58 : decode cX7_copy 58 = .ok (.return_, 1) := by decide +kernel
theorem dX7_keepList_0 : decode cX7_keepList 0 = .ok (.aload_n 0, 1) := by decide +kernel
theorem dX7_keepList_1 : decode cX7_keepList 1 = .ok (.getfield 20, 3) := by decide +kernel
theorem dX7_keepList_4 : decode cX7_keepList 4 = .ok (.invokevirtual 37, 3) := by decide +kernel
theorem dX7_keepList_7 : decode cX7_keepList 7 = .ok (.iconst 0, 1) := by decide +kernel
theorem dX7_keepList_8 : decode cX7_keepList 8 = .ok (.istore_n 2, 1) := by decide +kernel
theorem dX7_keepList_9 : decode cX7_keepList 9 = .ok (.iload_n 2, 1) := by decide +kernel
theorem dX7_keepList_10 : decode cX7_keepList 10 = .ok (.aload_n 1, 1) := by decide +kernel
theorem dX7_keepList_11 : decode cX7_keepList 11 = .ok (.getfield 48, 3) := by decide +kernel
theorem dX7_keepList_14 : decode cX7_keepList 14 = .ok (.if_icmp .ge 24, 3) := by decide +kernel
theorem dX7_keepList_17 : decode cX7_keepList 17 = .ok (.aload_n 1, 1) := by decide +kernel
theorem dX7_keepList_18 : decode cX7_keepList 18 = .ok (.iload_n 2, 1) := by decide +kernel
theorem dX7_keepList_19 : decode cX7_keepList 19 = .ok (.invokevirtual 51, 3) := by decide +kernel
theorem dX7_keepList_22 : decode cX7_keepList 22 = .ok (.iconst 1, 1) := by decide +kernel
theorem dX7_keepList_23 : decode cX7_keepList 23 = .ok (.aload_n 0, 1) := by decide +kernel
theorem dX7_keepList_24 : decode cX7_keepList 24 = .ok (.getfield 33, 3) := by decide +kernel
theorem dX7_keepList_27 : decode cX7_keepList 27 = .ok (.ishl, 1) := by decide +kernel
theorem dX7_keepList_28 : decode cX7_keepList 28 = .ok (.if_icmp .lt 4, 3) := by decide +kernel
theorem dX7_keepList_31 : decode cX7_keepList 31 = .ok (.return_, 1) := by decide +kernel
theorem dX7_keepList_32 : decode cX7_keepList 32 = .ok (.iinc 2 1, 3) := by decide +kernel
theorem dX7_keepList_35 : decode cX7_keepList 35 = .ok (.goto (-26), 3) := by decide +kernel
theorem dX7_keepList_38 : decode cX7_keepList 38 = .ok (.aload_n 0, 1) := by decide +kernel
theorem dX7_keepList_39 : decode cX7_keepList 39 = .ok (.getfield 20, 3) := by decide +kernel
theorem dX7_keepList_42 : decode cX7_keepList 42 = .ok (.aload_n 1, 1) := by decide +kernel
theorem dX7_keepList_43 : decode cX7_keepList 43 = .ok (.invokevirtual 40, 3) := by decide +kernel
theorem dX7_keepList_46 : decode cX7_keepList 46 = .ok (.return_, 1) := by decide +kernel
theorem dX7_weightOf_0 : decode cX7_weightOf 0 = .ok (.iload_n 1, 1) := by decide +kernel
theorem dX7_weightOf_1 : decode cX7_weightOf 1 = .ok (.ifCond .lt 21, 3) := by decide +kernel
theorem dX7_weightOf_4 : decode cX7_weightOf 4 = .ok (.iload_n 1, 1) := by decide +kernel
theorem dX7_weightOf_5 : decode cX7_weightOf 5 = .ok (.aload_n 0, 1) := by decide +kernel
theorem dX7_weightOf_6 : decode cX7_weightOf 6 = .ok (.getfield 23, 3) := by decide +kernel
theorem dX7_weightOf_9 : decode cX7_weightOf 9 = .ok (.arraylength, 1) := by decide +kernel
theorem dX7_weightOf_10 : decode cX7_weightOf 10 = .ok (.if_icmp .ge 12, 3) := by decide +kernel
theorem dX7_weightOf_13 : decode cX7_weightOf 13 = .ok (.aload_n 0, 1) := by decide +kernel
theorem dX7_weightOf_14 : decode cX7_weightOf 14 = .ok (.getfield 23, 3) := by decide +kernel
theorem dX7_weightOf_17 : decode cX7_weightOf 17 = .ok (.iload_n 1, 1) := by decide +kernel
theorem dX7_weightOf_18 : decode cX7_weightOf 18 = .ok (.iaload, 1) := by decide +kernel
theorem dX7_weightOf_19 : decode cX7_weightOf 19 = .ok (.goto 4, 3) := by decide +kernel
theorem dX7_weightOf_22 : decode cX7_weightOf 22 = .ok (.iconst 0, 1) := by decide +kernel
theorem dX7_weightOf_23 : decode cX7_weightOf 23 = .ok (.ireturn, 1) := by decide +kernel
theorem dX7_setWeight_0 : decode cX7_setWeight 0 = .ok (.iload_n 1, 1) := by decide +kernel
theorem dX7_setWeight_1 : decode cX7_setWeight 1 = .ok (.ifCond .lt 19, 3) := by decide +kernel
theorem dX7_setWeight_4 : decode cX7_setWeight 4 = .ok (.iload_n 1, 1) := by decide +kernel
theorem dX7_setWeight_5 : decode cX7_setWeight 5 = .ok (.aload_n 0, 1) := by decide +kernel
theorem dX7_setWeight_6 : decode cX7_setWeight 6 = .ok (.getfield 23, 3) := by decide +kernel
theorem dX7_setWeight_9 : decode cX7_setWeight 9 = .ok (.arraylength, 1) := by decide +kernel
theorem dX7_setWeight_10 : decode cX7_setWeight 10 = .ok (.if_icmp .ge 10, 3) := by decide +kernel
theorem dX7_setWeight_13 : decode cX7_setWeight 13 = .ok (.aload_n 0, 1) := by decide +kernel
theorem dX7_setWeight_14 : decode cX7_setWeight 14 = .ok (.getfield 23, 3) := by decide +kernel
theorem dX7_setWeight_17 : decode cX7_setWeight 17 = .ok (.iload_n 1, 1) := by decide +kernel
theorem dX7_setWeight_18 : decode cX7_setWeight 18 = .ok (.iload_n 2, 1) := by decide +kernel
theorem dX7_setWeight_19 : decode cX7_setWeight 19 = .ok (.iastore, 1) := by decide +kernel
theorem dX7_setWeight_20 : decode cX7_setWeight 20 = .ok (.return_, 1) := by decide +kernel
theorem dX7_massOf_0 : decode cX7_massOf 0 = .ok (.iconst 0, 1) := by decide +kernel
theorem dX7_massOf_1 : decode cX7_massOf 1 = .ok (.istore_n 2, 1) := by decide +kernel
theorem dX7_massOf_2 : decode cX7_massOf 2 = .ok (.iconst 0, 1) := by decide +kernel
theorem dX7_massOf_3 : decode cX7_massOf 3 = .ok (.istore_n 3, 1) := by decide +kernel
theorem dX7_massOf_4 : decode cX7_massOf 4 = .ok (.iload_n 3, 1) := by decide +kernel
theorem dX7_massOf_5 : decode cX7_massOf 5 = .ok (.aload_n 0, 1) := by decide +kernel
theorem dX7_massOf_6 : decode cX7_massOf 6 = .ok (.getfield 23, 3) := by decide +kernel
theorem dX7_massOf_9 : decode cX7_massOf 9 = .ok (.arraylength, 1) := by decide +kernel
theorem dX7_massOf_10 : decode cX7_massOf 10 = .ok (.if_icmp .ge 27, 3) := by decide +kernel
theorem dX7_massOf_13 : decode cX7_massOf 13 = .ok (.iload_n 1, 1) := by decide +kernel
theorem dX7_massOf_14 : decode cX7_massOf 14 = .ok (.iload_n 3, 1) := by decide +kernel
theorem dX7_massOf_15 : decode cX7_massOf 15 = .ok (.ishr, 1) := by decide +kernel
theorem dX7_massOf_16 : decode cX7_massOf 16 = .ok (.iconst 1, 1) := by decide +kernel
theorem dX7_massOf_17 : decode cX7_massOf 17 = .ok (.iand, 1) := by decide +kernel
theorem dX7_massOf_18 : decode cX7_massOf 18 = .ok (.iconst 1, 1) := by decide +kernel
theorem dX7_massOf_19 : decode cX7_massOf 19 = .ok (.if_icmp .ne 12, 3) := by decide +kernel
theorem dX7_massOf_22 : decode cX7_massOf 22 = .ok (.iload_n 2, 1) := by decide +kernel
theorem dX7_massOf_23 : decode cX7_massOf 23 = .ok (.aload_n 0, 1) := by decide +kernel
theorem dX7_massOf_24 : decode cX7_massOf 24 = .ok (.getfield 23, 3) := by decide +kernel
theorem dX7_massOf_27 : decode cX7_massOf 27 = .ok (.iload_n 3, 1) := by decide +kernel
theorem dX7_massOf_28 : decode cX7_massOf 28 = .ok (.iaload, 1) := by decide +kernel
theorem dX7_massOf_29 : decode cX7_massOf 29 = .ok (.iadd, 1) := by decide +kernel
theorem dX7_massOf_30 : decode cX7_massOf 30 = .ok (.istore_n 2, 1) := by decide +kernel
theorem dX7_massOf_31 : decode cX7_massOf 31 = .ok (.iinc 3 1, 3) := by decide +kernel
theorem dX7_massOf_34 : decode cX7_massOf 34 = .ok (.goto (-30), 3) := by decide +kernel
theorem dX7_massOf_37 : decode cX7_massOf 37 = .ok (.iload_n 2, 1) := by decide +kernel
theorem dX7_massOf_38 : decode cX7_massOf 38 = .ok (.ireturn, 1) := by decide +kernel
theorem dX8_init_0 : decode cX8_init 0 = .ok (.aload_n 0, 1) := by decide +kernel
theorem dX8_init_1 : decode cX8_init 1 = .ok (.invokespecial 3, 3) := by decide +kernel
theorem dX8_init_4 : decode cX8_init 4 = .ok (.aload_n 0, 1) := by decide +kernel
theorem dX8_init_5 : decode cX8_init 5 = .ok (.aload_n 1, 1) := by decide +kernel
theorem dX8_init_6 : decode cX8_init 6 = .ok (.putfield 9, 3) := by decide +kernel
theorem dX8_init_9 : decode cX8_init 9 = .ok (.aload_n 0, 1) := by decide +kernel
theorem dX8_init_10 : decode cX8_init 10 = .ok (.new 15, 3) := by decide +kernel
theorem dX8_init_13 : decode cX8_init 13 = .ok (.dup, 1) := by decide +kernel
theorem dX8_init_14 : decode cX8_init 14 = .ok (.sipush 128, 3) := by decide +kernel
theorem dX8_init_17 : decode cX8_init 17 = .ok (.invokespecial 17, 3) := by decide +kernel
theorem dX8_init_20 : decode cX8_init 20 = .ok (.putfield 20, 3) := by decide +kernel
theorem dX8_init_23 : decode cX8_init 23 = .ok (.aload_n 0, 1) := by decide +kernel
theorem dX8_init_24 : decode cX8_init 24 = .ok (.sipush 128, 3) := by decide +kernel
theorem dX8_init_27 : decode cX8_init 27 = .ok (.newarray .int, 2) := by decide +kernel
theorem dX8_init_29 : decode cX8_init 29 = .ok (.putfield 24, 3) := by decide +kernel
theorem dX8_init_32 : decode cX8_init 32 = .ok (.return_, 1) := by decide +kernel
theorem dX8_mark_0 : decode cX8_mark 0 = .ok (.aload_n 0, 1) := by decide +kernel
theorem dX8_mark_1 : decode cX8_mark 1 = .ok (.getfield 24, 3) := by decide +kernel
theorem dX8_mark_4 : decode cX8_mark 4 = .ok (.iconst 0, 1) := by decide +kernel
theorem dX8_mark_5 : decode cX8_mark 5 = .ok (.invokestatic 28, 3) := by decide +kernel
theorem dX8_mark_8 : decode cX8_mark 8 = .ok (.iconst 0, 1) := by decide +kernel
theorem dX8_mark_9 : decode cX8_mark 9 = .ok (.istore_n 2, 1) := by decide +kernel
theorem dX8_mark_10 : decode cX8_mark 10 = .ok (.iconst 0, 1) := by decide +kernel
theorem dX8_mark_11 : decode cX8_mark 11 = .ok (.istore_n 3, 1) := by decide +kernel
theorem dX8_mark_12 : decode cX8_mark 12 = .ok (.iload_n 3, 1) := by decide +kernel
theorem dX8_mark_13 : decode cX8_mark 13 = .ok (.aload_n 0, 1) := by decide +kernel
theorem dX8_mark_14 : decode cX8_mark 14 = .ok (.getfield 9, 3) := by decide +kernel
theorem dX8_mark_17 : decode cX8_mark 17 = .ok (.getfield 34, 3) := by decide +kernel
theorem dX8_mark_20 : decode cX8_mark 20 = .ok (.getfield 39, 3) := by decide +kernel
theorem dX8_mark_23 : decode cX8_mark 23 = .ok (.if_icmp .ge 60, 3) := by decide +kernel
theorem dX8_mark_26 : decode cX8_mark 26 = .ok (.aload_n 0, 1) := by decide +kernel
theorem dX8_mark_27 : decode cX8_mark 27 = .ok (.getfield 9, 3) := by decide +kernel
theorem dX8_mark_30 : decode cX8_mark 30 = .ok (.getfield 34, 3) := by decide +kernel
theorem dX8_mark_33 : decode cX8_mark 33 = .ok (.iload_n 3, 1) := by decide +kernel
theorem dX8_mark_34 : decode cX8_mark 34 = .ok (.invokevirtual 43, 3) := by decide +kernel
theorem dX8_mark_37 : decode cX8_mark 37 = .ok (.iload_n 1, 1) := by decide +kernel
theorem dX8_mark_38 : decode cX8_mark 38 = .ok (.iand, 1) := by decide +kernel
theorem dX8_mark_39 : decode cX8_mark 39 = .ok (.istore 4, 2) := by decide +kernel
theorem dX8_mark_41 : decode cX8_mark 41 = .ok (.iload 4, 2) := by decide +kernel
theorem dX8_mark_43 : decode cX8_mark 43 = .ok (.ifCond .lt 34, 3) := by decide +kernel
theorem dX8_mark_46 : decode cX8_mark 46 = .ok (.iload 4, 2) := by decide +kernel
theorem dX8_mark_48 : decode cX8_mark 48 = .ok (.aload_n 0, 1) := by decide +kernel
theorem dX8_mark_49 : decode cX8_mark 49 = .ok (.getfield 24, 3) := by decide +kernel
theorem dX8_mark_52 : decode cX8_mark 52 = .ok (.arraylength, 1) := by decide +kernel
theorem dX8_mark_53 : decode cX8_mark 53 = .ok (.if_icmp .ge 24, 3) := by decide +kernel
theorem dX8_mark_56 : decode cX8_mark 56 = .ok (.aload_n 0, 1) := by decide +kernel
theorem dX8_mark_57 : decode cX8_mark 57 = .ok (.getfield 24, 3) := by decide +kernel
theorem dX8_mark_60 : decode cX8_mark 60 = .ok (.iload 4, 2) := by decide +kernel
theorem dX8_mark_62 : decode cX8_mark 62 = .ok (.iaload, 1) := by decide +kernel
theorem dX8_mark_63 : decode cX8_mark 63 = .ok (.ifCond .ne 14, 3) := by decide +kernel
theorem dX8_mark_66 : decode cX8_mark 66 = .ok (.aload_n 0, 1) := by decide +kernel
theorem dX8_mark_67 : decode cX8_mark 67 = .ok (.getfield 24, 3) := by decide +kernel
theorem dX8_mark_70 : decode cX8_mark 70 = .ok (.iload 4, 2) := by decide +kernel
theorem dX8_mark_72 : decode cX8_mark 72 = .ok (.iconst 1, 1) := by decide +kernel
theorem dX8_mark_73 : decode cX8_mark 73 = .ok (.iastore, 1) := by decide +kernel
theorem dX8_mark_74 : decode cX8_mark 74 = .ok (.iinc 2 1, 3) := by decide +kernel
theorem dX8_mark_77 : decode cX8_mark 77 = .ok (.iinc 3 1, 3) := by decide +kernel
theorem dX8_mark_80 : decode cX8_mark 80 = .ok (.goto (-68), 3) := by decide +kernel
theorem dX8_mark_83 : decode cX8_mark 83 = .ok (.iload_n 2, 1) := by decide +kernel
theorem dX8_mark_84 : decode cX8_mark 84 = .ok (.ireturn, 1) := by decide +kernel
theorem dX8_take_0 : decode cX8_take 0 = .ok (.aload_n 0, 1) := by decide +kernel
theorem dX8_take_1 : decode cX8_take 1 = .ok (.iload_n 1, 1) := by decide +kernel
theorem dX8_take_2 : decode cX8_take 2 = .ok (.invokevirtual 47, 3) := by decide +kernel
theorem dX8_take_5 : decode cX8_take 5 = .ok (.pop, 1) := by decide +kernel
theorem dX8_take_6 : decode cX8_take 6 = .ok (.aload_n 0, 1) := by decide +kernel
theorem dX8_take_7 : decode cX8_take 7 = .ok (.getfield 20, 3) := by decide +kernel
theorem dX8_take_10 : decode cX8_take 10 = .ok (.invokevirtual 50, 3) := by decide +kernel
theorem dX8_take_13 : decode cX8_take 13 = .ok (.iconst 0, 1) := by decide +kernel
theorem dX8_take_14 : decode cX8_take 14 = .ok (.istore_n 2, 1) := by decide +kernel
theorem dX8_take_15 : decode cX8_take 15 = .ok (.iload_n 2, 1) := by decide +kernel
theorem dX8_take_16 : decode cX8_take 16 = .ok (.sipush 128, 3) := by decide +kernel
theorem dX8_take_19 : decode cX8_take 19 = .ok (.if_icmp .ge 49, 3) := by decide +kernel
theorem dX8_take_22 : decode cX8_take 22 = .ok (.aload_n 0, 1) := by decide +kernel
theorem dX8_take_23 : decode cX8_take 23 = .ok (.getfield 9, 3) := by decide +kernel
theorem dX8_take_26 : decode cX8_take 26 = .ok (.iload_n 2, 1) := by decide +kernel
theorem dX8_take_27 : decode cX8_take 27 = .ok (.invokevirtual 53, 3) := by decide +kernel
theorem dX8_take_30 : decode cX8_take 30 = .ok (.istore_n 3, 1) := by decide +kernel
theorem dX8_take_31 : decode cX8_take 31 = .ok (.iload_n 3, 1) := by decide +kernel
theorem dX8_take_32 : decode cX8_take 32 = .ok (.aload_n 0, 1) := by decide +kernel
theorem dX8_take_33 : decode cX8_take 33 = .ok (.getfield 24, 3) := by decide +kernel
theorem dX8_take_36 : decode cX8_take 36 = .ok (.arraylength, 1) := by decide +kernel
theorem dX8_take_37 : decode cX8_take 37 = .ok (.if_icmp .ge 25, 3) := by decide +kernel
theorem dX8_take_40 : decode cX8_take 40 = .ok (.iload_n 3, 1) := by decide +kernel
theorem dX8_take_41 : decode cX8_take 41 = .ok (.ifCond .lt 21, 3) := by decide +kernel
theorem dX8_take_44 : decode cX8_take 44 = .ok (.aload_n 0, 1) := by decide +kernel
theorem dX8_take_45 : decode cX8_take 45 = .ok (.getfield 24, 3) := by decide +kernel
theorem dX8_take_48 : decode cX8_take 48 = .ok (.iload_n 3, 1) := by decide +kernel
theorem dX8_take_49 : decode cX8_take 49 = .ok (.iaload, 1) := by decide +kernel
theorem dX8_take_50 : decode cX8_take 50 = .ok (.iconst 1, 1) := by decide +kernel
theorem dX8_take_51 : decode cX8_take 51 = .ok (.if_icmp .ne 11, 3) := by decide +kernel
theorem dX8_take_54 : decode cX8_take 54 = .ok (.aload_n 0, 1) := by decide +kernel
theorem dX8_take_55 : decode cX8_take 55 = .ok (.getfield 20, 3) := by decide +kernel
theorem dX8_take_58 : decode cX8_take 58 = .ok (.iload_n 3, 1) := by decide +kernel
theorem dX8_take_59 : decode cX8_take 59 = .ok (.invokevirtual 56, 3) := by decide +kernel
theorem dX8_take_62 : decode cX8_take 62 = .ok (.iinc 2 1, 3) := by decide +kernel
theorem dX8_take_65 : decode cX8_take 65 = .ok (.goto (-50), 3) := by decide +kernel
theorem dX8_take_68 : decode cX8_take 68 = .ok (.return_, 1) := by decide +kernel
theorem dX8_isShattered_0 : decode cX8_isShattered 0 = .ok (.aload_n 0, 1) := by decide +kernel
theorem dX8_isShattered_1 : decode cX8_isShattered 1 = .ok (.iload_n 1, 1) := by decide +kernel
theorem dX8_isShattered_2 : decode cX8_isShattered 2 = .ok (.invokevirtual 47, 3) := by decide +kernel
theorem dX8_isShattered_5 : decode cX8_isShattered 5 = .ok (.iconst 1, 1) := by decide +kernel
theorem dX8_isShattered_6 : decode cX8_isShattered 6 = .ok (.iload_n 1, 1) := by decide +kernel
theorem dX8_isShattered_7 : decode cX8_isShattered 7 = .ok (.invokestatic 59, 3) := by decide +kernel
theorem dX8_isShattered_10 : decode cX8_isShattered 10 = .ok (.ishl, 1) := by decide +kernel
theorem dX8_isShattered_11 : decode cX8_isShattered 11 = .ok (.if_icmp .ne 7, 3) := by decide +kernel
theorem dX8_isShattered_14 : decode cX8_isShattered 14 = .ok (.iconst 1, 1) := by decide +kernel
theorem dX8_isShattered_15 : decode cX8_isShattered 15 = .ok (.goto 4, 3) := by decide +kernel
theorem dX8_isShattered_18 : decode cX8_isShattered 18 = .ok (.iconst 0, 1) := by decide +kernel
theorem dX8_isShattered_19 : decode cX8_isShattered 19 = .ok (.ireturn, 1) := by decide +kernel
theorem dX8_depth_0 : decode cX8_depth 0 = .ok (.iconst 0, 1) := by decide +kernel
theorem dX8_depth_1 : decode cX8_depth 1 = .ok (.istore_n 1, 1) := by decide +kernel
theorem dX8_depth_2 : decode cX8_depth 2 = .ok (.iconst 0, 1) := by decide +kernel
theorem dX8_depth_3 : decode cX8_depth 3 = .ok (.istore_n 2, 1) := by decide +kernel
theorem dX8_depth_4 : decode cX8_depth 4 = .ok (.iload_n 2, 1) := by decide +kernel
theorem dX8_depth_5 : decode cX8_depth 5 = .ok (.aload_n 0, 1) := by decide +kernel
theorem dX8_depth_6 : decode cX8_depth 6 = .ok (.getfield 9, 3) := by decide +kernel
theorem dX8_depth_9 : decode cX8_depth 9 = .ok (.invokevirtual 64, 3) := by decide +kernel
theorem dX8_depth_12 : decode cX8_depth 12 = .ok (.if_icmp .gt 29, 3) := by decide +kernel
theorem dX8_depth_15 : decode cX8_depth 15 = .ok (.iload_n 2, 1) := by decide +kernel
theorem dX8_depth_16 : decode cX8_depth 16 = .ok (.invokestatic 59, 3) := by decide +kernel
theorem dX8_depth_19 : decode cX8_depth 19 = .ok (.istore_n 3, 1) := by decide +kernel
theorem dX8_depth_20 : decode cX8_depth 20 = .ok (.iload_n 3, 1) := by decide +kernel
theorem dX8_depth_21 : decode cX8_depth 21 = .ok (.iload_n 1, 1) := by decide +kernel
theorem dX8_depth_22 : decode cX8_depth 22 = .ok (.if_icmp .le 13, 3) := by decide +kernel
theorem dX8_depth_25 : decode cX8_depth 25 = .ok (.aload_n 0, 1) := by decide +kernel
theorem dX8_depth_26 : decode cX8_depth 26 = .ok (.iload_n 2, 1) := by decide +kernel
theorem dX8_depth_27 : decode cX8_depth 27 = .ok (.invokevirtual 68, 3) := by decide +kernel
theorem dX8_depth_30 : decode cX8_depth 30 = .ok (.ifCond .eq 5, 3) := by decide +kernel
theorem dX8_depth_33 : decode cX8_depth 33 = .ok (.iload_n 3, 1) := by decide +kernel
theorem dX8_depth_34 : decode cX8_depth 34 = .ok (.istore_n 1, 1) := by decide +kernel
theorem dX8_depth_35 : decode cX8_depth 35 = .ok (.iinc 2 1, 3) := by decide +kernel
theorem dX8_depth_38 : decode cX8_depth 38 = .ok (.goto (-34), 3) := by decide +kernel
theorem dX8_depth_41 : decode cX8_depth 41 = .ok (.iload_n 1, 1) := by decide +kernel
theorem dX8_depth_42 : decode cX8_depth 42 = .ok (.ireturn, 1) := by decide +kernel
theorem dX9_init_0 : decode cX9_init 0 = .ok (.aload_n 0, 1) := by decide +kernel
theorem dX9_init_1 : decode cX9_init 1 = .ok (.invokespecial 3, 3) := by decide +kernel
theorem dX9_init_4 : decode cX9_init 4 = .ok (.aload_n 0, 1) := by decide +kernel
theorem dX9_init_5 : decode cX9_init 5 = .ok (.aload_n 1, 1) := by decide +kernel
theorem dX9_init_6 : decode cX9_init 6 = .ok (.putfield 9, 3) := by decide +kernel
theorem dX9_init_9 : decode cX9_init 9 = .ok (.aload_n 0, 1) := by decide +kernel
theorem dX9_init_10 : decode cX9_init 10 = .ok (.sipush 128, 3) := by decide +kernel
theorem dX9_init_13 : decode cX9_init 13 = .ok (.newarray .int, 2) := by decide +kernel
theorem dX9_init_15 : decode cX9_init 15 = .ok (.putfield 15, 3) := by decide +kernel
theorem dX9_init_18 : decode cX9_init 18 = .ok (.aload_n 0, 1) := by decide +kernel
theorem dX9_init_19 : decode cX9_init 19 = .ok (.bipush 7, 2) := by decide +kernel
theorem dX9_init_21 : decode cX9_init 21 = .ok (.newarray .int, 2) := by decide +kernel
theorem dX9_init_23 : decode cX9_init 23 = .ok (.putfield 19, 3) := by decide +kernel
theorem dX9_init_26 : decode cX9_init 26 = .ok (.return_, 1) := by decide +kernel
theorem dX9_countUnions_0 : decode cX9_countUnions 0 = .ok (.aload_n 0, 1) := by decide +kernel
theorem dX9_countUnions_1 : decode cX9_countUnions 1 = .ok (.getfield 15, 3) := by decide +kernel
theorem dX9_countUnions_4 : decode cX9_countUnions 4 = .ok (.iconst 0, 1) := by decide +kernel
theorem dX9_countUnions_5 : decode cX9_countUnions 5 = .ok (.invokestatic 22, 3) := by decide +kernel
theorem dX9_countUnions_8 : decode cX9_countUnions 8 = .ok (.aload_n 0, 1) := by decide +kernel
theorem dX9_countUnions_9 : decode cX9_countUnions 9 = .ok (.getfield 15, 3) := by decide +kernel
theorem dX9_countUnions_12 : decode cX9_countUnions 12 = .ok (.iconst 0, 1) := by decide +kernel
theorem dX9_countUnions_13 : decode cX9_countUnions 13 = .ok (.iconst 1, 1) := by decide +kernel
theorem dX9_countUnions_14 : decode cX9_countUnions 14 = .ok (.iastore, 1) := by decide +kernel
theorem dX9_countUnions_15 : decode cX9_countUnions 15 = .ok (.iconst 1, 1) := by decide +kernel
theorem dX9_countUnions_16 : decode cX9_countUnions 16 = .ok (.istore_n 3, 1) := by decide +kernel
theorem dX9_countUnions_17 : decode cX9_countUnions 17 = .ok (.iconst 0, 1) := by decide +kernel
theorem dX9_countUnions_18 : decode cX9_countUnions 18 = .ok (.istore 4, 2) := by decide +kernel
theorem dX9_countUnions_20 : decode cX9_countUnions 20 = .ok (.iload 4, 2) := by decide +kernel
theorem dX9_countUnions_22 : decode cX9_countUnions 22 = .ok (.aload_n 1, 1) := by decide +kernel
theorem dX9_countUnions_23 : decode cX9_countUnions 23 = .ok (.getfield 28, 3) := by decide +kernel
theorem dX9_countUnions_26 : decode cX9_countUnions 26 = .ok (.if_icmp .ge 92, 3) := by decide +kernel
theorem dX9_countUnions_29 : decode cX9_countUnions 29 = .ok (.iconst 0, 1) := by decide +kernel
theorem dX9_countUnions_30 : decode cX9_countUnions 30 = .ok (.istore 5, 2) := by decide +kernel
theorem dX9_countUnions_32 : decode cX9_countUnions 32 = .ok (.iload 5, 2) := by decide +kernel
theorem dX9_countUnions_34 : decode cX9_countUnions 34 = .ok (.aload_n 0, 1) := by decide +kernel
theorem dX9_countUnions_35 : decode cX9_countUnions 35 = .ok (.getfield 15, 3) := by decide +kernel
theorem dX9_countUnions_38 : decode cX9_countUnions 38 = .ok (.arraylength, 1) := by decide +kernel
theorem dX9_countUnions_39 : decode cX9_countUnions 39 = .ok (.if_icmp .ge 73, 3) := by decide +kernel
theorem dX9_countUnions_42 : decode cX9_countUnions 42 = .ok (.iload 4, 2) := by decide +kernel
theorem dX9_countUnions_44 : decode cX9_countUnions 44 = .ok (.iload_n 2, 1) := by decide +kernel
theorem dX9_countUnions_45 : decode cX9_countUnions 45 = .ok (.if_icmp .eq 67, 3) := by decide +kernel
theorem dX9_countUnions_48 : decode cX9_countUnions 48 = .ok (.iload 5, 2) := by decide +kernel
theorem dX9_countUnions_50 : decode cX9_countUnions 50 = .ok (.aload_n 1, 1) := by decide +kernel
theorem dX9_countUnions_51 : decode cX9_countUnions 51 = .ok (.iload 4, 2) := by decide +kernel
theorem dX9_countUnions_53 : decode cX9_countUnions 53 = .ok (.invokevirtual 34, 3) := by decide +kernel
theorem dX9_countUnions_56 : decode cX9_countUnions 56 = .ok (.ior, 1) := by decide +kernel
theorem dX9_countUnions_57 : decode cX9_countUnions 57 = .ok (.istore 6, 2) := by decide +kernel
theorem dX9_countUnions_59 : decode cX9_countUnions 59 = .ok (.aload_n 0, 1) := by decide +kernel
theorem dX9_countUnions_60 : decode cX9_countUnions 60 = .ok (.getfield 15, 3) := by decide +kernel
theorem dX9_countUnions_63 : decode cX9_countUnions 63 = .ok (.iload 5, 2) := by decide +kernel
theorem dX9_countUnions_65 : decode cX9_countUnions 65 = .ok (.iaload, 1) := by decide +kernel
theorem dX9_countUnions_66 : decode cX9_countUnions 66 = .ok (.iconst 1, 1) := by decide +kernel
theorem dX9_countUnions_67 : decode cX9_countUnions 67 = .ok (.if_icmp .ne 39, 3) := by decide +kernel
theorem dX9_countUnions_70 : decode cX9_countUnions 70 = .ok (.iload 6, 2) := by decide +kernel
theorem dX9_countUnions_72 : decode cX9_countUnions 72 = .ok (.ifCond .lt 34, 3) := by decide +kernel
theorem dX9_countUnions_75 : decode cX9_countUnions 75 = .ok (.iload 6, 2) := by decide +kernel
theorem dX9_countUnions_77 : decode cX9_countUnions 77 = .ok (.aload_n 0, 1) := by decide +kernel
theorem dX9_countUnions_78 : decode cX9_countUnions 78 = .ok (.getfield 15, 3) := by decide +kernel
theorem dX9_countUnions_81 : decode cX9_countUnions 81 = .ok (.arraylength, 1) := by decide +kernel
theorem dX9_countUnions_82 : decode cX9_countUnions 82 = .ok (.if_icmp .ge 24, 3) := by decide +kernel
theorem dX9_countUnions_85 : decode cX9_countUnions 85 = .ok (.aload_n 0, 1) := by decide +kernel
theorem dX9_countUnions_86 : decode cX9_countUnions 86 = .ok (.getfield 15, 3) := by decide +kernel
theorem dX9_countUnions_89 : decode cX9_countUnions 89 = .ok (.iload 6, 2) := by decide +kernel
theorem dX9_countUnions_91 : decode cX9_countUnions 91 = .ok (.iaload, 1) := by decide +kernel
theorem dX9_countUnions_92 : decode cX9_countUnions 92 = .ok (.ifCond .ne 14, 3) := by decide +kernel
theorem dX9_countUnions_95 : decode cX9_countUnions 95 = .ok (.aload_n 0, 1) := by decide +kernel
theorem dX9_countUnions_96 : decode cX9_countUnions 96 = .ok (.getfield 15, 3) := by decide +kernel
theorem dX9_countUnions_99 : decode cX9_countUnions 99 = .ok (.iload 6, 2) := by decide +kernel
theorem dX9_countUnions_101 : decode cX9_countUnions 101 = .ok (.iconst 1, 1) := by decide +kernel
theorem dX9_countUnions_102 : decode cX9_countUnions 102 = .ok (.iastore, 1) := by decide +kernel
theorem dX9_countUnions_103 : decode cX9_countUnions 103 = .ok (.iinc 3 1, 3) := by decide +kernel
theorem dX9_countUnions_106 : decode cX9_countUnions 106 = .ok (.iinc 5 1, 3) := by decide +kernel
theorem dX9_countUnions_109 : decode cX9_countUnions 109 = .ok (.goto (-77), 3) := by decide +kernel
theorem dX9_countUnions_112 : decode cX9_countUnions 112 = .ok (.iinc 4 1, 3) := by decide +kernel
theorem dX9_countUnions_115 : decode cX9_countUnions 115 = .ok (.goto (-95), 3) := by decide +kernel
theorem dX9_countUnions_118 : decode cX9_countUnions 118 = .ok (.iload_n 3, 1) := by decide +kernel
theorem dX9_countUnions_119 : decode cX9_countUnions 119 = .ok (.ireturn, 1) := by decide +kernel
theorem dX9_gain_0 : decode cX9_gain 0 = .ok (.aload_n 0, 1) := by decide +kernel
theorem dX9_gain_1 : decode cX9_gain 1 = .ok (.getfield 15, 3) := by decide +kernel
theorem dX9_gain_4 : decode cX9_gain 4 = .ok (.iconst 0, 1) := by decide +kernel
theorem dX9_gain_5 : decode cX9_gain 5 = .ok (.invokestatic 22, 3) := by decide +kernel
theorem dX9_gain_8 : decode cX9_gain 8 = .ok (.aload_n 0, 1) := by decide +kernel
theorem dX9_gain_9 : decode cX9_gain 9 = .ok (.getfield 19, 3) := by decide +kernel
theorem dX9_gain_12 : decode cX9_gain 12 = .ok (.iconst 0, 1) := by decide +kernel
theorem dX9_gain_13 : decode cX9_gain 13 = .ok (.invokestatic 22, 3) := by decide +kernel
theorem dX9_gain_16 : decode cX9_gain 16 = .ok (.iconst 0, 1) := by decide +kernel
theorem dX9_gain_17 : decode cX9_gain 17 = .ok (.istore_n 2, 1) := by decide +kernel
theorem dX9_gain_18 : decode cX9_gain 18 = .ok (.iconst 0, 1) := by decide +kernel
theorem dX9_gain_19 : decode cX9_gain 19 = .ok (.istore_n 3, 1) := by decide +kernel
theorem dX9_gain_20 : decode cX9_gain 20 = .ok (.iload_n 3, 1) := by decide +kernel
theorem dX9_gain_21 : decode cX9_gain 21 = .ok (.aload_n 0, 1) := by decide +kernel
theorem dX9_gain_22 : decode cX9_gain 22 = .ok (.getfield 9, 3) := by decide +kernel
theorem dX9_gain_25 : decode cX9_gain 25 = .ok (.getfield 38, 3) := by decide +kernel
theorem dX9_gain_28 : decode cX9_gain 28 = .ok (.getfield 28, 3) := by decide +kernel
theorem dX9_gain_31 : decode cX9_gain 31 = .ok (.if_icmp .ge 90, 3) := by decide +kernel
theorem dX9_gain_34 : decode cX9_gain 34 = .ok (.aload_n 0, 1) := by decide +kernel
theorem dX9_gain_35 : decode cX9_gain 35 = .ok (.getfield 9, 3) := by decide +kernel
theorem dX9_gain_38 : decode cX9_gain 38 = .ok (.getfield 38, 3) := by decide +kernel
theorem dX9_gain_41 : decode cX9_gain 41 = .ok (.iload_n 3, 1) := by decide +kernel
theorem dX9_gain_42 : decode cX9_gain 42 = .ok (.invokevirtual 34, 3) := by decide +kernel
theorem dX9_gain_45 : decode cX9_gain 45 = .ok (.iload_n 1, 1) := by decide +kernel
theorem dX9_gain_46 : decode cX9_gain 46 = .ok (.ior, 1) := by decide +kernel
theorem dX9_gain_47 : decode cX9_gain 47 = .ok (.istore 4, 2) := by decide +kernel
theorem dX9_gain_49 : decode cX9_gain 49 = .ok (.aload_n 0, 1) := by decide +kernel
theorem dX9_gain_50 : decode cX9_gain 50 = .ok (.getfield 9, 3) := by decide +kernel
theorem dX9_gain_53 : decode cX9_gain 53 = .ok (.iload 4, 2) := by decide +kernel
theorem dX9_gain_55 : decode cX9_gain 55 = .ok (.invokevirtual 44, 3) := by decide +kernel
theorem dX9_gain_58 : decode cX9_gain 58 = .ok (.ifCond .ge 7, 3) := by decide +kernel
theorem dX9_gain_61 : decode cX9_gain 61 = .ok (.iconst 1, 1) := by decide +kernel
theorem dX9_gain_62 : decode cX9_gain 62 = .ok (.goto 4, 3) := by decide +kernel
theorem dX9_gain_65 : decode cX9_gain 65 = .ok (.iconst 0, 1) := by decide +kernel
theorem dX9_gain_66 : decode cX9_gain 66 = .ok (.istore 5, 2) := by decide +kernel
theorem dX9_gain_68 : decode cX9_gain 68 = .ok (.iload 5, 2) := by decide +kernel
theorem dX9_gain_70 : decode cX9_gain 70 = .ok (.ifCond .eq 45, 3) := by decide +kernel
theorem dX9_gain_73 : decode cX9_gain 73 = .ok (.iload 4, 2) := by decide +kernel
theorem dX9_gain_75 : decode cX9_gain 75 = .ok (.ifCond .lt 40, 3) := by decide +kernel
theorem dX9_gain_78 : decode cX9_gain 78 = .ok (.iload 4, 2) := by decide +kernel
theorem dX9_gain_80 : decode cX9_gain 80 = .ok (.aload_n 0, 1) := by decide +kernel
theorem dX9_gain_81 : decode cX9_gain 81 = .ok (.getfield 15, 3) := by decide +kernel
theorem dX9_gain_84 : decode cX9_gain 84 = .ok (.arraylength, 1) := by decide +kernel
theorem dX9_gain_85 : decode cX9_gain 85 = .ok (.if_icmp .ge 30, 3) := by decide +kernel
theorem dX9_gain_88 : decode cX9_gain 88 = .ok (.aload_n 0, 1) := by decide +kernel
theorem dX9_gain_89 : decode cX9_gain 89 = .ok (.getfield 15, 3) := by decide +kernel
theorem dX9_gain_92 : decode cX9_gain 92 = .ok (.iload 4, 2) := by decide +kernel
theorem dX9_gain_94 : decode cX9_gain 94 = .ok (.iaload, 1) := by decide +kernel
theorem dX9_gain_95 : decode cX9_gain 95 = .ok (.ifCond .ne 20, 3) := by decide +kernel
theorem dX9_gain_98 : decode cX9_gain 98 = .ok (.aload_n 0, 1) := by decide +kernel
theorem dX9_gain_99 : decode cX9_gain 99 = .ok (.getfield 15, 3) := by decide +kernel
theorem dX9_gain_102 : decode cX9_gain 102 = .ok (.iload 4, 2) := by decide +kernel
theorem dX9_gain_104 : decode cX9_gain 104 = .ok (.iconst 1, 1) := by decide +kernel
theorem dX9_gain_105 : decode cX9_gain 105 = .ok (.iastore, 1) := by decide +kernel
theorem dX9_gain_106 : decode cX9_gain 106 = .ok (.iinc 2 1, 3) := by decide +kernel
theorem dX9_gain_109 : decode cX9_gain 109 = .ok (.aload_n 0, 1) := by decide +kernel
theorem dX9_gain_110 : decode cX9_gain 110 = .ok (.iload 4, 2) := by decide +kernel
theorem dX9_gain_112 : decode cX9_gain 112 = .ok (.invokevirtual 47, 3) := by decide +kernel
theorem dX9_gain_115 : decode cX9_gain 115 = .ok (.iinc 3 1, 3) := by decide +kernel
theorem dX9_gain_118 : decode cX9_gain 118 = .ok (.goto (-98), 3) := by decide +kernel
theorem dX9_gain_121 : decode cX9_gain 121 = .ok (.iload_n 2, 1) := by decide +kernel
theorem dX9_gain_122 : decode cX9_gain 122 = .ok (.ireturn, 1) := by decide +kernel
theorem dX9_addPoints_0 : decode cX9_addPoints 0 = .ok (.iconst 0, 1) := by decide +kernel
theorem dX9_addPoints_1 : decode cX9_addPoints 1 = .ok (.istore_n 2, 1) := by decide +kernel
theorem dX9_addPoints_2 : decode cX9_addPoints 2 = .ok (.iload_n 2, 1) := by decide +kernel
theorem dX9_addPoints_3 : decode cX9_addPoints 3 = .ok (.aload_n 0, 1) := by decide +kernel
theorem dX9_addPoints_4 : decode cX9_addPoints 4 = .ok (.getfield 19, 3) := by decide +kernel
theorem dX9_addPoints_7 : decode cX9_addPoints 7 = .ok (.arraylength, 1) := by decide +kernel
theorem dX9_addPoints_8 : decode cX9_addPoints 8 = .ok (.if_icmp .ge 23, 3) := by decide +kernel
theorem dX9_addPoints_11 : decode cX9_addPoints 11 = .ok (.aload_n 0, 1) := by decide +kernel
theorem dX9_addPoints_12 : decode cX9_addPoints 12 = .ok (.getfield 19, 3) := by decide +kernel
theorem dX9_addPoints_15 : decode cX9_addPoints 15 = .ok (.iload_n 2, 1) := by decide +kernel
theorem dX9_addPoints_16 : decode cX9_addPoints 16 = .ok (.dup2, 1) := by decide +kernel
theorem dX9_addPoints_17 : decode cX9_addPoints 17 = .ok (.iaload, 1) := by decide +kernel
theorem dX9_addPoints_18 : decode cX9_addPoints 18 = .ok (.iload_n 1, 1) := by decide +kernel
theorem dX9_addPoints_19 : decode cX9_addPoints 19 = .ok (.iload_n 2, 1) := by decide +kernel
theorem dX9_addPoints_20 : decode cX9_addPoints 20 = .ok (.ishr, 1) := by decide +kernel
theorem dX9_addPoints_21 : decode cX9_addPoints 21 = .ok (.iconst 1, 1) := by decide +kernel
theorem dX9_addPoints_22 : decode cX9_addPoints 22 = .ok (.iand, 1) := by decide +kernel
theorem dX9_addPoints_23 : decode cX9_addPoints 23 = .ok (.iadd, 1) := by decide +kernel
theorem dX9_addPoints_24 : decode cX9_addPoints 24 = .ok (.iastore, 1) := by decide +kernel
theorem dX9_addPoints_25 : decode cX9_addPoints 25 = .ok (.iinc 2 1, 3) := by decide +kernel
theorem dX9_addPoints_28 : decode cX9_addPoints 28 = .ok (.goto (-26), 3) := by decide +kernel
theorem dX9_addPoints_31 : decode cX9_addPoints 31 = .ok (.return_, 1) := by decide +kernel
theorem dX9_leastGain_0 : decode cX9_leastGain 0 = .ok (.bipush (-2), 2) := by decide +kernel
theorem dX9_leastGain_2 : decode cX9_leastGain 2 = .ok (.istore_n 1, 1) := by decide +kernel
theorem dX9_leastGain_3 : decode cX9_leastGain 3 = .ok (.ldc 51, 2) := by decide +kernel
theorem dX9_leastGain_5 : decode cX9_leastGain 5 = .ok (.istore_n 2, 1) := by decide +kernel
theorem dX9_leastGain_6 : decode cX9_leastGain 6 = .ok (.iconst 1, 1) := by decide +kernel
theorem dX9_leastGain_7 : decode cX9_leastGain 7 = .ok (.istore_n 3, 1) := by decide +kernel
theorem dX9_leastGain_8 : decode cX9_leastGain 8 = .ok (.iload_n 3, 1) := by decide +kernel
theorem dX9_leastGain_9 : decode cX9_leastGain 9 = .ok (.sipush 128, 3) := by decide +kernel
theorem dX9_leastGain_12 : decode cX9_leastGain 12 = .ok (.if_icmp .ge 63, 3) := by decide +kernel
theorem dX9_leastGain_15 : decode cX9_leastGain 15 = .ok (.aload_n 0, 1) := by decide +kernel
theorem dX9_leastGain_16 : decode cX9_leastGain 16 = .ok (.getfield 9, 3) := by decide +kernel
theorem dX9_leastGain_19 : decode cX9_leastGain 19 = .ok (.iload_n 3, 1) := by decide +kernel
theorem dX9_leastGain_20 : decode cX9_leastGain 20 = .ok (.invokevirtual 52, 3) := by decide +kernel
theorem dX9_leastGain_23 : decode cX9_leastGain 23 = .ok (.istore 4, 2) := by decide +kernel
theorem dX9_leastGain_25 : decode cX9_leastGain 25 = .ok (.iload 4, 2) := by decide +kernel
theorem dX9_leastGain_27 : decode cX9_leastGain 27 = .ok (.aload_n 0, 1) := by decide +kernel
theorem dX9_leastGain_28 : decode cX9_leastGain 28 = .ok (.getfield 9, 3) := by decide +kernel
theorem dX9_leastGain_31 : decode cX9_leastGain 31 = .ok (.invokevirtual 55, 3) := by decide +kernel
theorem dX9_leastGain_34 : decode cX9_leastGain 34 = .ok (.if_icmp .gt 35, 3) := by decide +kernel
theorem dX9_leastGain_37 : decode cX9_leastGain 37 = .ok (.aload_n 0, 1) := by decide +kernel
theorem dX9_leastGain_38 : decode cX9_leastGain 38 = .ok (.getfield 9, 3) := by decide +kernel
theorem dX9_leastGain_41 : decode cX9_leastGain 41 = .ok (.iload 4, 2) := by decide +kernel
theorem dX9_leastGain_43 : decode cX9_leastGain 43 = .ok (.invokevirtual 44, 3) := by decide +kernel
theorem dX9_leastGain_46 : decode cX9_leastGain 46 = .ok (.ifCond .ge 23, 3) := by decide +kernel
theorem dX9_leastGain_49 : decode cX9_leastGain 49 = .ok (.aload_n 0, 1) := by decide +kernel
theorem dX9_leastGain_50 : decode cX9_leastGain 50 = .ok (.iload 4, 2) := by decide +kernel
theorem dX9_leastGain_52 : decode cX9_leastGain 52 = .ok (.invokevirtual 59, 3) := by decide +kernel
theorem dX9_leastGain_55 : decode cX9_leastGain 55 = .ok (.istore 5, 2) := by decide +kernel
theorem dX9_leastGain_57 : decode cX9_leastGain 57 = .ok (.iload 5, 2) := by decide +kernel
theorem dX9_leastGain_59 : decode cX9_leastGain 59 = .ok (.iload_n 2, 1) := by decide +kernel
theorem dX9_leastGain_60 : decode cX9_leastGain 60 = .ok (.if_icmp .ge 9, 3) := by decide +kernel
theorem dX9_leastGain_63 : decode cX9_leastGain 63 = .ok (.iload 5, 2) := by decide +kernel
theorem dX9_leastGain_65 : decode cX9_leastGain 65 = .ok (.istore_n 2, 1) := by decide +kernel
theorem dX9_leastGain_66 : decode cX9_leastGain 66 = .ok (.iload 4, 2) := by decide +kernel
theorem dX9_leastGain_68 : decode cX9_leastGain 68 = .ok (.istore_n 1, 1) := by decide +kernel
theorem dX9_leastGain_69 : decode cX9_leastGain 69 = .ok (.iinc 3 1, 3) := by decide +kernel
theorem dX9_leastGain_72 : decode cX9_leastGain 72 = .ok (.goto (-64), 3) := by decide +kernel
theorem dX9_leastGain_75 : decode cX9_leastGain 75 = .ok (.iload_n 1, 1) := by decide +kernel
theorem dX9_leastGain_76 : decode cX9_leastGain 76 = .ok (.ireturn, 1) := by decide +kernel
theorem dX9_leastFrequent_0 : decode cX9_leastFrequent 0 = .ok (.bipush (-2), 2) := by decide +kernel
theorem dX9_leastFrequent_2 : decode cX9_leastFrequent 2 = .ok (.istore_n 1, 1) := by decide +kernel
theorem dX9_leastFrequent_3 : decode cX9_leastFrequent 3 = .ok (.ldc 51, 2) := by decide +kernel
theorem dX9_leastFrequent_5 : decode cX9_leastFrequent 5 = .ok (.istore_n 2, 1) := by decide +kernel
theorem dX9_leastFrequent_6 : decode cX9_leastFrequent 6 = .ok (.iconst 1, 1) := by decide +kernel
theorem dX9_leastFrequent_7 : decode cX9_leastFrequent 7 = .ok (.istore_n 3, 1) := by decide +kernel
theorem dX9_leastFrequent_8 : decode cX9_leastFrequent 8 = .ok (.iload_n 3, 1) := by decide +kernel
theorem dX9_leastFrequent_9 : decode cX9_leastFrequent 9 = .ok (.sipush 128, 3) := by decide +kernel
theorem dX9_leastFrequent_12 : decode cX9_leastFrequent 12 = .ok (.if_icmp .ge 51, 3) := by decide +kernel
theorem dX9_leastFrequent_15 : decode cX9_leastFrequent 15 = .ok (.aload_n 0, 1) := by decide +kernel
theorem dX9_leastFrequent_16 : decode cX9_leastFrequent 16 = .ok (.getfield 9, 3) := by decide +kernel
theorem dX9_leastFrequent_19 : decode cX9_leastFrequent 19 = .ok (.iload_n 3, 1) := by decide +kernel
theorem dX9_leastFrequent_20 : decode cX9_leastFrequent 20 = .ok (.invokevirtual 52, 3) := by decide +kernel
theorem dX9_leastFrequent_23 : decode cX9_leastFrequent 23 = .ok (.istore 4, 2) := by decide +kernel
theorem dX9_leastFrequent_25 : decode cX9_leastFrequent 25 = .ok (.iload 4, 2) := by decide +kernel
theorem dX9_leastFrequent_27 : decode cX9_leastFrequent 27 = .ok (.aload_n 0, 1) := by decide +kernel
theorem dX9_leastFrequent_28 : decode cX9_leastFrequent 28 = .ok (.getfield 9, 3) := by decide +kernel
theorem dX9_leastFrequent_31 : decode cX9_leastFrequent 31 = .ok (.invokevirtual 55, 3) := by decide +kernel
theorem dX9_leastFrequent_34 : decode cX9_leastFrequent 34 = .ok (.if_icmp .gt 23, 3) := by decide +kernel
theorem dX9_leastFrequent_37 : decode cX9_leastFrequent 37 = .ok (.aload_n 0, 1) := by decide +kernel
theorem dX9_leastFrequent_38 : decode cX9_leastFrequent 38 = .ok (.iload 4, 2) := by decide +kernel
theorem dX9_leastFrequent_40 : decode cX9_leastFrequent 40 = .ok (.invokevirtual 62, 3) := by decide +kernel
theorem dX9_leastFrequent_43 : decode cX9_leastFrequent 43 = .ok (.istore 5, 2) := by decide +kernel
theorem dX9_leastFrequent_45 : decode cX9_leastFrequent 45 = .ok (.iload 5, 2) := by decide +kernel
theorem dX9_leastFrequent_47 : decode cX9_leastFrequent 47 = .ok (.iload_n 2, 1) := by decide +kernel
theorem dX9_leastFrequent_48 : decode cX9_leastFrequent 48 = .ok (.if_icmp .ge 9, 3) := by decide +kernel
theorem dX9_leastFrequent_51 : decode cX9_leastFrequent 51 = .ok (.iload 5, 2) := by decide +kernel
theorem dX9_leastFrequent_53 : decode cX9_leastFrequent 53 = .ok (.istore_n 2, 1) := by decide +kernel
theorem dX9_leastFrequent_54 : decode cX9_leastFrequent 54 = .ok (.iload 4, 2) := by decide +kernel
theorem dX9_leastFrequent_56 : decode cX9_leastFrequent 56 = .ok (.istore_n 1, 1) := by decide +kernel
theorem dX9_leastFrequent_57 : decode cX9_leastFrequent 57 = .ok (.iinc 3 1, 3) := by decide +kernel
theorem dX9_leastFrequent_60 : decode cX9_leastFrequent 60 = .ok (.goto (-52), 3) := by decide +kernel
theorem dX9_leastFrequent_63 : decode cX9_leastFrequent 63 = .ok (.iload_n 1, 1) := by decide +kernel
theorem dX9_leastFrequent_64 : decode cX9_leastFrequent 64 = .ok (.ireturn, 1) := by decide +kernel
theorem dX9_countFrequentWith_0 : decode cX9_countFrequentWith 0 = .ok (.aload_n 0, 1) := by decide +kernel
theorem dX9_countFrequentWith_1 : decode cX9_countFrequentWith 1 = .ok (.getfield 9, 3) := by decide +kernel
theorem dX9_countFrequentWith_4 : decode cX9_countFrequentWith 4 = .ok (.getfield 38, 3) := by decide +kernel
theorem dX9_countFrequentWith_7 : decode cX9_countFrequentWith 7 = .ok (.getfield 28, 3) := by decide +kernel
theorem dX9_countFrequentWith_10 : decode cX9_countFrequentWith 10 = .ok (.aload_n 0, 1) := by decide +kernel
theorem dX9_countFrequentWith_11 : decode cX9_countFrequentWith 11 = .ok (.iload_n 1, 1) := by decide +kernel
theorem dX9_countFrequentWith_12 : decode cX9_countFrequentWith 12 = .ok (.invokevirtual 59, 3) := by decide +kernel
theorem dX9_countFrequentWith_15 : decode cX9_countFrequentWith 15 = .ok (.iadd, 1) := by decide +kernel
theorem dX9_countFrequentWith_16 : decode cX9_countFrequentWith 16 = .ok (.istore_n 2, 1) := by decide +kernel
theorem dX9_countFrequentWith_17 : decode cX9_countFrequentWith 17 = .ok (.iconst 0, 1) := by decide +kernel
theorem dX9_countFrequentWith_18 : decode cX9_countFrequentWith 18 = .ok (.istore_n 3, 1) := by decide +kernel
theorem dX9_countFrequentWith_19 : decode cX9_countFrequentWith 19 = .ok (.iconst 0, 1) := by decide +kernel
theorem dX9_countFrequentWith_20 : decode cX9_countFrequentWith 20 = .ok (.istore 4, 2) := by decide +kernel
theorem dX9_countFrequentWith_22 : decode cX9_countFrequentWith 22 = .ok (.iload 4, 2) := by decide +kernel
theorem dX9_countFrequentWith_24 : decode cX9_countFrequentWith 24 = .ok (.aload_n 0, 1) := by decide +kernel
theorem dX9_countFrequentWith_25 : decode cX9_countFrequentWith 25 = .ok (.getfield 9, 3) := by decide +kernel
theorem dX9_countFrequentWith_28 : decode cX9_countFrequentWith 28 = .ok (.getfield 65, 3) := by decide +kernel
theorem dX9_countFrequentWith_31 : decode cX9_countFrequentWith 31 = .ok (.if_icmp .ge 45, 3) := by decide +kernel
theorem dX9_countFrequentWith_34 : decode cX9_countFrequentWith 34 = .ok (.iload 4, 2) := by decide +kernel
theorem dX9_countFrequentWith_36 : decode cX9_countFrequentWith 36 = .ok (.aload_n 0, 1) := by decide +kernel
theorem dX9_countFrequentWith_37 : decode cX9_countFrequentWith 37 = .ok (.getfield 19, 3) := by decide +kernel
theorem dX9_countFrequentWith_40 : decode cX9_countFrequentWith 40 = .ok (.arraylength, 1) := by decide +kernel
theorem dX9_countFrequentWith_41 : decode cX9_countFrequentWith 41 = .ok (.if_icmp .ge 35, 3) := by decide +kernel
theorem dX9_countFrequentWith_44 : decode cX9_countFrequentWith 44 = .ok (.iconst 2, 1) := by decide +kernel
theorem dX9_countFrequentWith_45 : decode cX9_countFrequentWith 45 = .ok (.aload_n 0, 1) := by decide +kernel
theorem dX9_countFrequentWith_46 : decode cX9_countFrequentWith 46 = .ok (.getfield 9, 3) := by decide +kernel
theorem dX9_countFrequentWith_49 : decode cX9_countFrequentWith 49 = .ok (.iload 4, 2) := by decide +kernel
theorem dX9_countFrequentWith_51 : decode cX9_countFrequentWith 51 = .ok (.invokevirtual 68, 3) := by decide +kernel
theorem dX9_countFrequentWith_54 : decode cX9_countFrequentWith 54 = .ok (.aload_n 0, 1) := by decide +kernel
theorem dX9_countFrequentWith_55 : decode cX9_countFrequentWith 55 = .ok (.getfield 19, 3) := by decide +kernel
theorem dX9_countFrequentWith_58 : decode cX9_countFrequentWith 58 = .ok (.iload 4, 2) := by decide +kernel
theorem dX9_countFrequentWith_60 : decode cX9_countFrequentWith 60 = .ok (.iaload, 1) := by decide +kernel
theorem dX9_countFrequentWith_61 : decode cX9_countFrequentWith 61 = .ok (.iadd, 1) := by decide +kernel
theorem dX9_countFrequentWith_62 : decode cX9_countFrequentWith 62 = .ok (.imul, 1) := by decide +kernel
theorem dX9_countFrequentWith_63 : decode cX9_countFrequentWith 63 = .ok (.iload_n 2, 1) := by decide +kernel
theorem dX9_countFrequentWith_64 : decode cX9_countFrequentWith 64 = .ok (.if_icmp .lt 6, 3) := by decide +kernel
theorem dX9_countFrequentWith_67 : decode cX9_countFrequentWith 67 = .ok (.iinc 3 1, 3) := by decide +kernel
theorem dX9_countFrequentWith_70 : decode cX9_countFrequentWith 70 = .ok (.iinc 4 1, 3) := by decide +kernel
theorem dX9_countFrequentWith_73 : decode cX9_countFrequentWith 73 = .ok (.goto (-51), 3) := by decide +kernel
theorem dX9_countFrequentWith_76 : decode cX9_countFrequentWith 76 = .ok (.iload_n 3, 1) := by decide +kernel
theorem dX9_countFrequentWith_77 : decode cX9_countFrequentWith 77 = .ok (.ireturn, 1) := by decide +kernel
theorem dX10_init_0 : decode cX10_init 0 = .ok (.aload_n 0, 1) := by decide +kernel
theorem dX10_init_1 : decode cX10_init 1 = .ok (.invokespecial 1, 3) := by decide +kernel
theorem dX10_init_4 : decode cX10_init 4 = .ok (.aload_n 0, 1) := by decide +kernel
theorem dX10_init_5 : decode cX10_init 5 = .ok (.new 7, 3) := by decide +kernel
theorem dX10_init_8 : decode cX10_init 8 = .ok (.dup, 1) := by decide +kernel
theorem dX10_init_9 : decode cX10_init 9 = .ok (.invokespecial 9, 3) := by decide +kernel
theorem dX10_init_12 : decode cX10_init 12 = .ok (.putfield 10, 3) := by decide +kernel
theorem dX10_init_15 : decode cX10_init 15 = .ok (.aload_n 0, 1) := by decide +kernel
theorem dX10_init_16 : decode cX10_init 16 = .ok (.new 7, 3) := by decide +kernel
theorem dX10_init_19 : decode cX10_init 19 = .ok (.dup, 1) := by decide +kernel
theorem dX10_init_20 : decode cX10_init 20 = .ok (.invokespecial 9, 3) := by decide +kernel
theorem dX10_init_23 : decode cX10_init 23 = .ok (.putfield 16, 3) := by decide +kernel
theorem dX10_init_26 : decode cX10_init 26 = .ok (.aload_n 0, 1) := by decide +kernel
theorem dX10_init_27 : decode cX10_init 27 = .ok (.new 19, 3) := by decide +kernel
theorem dX10_init_30 : decode cX10_init 30 = .ok (.dup, 1) := by decide +kernel
theorem dX10_init_31 : decode cX10_init 31 = .ok (.invokespecial 21, 3) := by decide +kernel
theorem dX10_init_34 : decode cX10_init 34 = .ok (.putfield 22, 3) := by decide +kernel
theorem dX10_init_37 : decode cX10_init 37 = .ok (.aload_n 0, 1) := by decide +kernel
theorem dX10_init_38 : decode cX10_init 38 = .ok (.new 26, 3) := by decide +kernel
theorem dX10_init_41 : decode cX10_init 41 = .ok (.dup, 1) := by decide +kernel
theorem dX10_init_42 : decode cX10_init 42 = .ok (.sipush 300, 3) := by decide +kernel
theorem dX10_init_45 : decode cX10_init 45 = .ok (.invokespecial 28, 3) := by decide +kernel
theorem dX10_init_48 : decode cX10_init 48 = .ok (.putfield 31, 3) := by decide +kernel
theorem dX10_init_51 : decode cX10_init 51 = .ok (.aload_n 0, 1) := by decide +kernel
theorem dX10_init_52 : decode cX10_init 52 = .ok (.new 35, 3) := by decide +kernel
theorem dX10_init_55 : decode cX10_init 55 = .ok (.dup, 1) := by decide +kernel
theorem dX10_init_56 : decode cX10_init 56 = .ok (.aload_n 0, 1) := by decide +kernel
theorem dX10_init_57 : decode cX10_init 57 = .ok (.getfield 31, 3) := by decide +kernel
theorem dX10_init_60 : decode cX10_init 60 = .ok (.aload_n 0, 1) := by decide +kernel
theorem dX10_init_61 : decode cX10_init 61 = .ok (.getfield 16, 3) := by decide +kernel
theorem dX10_init_64 : decode cX10_init 64 = .ok (.invokespecial 37, 3) := by decide +kernel
theorem dX10_init_67 : decode cX10_init 67 = .ok (.putfield 40, 3) := by decide +kernel
theorem dX10_init_70 : decode cX10_init 70 = .ok (.aload_n 0, 1) := by decide +kernel
theorem dX10_init_71 : decode cX10_init 71 = .ok (.new 44, 3) := by decide +kernel
theorem dX10_init_74 : decode cX10_init 74 = .ok (.dup, 1) := by decide +kernel
theorem dX10_init_75 : decode cX10_init 75 = .ok (.invokespecial 46, 3) := by decide +kernel
theorem dX10_init_78 : decode cX10_init 78 = .ok (.putfield 47, 3) := by decide +kernel
theorem dX10_init_81 : decode cX10_init 81 = .ok (.aload_n 0, 1) := by decide +kernel
theorem dX10_init_82 : decode cX10_init 82 = .ok (.new 51, 3) := by decide +kernel
theorem dX10_init_85 : decode cX10_init 85 = .ok (.dup, 1) := by decide +kernel
theorem dX10_init_86 : decode cX10_init 86 = .ok (.invokespecial 53, 3) := by decide +kernel
theorem dX10_init_89 : decode cX10_init 89 = .ok (.putfield 54, 3) := by decide +kernel
theorem dX10_init_92 : decode cX10_init 92 = .ok (.aload_n 0, 1) := by decide +kernel
theorem dX10_init_93 : decode cX10_init 93 = .ok (.new 58, 3) := by decide +kernel
theorem dX10_init_96 : decode cX10_init 96 = .ok (.dup, 1) := by decide +kernel
theorem dX10_init_97 : decode cX10_init 97 = .ok (.aload_n 0, 1) := by decide +kernel
theorem dX10_init_98 : decode cX10_init 98 = .ok (.getfield 54, 3) := by decide +kernel
theorem dX10_init_101 : decode cX10_init 101 = .ok (.invokespecial 60, 3) := by decide +kernel
theorem dX10_init_104 : decode cX10_init 104 = .ok (.putfield 63, 3) := by decide +kernel
theorem dX10_init_107 : decode cX10_init 107 = .ok (.aload_n 0, 1) := by decide +kernel
theorem dX10_init_108 : decode cX10_init 108 = .ok (.new 67, 3) := by decide +kernel
theorem dX10_init_111 : decode cX10_init 111 = .ok (.dup, 1) := by decide +kernel
theorem dX10_init_112 : decode cX10_init 112 = .ok (.aload_n 0, 1) := by decide +kernel
theorem dX10_init_113 : decode cX10_init 113 = .ok (.getfield 54, 3) := by decide +kernel
theorem dX10_init_116 : decode cX10_init 116 = .ok (.getfield 69, 3) := by decide +kernel
theorem dX10_init_119 : decode cX10_init 119 = .ok (.invokespecial 72, 3) := by decide +kernel
theorem dX10_init_122 : decode cX10_init 122 = .ok (.putfield 75, 3) := by decide +kernel
theorem dX10_init_125 : decode cX10_init 125 = .ok (.aload_n 0, 1) := by decide +kernel
theorem dX10_init_126 : decode cX10_init 126 = .ok (.new 79, 3) := by decide +kernel
theorem dX10_init_129 : decode cX10_init 129 = .ok (.dup, 1) := by decide +kernel
theorem dX10_init_130 : decode cX10_init 130 = .ok (.aload_n 0, 1) := by decide +kernel
theorem dX10_init_131 : decode cX10_init 131 = .ok (.getfield 54, 3) := by decide +kernel
theorem dX10_init_134 : decode cX10_init 134 = .ok (.invokespecial 81, 3) := by decide +kernel
theorem dX10_init_137 : decode cX10_init 137 = .ok (.putfield 82, 3) := by decide +kernel
theorem dX10_init_140 : decode cX10_init 140 = .ok (.aload_n 0, 1) := by decide +kernel
theorem dX10_init_141 : decode cX10_init 141 = .ok (.new 86, 3) := by decide +kernel
theorem dX10_init_144 : decode cX10_init 144 = .ok (.dup, 1) := by decide +kernel
theorem dX10_init_145 : decode cX10_init 145 = .ok (.aload_n 0, 1) := by decide +kernel
theorem dX10_init_146 : decode cX10_init 146 = .ok (.getfield 54, 3) := by decide +kernel
theorem dX10_init_149 : decode cX10_init 149 = .ok (.invokespecial 88, 3) := by decide +kernel
theorem dX10_init_152 : decode cX10_init 152 = .ok (.putfield 89, 3) := by decide +kernel
theorem dX10_init_155 : decode cX10_init 155 = .ok (.aload_n 0, 1) := by decide +kernel
theorem dX10_init_156 : decode cX10_init 156 = .ok (.bipush 7, 2) := by decide +kernel
theorem dX10_init_158 : decode cX10_init 158 = .ok (.newarray .int, 2) := by decide +kernel
theorem dX10_init_160 : decode cX10_init 160 = .ok (.putfield 93, 3) := by decide +kernel
theorem dX10_init_163 : decode cX10_init 163 = .ok (.aload_n 0, 1) := by decide +kernel
theorem dX10_init_164 : decode cX10_init 164 = .ok (.invokevirtual 97, 3) := by decide +kernel
theorem dX10_init_167 : decode cX10_init 167 = .ok (.return_, 1) := by decide +kernel
theorem dX10_feed_0 : decode cX10_feed 0 = .ok (.aload_n 0, 1) := by decide +kernel
theorem dX10_feed_1 : decode cX10_feed 1 = .ok (.getfield 31, 3) := by decide +kernel
theorem dX10_feed_4 : decode cX10_feed 4 = .ok (.getfield 100, 3) := by decide +kernel
theorem dX10_feed_7 : decode cX10_feed 7 = .ok (.bipush 20, 2) := by decide +kernel
theorem dX10_feed_9 : decode cX10_feed 9 = .ok (.iadd, 1) := by decide +kernel
theorem dX10_feed_10 : decode cX10_feed 10 = .ok (.sipush 300, 3) := by decide +kernel
theorem dX10_feed_13 : decode cX10_feed 13 = .ok (.if_icmp .le 5, 3) := by decide +kernel
theorem dX10_feed_16 : decode cX10_feed 16 = .ok (.iconst (-1), 1) := by decide +kernel
theorem dX10_feed_17 : decode cX10_feed 17 = .ok (.ireturn, 1) := by decide +kernel
theorem dX10_feed_18 : decode cX10_feed 18 = .ok (.aload_n 0, 1) := by decide +kernel
theorem dX10_feed_19 : decode cX10_feed 19 = .ok (.getfield 31, 3) := by decide +kernel
theorem dX10_feed_22 : decode cX10_feed 22 = .ok (.iload_n 1, 1) := by decide +kernel
theorem dX10_feed_23 : decode cX10_feed 23 = .ok (.invokevirtual 104, 3) := by decide +kernel
theorem dX10_feed_26 : decode cX10_feed 26 = .ok (.aload_n 0, 1) := by decide +kernel
theorem dX10_feed_27 : decode cX10_feed 27 = .ok (.getfield 31, 3) := by decide +kernel
theorem dX10_feed_30 : decode cX10_feed 30 = .ok (.iload_n 2, 1) := by decide +kernel
theorem dX10_feed_31 : decode cX10_feed 31 = .ok (.invokevirtual 104, 3) := by decide +kernel
theorem dX10_feed_34 : decode cX10_feed 34 = .ok (.aload_n 0, 1) := by decide +kernel
theorem dX10_feed_35 : decode cX10_feed 35 = .ok (.getfield 31, 3) := by decide +kernel
theorem dX10_feed_38 : decode cX10_feed 38 = .ok (.iload_n 3, 1) := by decide +kernel
theorem dX10_feed_39 : decode cX10_feed 39 = .ok (.invokevirtual 104, 3) := by decide +kernel
theorem dX10_feed_42 : decode cX10_feed 42 = .ok (.aload_n 0, 1) := by decide +kernel
theorem dX10_feed_43 : decode cX10_feed 43 = .ok (.getfield 31, 3) := by decide +kernel
theorem dX10_feed_46 : decode cX10_feed 46 = .ok (.iload 4, 2) := by decide +kernel
theorem dX10_feed_48 : decode cX10_feed 48 = .ok (.invokevirtual 104, 3) := by decide +kernel
theorem dX10_feed_51 : decode cX10_feed 51 = .ok (.aload_n 0, 1) := by decide +kernel
theorem dX10_feed_52 : decode cX10_feed 52 = .ok (.getfield 31, 3) := by decide +kernel
theorem dX10_feed_55 : decode cX10_feed 55 = .ok (.iload 5, 2) := by decide +kernel
theorem dX10_feed_57 : decode cX10_feed 57 = .ok (.invokevirtual 104, 3) := by decide +kernel
theorem dX10_feed_60 : decode cX10_feed 60 = .ok (.aload_n 0, 1) := by decide +kernel
theorem dX10_feed_61 : decode cX10_feed 61 = .ok (.getfield 31, 3) := by decide +kernel
theorem dX10_feed_64 : decode cX10_feed 64 = .ok (.getfield 100, 3) := by decide +kernel
theorem dX10_feed_67 : decode cX10_feed 67 = .ok (.ireturn, 1) := by decide +kernel
theorem dX10_back_0 : decode cX10_back 0 = .ok (.iload_n 1, 1) := by decide +kernel
theorem dX10_back_1 : decode cX10_back 1 = .ok (.ifCond .lt 14, 3) := by decide +kernel
theorem dX10_back_4 : decode cX10_back 4 = .ok (.iload_n 1, 1) := by decide +kernel
theorem dX10_back_5 : decode cX10_back 5 = .ok (.aload_n 0, 1) := by decide +kernel
theorem dX10_back_6 : decode cX10_back 6 = .ok (.getfield 31, 3) := by decide +kernel
theorem dX10_back_9 : decode cX10_back 9 = .ok (.getfield 100, 3) := by decide +kernel
theorem dX10_back_12 : decode cX10_back 12 = .ok (.if_icmp .le 5, 3) := by decide +kernel
theorem dX10_back_15 : decode cX10_back 15 = .ok (.iconst (-1), 1) := by decide +kernel
theorem dX10_back_16 : decode cX10_back 16 = .ok (.ireturn, 1) := by decide +kernel
theorem dX10_back_17 : decode cX10_back 17 = .ok (.aload_n 0, 1) := by decide +kernel
theorem dX10_back_18 : decode cX10_back 18 = .ok (.getfield 31, 3) := by decide +kernel
theorem dX10_back_21 : decode cX10_back 21 = .ok (.dup, 1) := by decide +kernel
theorem dX10_back_22 : decode cX10_back 22 = .ok (.getfield 100, 3) := by decide +kernel
theorem dX10_back_25 : decode cX10_back 25 = .ok (.iload_n 1, 1) := by decide +kernel
theorem dX10_back_26 : decode cX10_back 26 = .ok (.isub, 1) := by decide +kernel
theorem dX10_back_27 : decode cX10_back 27 = .ok (.putfield 100, 3) := by decide +kernel
theorem dX10_back_30 : decode cX10_back 30 = .ok (.aload_n 0, 1) := by decide +kernel
theorem dX10_back_31 : decode cX10_back 31 = .ok (.getfield 31, 3) := by decide +kernel
theorem dX10_back_34 : decode cX10_back 34 = .ok (.getfield 100, 3) := by decide +kernel
theorem dX10_back_37 : decode cX10_back 37 = .ok (.ireturn, 1) := by decide +kernel
theorem dX10_text_0 : decode cX10_text 0 = .ok (.aload_n 0, 1) := by decide +kernel
theorem dX10_text_1 : decode cX10_text 1 = .ok (.getfield 40, 3) := by decide +kernel
theorem dX10_text_4 : decode cX10_text 4 = .ok (.invokevirtual 107, 3) := by decide +kernel
theorem dX10_text_7 : decode cX10_text 7 = .ok (.istore_n 1, 1) := by decide +kernel
theorem dX10_text_8 : decode cX10_text 8 = .ok (.aload_n 0, 1) := by decide +kernel
theorem dX10_text_9 : decode cX10_text 9 = .ok (.getfield 31, 3) := by decide +kernel
theorem dX10_text_12 : decode cX10_text 12 = .ok (.invokevirtual 111, 3) := by decide +kernel
theorem dX10_text_15 : decode cX10_text 15 = .ok (.iload_n 1, 1) := by decide +kernel
theorem dX10_text_16 : decode cX10_text 16 = .ok (.iconst (-1), 1) := by decide +kernel
theorem dX10_text_17 : decode cX10_text 17 = .ok (.if_icmp .eq 8, 3) := by decide +kernel
theorem dX10_text_20 : decode cX10_text 20 = .ok (.bipush (-4), 2) := by decide +kernel
theorem dX10_text_22 : decode cX10_text 22 = .ok (.iload_n 1, 1) := by decide +kernel
theorem dX10_text_23 : decode cX10_text 23 = .ok (.isub, 1) := by decide +kernel
theorem dX10_text_24 : decode cX10_text 24 = .ok (.ireturn, 1) := by decide +kernel
theorem dX10_text_25 : decode cX10_text 25 = .ok (.aload_n 0, 1) := by decide +kernel
theorem dX10_text_26 : decode cX10_text 26 = .ok (.getfield 16, 3) := by decide +kernel
theorem dX10_text_29 : decode cX10_text 29 = .ok (.aload_n 0, 1) := by decide +kernel
theorem dX10_text_30 : decode cX10_text 30 = .ok (.getfield 10, 3) := by decide +kernel
theorem dX10_text_33 : decode cX10_text 33 = .ok (.getfield 114, 3) := by decide +kernel
theorem dX10_text_36 : decode cX10_text 36 = .ok (.invokevirtual 117, 3) := by decide +kernel
theorem dX10_text_39 : decode cX10_text 39 = .ok (.aload_n 0, 1) := by decide +kernel
theorem dX10_text_40 : decode cX10_text 40 = .ok (.getfield 10, 3) := by decide +kernel
theorem dX10_text_43 : decode cX10_text 43 = .ok (.aload_n 0, 1) := by decide +kernel
theorem dX10_text_44 : decode cX10_text 44 = .ok (.getfield 16, 3) := by decide +kernel
theorem dX10_text_47 : decode cX10_text 47 = .ok (.invokevirtual 120, 3) := by decide +kernel
theorem dX10_text_50 : decode cX10_text 50 = .ok (.aload_n 0, 1) := by decide +kernel
theorem dX10_text_51 : decode cX10_text 51 = .ok (.getfield 22, 3) := by decide +kernel
theorem dX10_text_54 : decode cX10_text 54 = .ok (.invokevirtual 124, 3) := by decide +kernel
theorem dX10_text_57 : decode cX10_text 57 = .ok (.aload_n 0, 1) := by decide +kernel
theorem dX10_text_58 : decode cX10_text 58 = .ok (.invokevirtual 97, 3) := by decide +kernel
theorem dX10_text_61 : decode cX10_text 61 = .ok (.aload_n 0, 1) := by decide +kernel
theorem dX10_text_62 : decode cX10_text 62 = .ok (.getfield 10, 3) := by decide +kernel
theorem dX10_text_65 : decode cX10_text 65 = .ok (.getfield 125, 3) := by decide +kernel
theorem dX10_text_68 : decode cX10_text 68 = .ok (.getfield 100, 3) := by decide +kernel
theorem dX10_text_71 : decode cX10_text 71 = .ok (.ireturn, 1) := by decide +kernel
theorem dX10_generate_0 : decode cX10_generate 0 = .ok (.aload_n 0, 1) := by decide +kernel
theorem dX10_generate_1 : decode cX10_generate 1 = .ok (.iload_n 1, 1) := by decide +kernel
theorem dX10_generate_2 : decode cX10_generate 2 = .ok (.invokevirtual 128, 3) := by decide +kernel
theorem dX10_generate_5 : decode cX10_generate 5 = .ok (.ifCond .eq 33, 3) := by decide +kernel
theorem dX10_generate_8 : decode cX10_generate 8 = .ok (.aload_n 0, 1) := by decide +kernel
theorem dX10_generate_9 : decode cX10_generate 9 = .ok (.getfield 10, 3) := by decide +kernel
theorem dX10_generate_12 : decode cX10_generate 12 = .ok (.getfield 125, 3) := by decide +kernel
theorem dX10_generate_15 : decode cX10_generate 15 = .ok (.iload_n 1, 1) := by decide +kernel
theorem dX10_generate_16 : decode cX10_generate 16 = .ok (.invokevirtual 132, 3) := by decide +kernel
theorem dX10_generate_19 : decode cX10_generate 19 = .ok (.iconst (-1), 1) := by decide +kernel
theorem dX10_generate_20 : decode cX10_generate 20 = .ok (.if_icmp .ne 18, 3) := by decide +kernel
theorem dX10_generate_23 : decode cX10_generate 23 = .ok (.aload_n 0, 1) := by decide +kernel
theorem dX10_generate_24 : decode cX10_generate 24 = .ok (.getfield 10, 3) := by decide +kernel
theorem dX10_generate_27 : decode cX10_generate 27 = .ok (.getfield 125, 3) := by decide +kernel
theorem dX10_generate_30 : decode cX10_generate 30 = .ok (.getfield 100, 3) := by decide +kernel
theorem dX10_generate_33 : decode cX10_generate 33 = .ok (.bipush 12, 2) := by decide +kernel
theorem dX10_generate_35 : decode cX10_generate 35 = .ok (.if_icmp .lt 5, 3) := by decide +kernel
theorem dX10_generate_38 : decode cX10_generate 38 = .ok (.iconst (-1), 1) := by decide +kernel
theorem dX10_generate_39 : decode cX10_generate 39 = .ok (.ireturn, 1) := by decide +kernel
theorem dX10_generate_40 : decode cX10_generate 40 = .ok (.aload_n 0, 1) := by decide +kernel
theorem dX10_generate_41 : decode cX10_generate 41 = .ok (.getfield 16, 3) := by decide +kernel
theorem dX10_generate_44 : decode cX10_generate 44 = .ok (.aload_n 0, 1) := by decide +kernel
theorem dX10_generate_45 : decode cX10_generate 45 = .ok (.getfield 10, 3) := by decide +kernel
theorem dX10_generate_48 : decode cX10_generate 48 = .ok (.invokevirtual 120, 3) := by decide +kernel
theorem dX10_generate_51 : decode cX10_generate 51 = .ok (.aload_n 0, 1) := by decide +kernel
theorem dX10_generate_52 : decode cX10_generate 52 = .ok (.getfield 16, 3) := by decide +kernel
theorem dX10_generate_55 : decode cX10_generate 55 = .ok (.getfield 125, 3) := by decide +kernel
theorem dX10_generate_58 : decode cX10_generate 58 = .ok (.iload_n 1, 1) := by decide +kernel
theorem dX10_generate_59 : decode cX10_generate 59 = .ok (.invokevirtual 136, 3) := by decide +kernel
theorem dX10_generate_62 : decode cX10_generate 62 = .ok (.aload_n 0, 1) := by decide +kernel
theorem dX10_generate_63 : decode cX10_generate 63 = .ok (.invokevirtual 139, 3) := by decide +kernel
theorem dX10_generate_66 : decode cX10_generate 66 = .ok (.aload_n 0, 1) := by decide +kernel
theorem dX10_generate_67 : decode cX10_generate 67 = .ok (.getfield 10, 3) := by decide +kernel
theorem dX10_generate_70 : decode cX10_generate 70 = .ok (.getfield 125, 3) := by decide +kernel
theorem dX10_generate_73 : decode cX10_generate 73 = .ok (.getfield 100, 3) := by decide +kernel
theorem dX10_generate_76 : decode cX10_generate 76 = .ok (.iconst 1, 1) := by decide +kernel
theorem dX10_generate_77 : decode cX10_generate 77 = .ok (.isub, 1) := by decide +kernel
theorem dX10_generate_78 : decode cX10_generate 78 = .ok (.ireturn, 1) := by decide +kernel
theorem dX10_drop_0 : decode cX10_drop 0 = .ok (.aload_n 0, 1) := by decide +kernel
theorem dX10_drop_1 : decode cX10_drop 1 = .ok (.iload_n 1, 1) := by decide +kernel
theorem dX10_drop_2 : decode cX10_drop 2 = .ok (.invokevirtual 142, 3) := by decide +kernel
theorem dX10_drop_5 : decode cX10_drop 5 = .ok (.ifCond .ne 5, 3) := by decide +kernel
theorem dX10_drop_8 : decode cX10_drop 8 = .ok (.iconst 0, 1) := by decide +kernel
theorem dX10_drop_9 : decode cX10_drop 9 = .ok (.ireturn, 1) := by decide +kernel
theorem dX10_drop_10 : decode cX10_drop 10 = .ok (.aload_n 0, 1) := by decide +kernel
theorem dX10_drop_11 : decode cX10_drop 11 = .ok (.getfield 16, 3) := by decide +kernel
theorem dX10_drop_14 : decode cX10_drop 14 = .ok (.aload_n 0, 1) := by decide +kernel
theorem dX10_drop_15 : decode cX10_drop 15 = .ok (.getfield 10, 3) := by decide +kernel
theorem dX10_drop_18 : decode cX10_drop 18 = .ok (.invokevirtual 120, 3) := by decide +kernel
theorem dX10_drop_21 : decode cX10_drop 21 = .ok (.aload_n 0, 1) := by decide +kernel
theorem dX10_drop_22 : decode cX10_drop 22 = .ok (.getfield 16, 3) := by decide +kernel
theorem dX10_drop_25 : decode cX10_drop 25 = .ok (.getfield 125, 3) := by decide +kernel
theorem dX10_drop_28 : decode cX10_drop 28 = .ok (.iload_n 1, 1) := by decide +kernel
theorem dX10_drop_29 : decode cX10_drop 29 = .ok (.invokevirtual 145, 3) := by decide +kernel
theorem dX10_drop_32 : decode cX10_drop 32 = .ok (.aload_n 0, 1) := by decide +kernel
theorem dX10_drop_33 : decode cX10_drop 33 = .ok (.invokevirtual 139, 3) := by decide +kernel
theorem dX10_drop_36 : decode cX10_drop 36 = .ok (.iconst 1, 1) := by decide +kernel
theorem dX10_drop_37 : decode cX10_drop 37 = .ok (.ireturn, 1) := by decide +kernel
theorem dX10_change_0 : decode cX10_change 0 = .ok (.aload_n 0, 1) := by decide +kernel
theorem dX10_change_1 : decode cX10_change 1 = .ok (.iload_n 1, 1) := by decide +kernel
theorem dX10_change_2 : decode cX10_change 2 = .ok (.invokevirtual 142, 3) := by decide +kernel
theorem dX10_change_5 : decode cX10_change 5 = .ok (.ifCond .eq 26, 3) := by decide +kernel
theorem dX10_change_8 : decode cX10_change 8 = .ok (.aload_n 0, 1) := by decide +kernel
theorem dX10_change_9 : decode cX10_change 9 = .ok (.iload_n 2, 1) := by decide +kernel
theorem dX10_change_10 : decode cX10_change 10 = .ok (.invokevirtual 128, 3) := by decide +kernel
theorem dX10_change_13 : decode cX10_change 13 = .ok (.ifCond .eq 18, 3) := by decide +kernel
theorem dX10_change_16 : decode cX10_change 16 = .ok (.aload_n 0, 1) := by decide +kernel
theorem dX10_change_17 : decode cX10_change 17 = .ok (.getfield 10, 3) := by decide +kernel
theorem dX10_change_20 : decode cX10_change 20 = .ok (.getfield 125, 3) := by decide +kernel
theorem dX10_change_23 : decode cX10_change 23 = .ok (.iload_n 2, 1) := by decide +kernel
theorem dX10_change_24 : decode cX10_change 24 = .ok (.invokevirtual 132, 3) := by decide +kernel
theorem dX10_change_27 : decode cX10_change 27 = .ok (.iconst (-1), 1) := by decide +kernel
theorem dX10_change_28 : decode cX10_change 28 = .ok (.if_icmp .eq 5, 3) := by decide +kernel
theorem dX10_change_31 : decode cX10_change 31 = .ok (.iconst (-1), 1) := by decide +kernel
theorem dX10_change_32 : decode cX10_change 32 = .ok (.ireturn, 1) := by decide +kernel
theorem dX10_change_33 : decode cX10_change 33 = .ok (.aload_n 0, 1) := by decide +kernel
theorem dX10_change_34 : decode cX10_change 34 = .ok (.getfield 10, 3) := by decide +kernel
theorem dX10_change_37 : decode cX10_change 37 = .ok (.getfield 125, 3) := by decide +kernel
theorem dX10_change_40 : decode cX10_change 40 = .ok (.iload_n 1, 1) := by decide +kernel
theorem dX10_change_41 : decode cX10_change 41 = .ok (.invokevirtual 148, 3) := by decide +kernel
theorem dX10_change_44 : decode cX10_change 44 = .ok (.istore_n 3, 1) := by decide +kernel
theorem dX10_change_45 : decode cX10_change 45 = .ok (.aload_n 0, 1) := by decide +kernel
theorem dX10_change_46 : decode cX10_change 46 = .ok (.getfield 16, 3) := by decide +kernel
theorem dX10_change_49 : decode cX10_change 49 = .ok (.aload_n 0, 1) := by decide +kernel
theorem dX10_change_50 : decode cX10_change 50 = .ok (.getfield 10, 3) := by decide +kernel
theorem dX10_change_53 : decode cX10_change 53 = .ok (.invokevirtual 120, 3) := by decide +kernel
theorem dX10_change_56 : decode cX10_change 56 = .ok (.aload_n 0, 1) := by decide +kernel
theorem dX10_change_57 : decode cX10_change 57 = .ok (.getfield 16, 3) := by decide +kernel
theorem dX10_change_60 : decode cX10_change 60 = .ok (.getfield 125, 3) := by decide +kernel
theorem dX10_change_63 : decode cX10_change 63 = .ok (.iload_n 1, 1) := by decide +kernel
theorem dX10_change_64 : decode cX10_change 64 = .ok (.iload_n 2, 1) := by decide +kernel
theorem dX10_change_65 : decode cX10_change 65 = .ok (.invokevirtual 151, 3) := by decide +kernel
theorem dX10_change_68 : decode cX10_change 68 = .ok (.aload_n 0, 1) := by decide +kernel
theorem dX10_change_69 : decode cX10_change 69 = .ok (.invokevirtual 139, 3) := by decide +kernel
theorem dX10_change_72 : decode cX10_change 72 = .ok (.iload_n 3, 1) := by decide +kernel
theorem dX10_change_73 : decode cX10_change 73 = .ok (.ireturn, 1) := by decide +kernel
theorem dX10_weigh_0 : decode cX10_weigh 0 = .ok (.aload_n 0, 1) := by decide +kernel
theorem dX10_weigh_1 : decode cX10_weigh 1 = .ok (.iload_n 1, 1) := by decide +kernel
theorem dX10_weigh_2 : decode cX10_weigh 2 = .ok (.invokevirtual 155, 3) := by decide +kernel
theorem dX10_weigh_5 : decode cX10_weigh 5 = .ok (.ifCond .eq 13, 3) := by decide +kernel
theorem dX10_weigh_8 : decode cX10_weigh 8 = .ok (.iload_n 2, 1) := by decide +kernel
theorem dX10_weigh_9 : decode cX10_weigh 9 = .ok (.ifCond .lt 9, 3) := by decide +kernel
theorem dX10_weigh_12 : decode cX10_weigh 12 = .ok (.iload_n 2, 1) := by decide +kernel
theorem dX10_weigh_13 : decode cX10_weigh 13 = .ok (.bipush 9, 2) := by decide +kernel
theorem dX10_weigh_15 : decode cX10_weigh 15 = .ok (.if_icmp .le 5, 3) := by decide +kernel
theorem dX10_weigh_18 : decode cX10_weigh 18 = .ok (.iconst (-1), 1) := by decide +kernel
theorem dX10_weigh_19 : decode cX10_weigh 19 = .ok (.ireturn, 1) := by decide +kernel
theorem dX10_weigh_20 : decode cX10_weigh 20 = .ok (.aload_n 0, 1) := by decide +kernel
theorem dX10_weigh_21 : decode cX10_weigh 21 = .ok (.getfield 10, 3) := by decide +kernel
theorem dX10_weigh_24 : decode cX10_weigh 24 = .ok (.iload_n 1, 1) := by decide +kernel
theorem dX10_weigh_25 : decode cX10_weigh 25 = .ok (.invokevirtual 158, 3) := by decide +kernel
theorem dX10_weigh_28 : decode cX10_weigh 28 = .ok (.istore_n 3, 1) := by decide +kernel
theorem dX10_weigh_29 : decode cX10_weigh 29 = .ok (.iload_n 3, 1) := by decide +kernel
theorem dX10_weigh_30 : decode cX10_weigh 30 = .ok (.iload_n 2, 1) := by decide +kernel
theorem dX10_weigh_31 : decode cX10_weigh 31 = .ok (.if_icmp .ne 5, 3) := by decide +kernel
theorem dX10_weigh_34 : decode cX10_weigh 34 = .ok (.iconst (-1), 1) := by decide +kernel
theorem dX10_weigh_35 : decode cX10_weigh 35 = .ok (.ireturn, 1) := by decide +kernel
theorem dX10_weigh_36 : decode cX10_weigh 36 = .ok (.aload_n 0, 1) := by decide +kernel
theorem dX10_weigh_37 : decode cX10_weigh 37 = .ok (.getfield 16, 3) := by decide +kernel
theorem dX10_weigh_40 : decode cX10_weigh 40 = .ok (.aload_n 0, 1) := by decide +kernel
theorem dX10_weigh_41 : decode cX10_weigh 41 = .ok (.getfield 10, 3) := by decide +kernel
theorem dX10_weigh_44 : decode cX10_weigh 44 = .ok (.invokevirtual 120, 3) := by decide +kernel
theorem dX10_weigh_47 : decode cX10_weigh 47 = .ok (.aload_n 0, 1) := by decide +kernel
theorem dX10_weigh_48 : decode cX10_weigh 48 = .ok (.getfield 16, 3) := by decide +kernel
theorem dX10_weigh_51 : decode cX10_weigh 51 = .ok (.iload_n 1, 1) := by decide +kernel
theorem dX10_weigh_52 : decode cX10_weigh 52 = .ok (.iload_n 2, 1) := by decide +kernel
theorem dX10_weigh_53 : decode cX10_weigh 53 = .ok (.invokevirtual 161, 3) := by decide +kernel
theorem dX10_weigh_56 : decode cX10_weigh 56 = .ok (.aload_n 0, 1) := by decide +kernel
theorem dX10_weigh_57 : decode cX10_weigh 57 = .ok (.invokevirtual 139, 3) := by decide +kernel
theorem dX10_weigh_60 : decode cX10_weigh 60 = .ok (.iload_n 3, 1) := by decide +kernel
theorem dX10_weigh_61 : decode cX10_weigh 61 = .ok (.ireturn, 1) := by decide +kernel
theorem dX10_swap_0 : decode cX10_swap 0 = .ok (.aload_n 0, 1) := by decide +kernel
theorem dX10_swap_1 : decode cX10_swap 1 = .ok (.iload_n 1, 1) := by decide +kernel
theorem dX10_swap_2 : decode cX10_swap 2 = .ok (.invokevirtual 155, 3) := by decide +kernel
theorem dX10_swap_5 : decode cX10_swap 5 = .ok (.ifCond .eq 16, 3) := by decide +kernel
theorem dX10_swap_8 : decode cX10_swap 8 = .ok (.aload_n 0, 1) := by decide +kernel
theorem dX10_swap_9 : decode cX10_swap 9 = .ok (.iload_n 2, 1) := by decide +kernel
theorem dX10_swap_10 : decode cX10_swap 10 = .ok (.invokevirtual 155, 3) := by decide +kernel
theorem dX10_swap_13 : decode cX10_swap 13 = .ok (.ifCond .eq 8, 3) := by decide +kernel
theorem dX10_swap_16 : decode cX10_swap 16 = .ok (.iload_n 1, 1) := by decide +kernel
theorem dX10_swap_17 : decode cX10_swap 17 = .ok (.iload_n 2, 1) := by decide +kernel
theorem dX10_swap_18 : decode cX10_swap 18 = .ok (.if_icmp .ne 5, 3) := by decide +kernel
theorem dX10_swap_21 : decode cX10_swap 21 = .ok (.iconst (-1), 1) := by decide +kernel
theorem dX10_swap_22 : decode cX10_swap 22 = .ok (.ireturn, 1) := by decide +kernel
theorem dX10_swap_23 : decode cX10_swap 23 = .ok (.aload_n 0, 1) := by decide +kernel
theorem dX10_swap_24 : decode cX10_swap 24 = .ok (.getfield 16, 3) := by decide +kernel
theorem dX10_swap_27 : decode cX10_swap 27 = .ok (.aload_n 0, 1) := by decide +kernel
theorem dX10_swap_28 : decode cX10_swap 28 = .ok (.getfield 10, 3) := by decide +kernel
theorem dX10_swap_31 : decode cX10_swap 31 = .ok (.invokevirtual 120, 3) := by decide +kernel
theorem dX10_swap_34 : decode cX10_swap 34 = .ok (.iconst 0, 1) := by decide +kernel
theorem dX10_swap_35 : decode cX10_swap 35 = .ok (.istore_n 3, 1) := by decide +kernel
theorem dX10_swap_36 : decode cX10_swap 36 = .ok (.iconst 0, 1) := by decide +kernel
theorem dX10_swap_37 : decode cX10_swap 37 = .ok (.istore 4, 2) := by decide +kernel
theorem dX10_swap_39 : decode cX10_swap 39 = .ok (.iload 4, 2) := by decide +kernel
theorem dX10_swap_41 : decode cX10_swap 41 = .ok (.aload_n 0, 1) := by decide +kernel
theorem dX10_swap_42 : decode cX10_swap 42 = .ok (.getfield 10, 3) := by decide +kernel
theorem dX10_swap_45 : decode cX10_swap 45 = .ok (.getfield 125, 3) := by decide +kernel
theorem dX10_swap_48 : decode cX10_swap 48 = .ok (.getfield 100, 3) := by decide +kernel
theorem dX10_swap_51 : decode cX10_swap 51 = .ok (.if_icmp .ge 56, 3) := by decide +kernel
theorem dX10_swap_54 : decode cX10_swap 54 = .ok (.aload_n 0, 1) := by decide +kernel
theorem dX10_swap_55 : decode cX10_swap 55 = .ok (.getfield 10, 3) := by decide +kernel
theorem dX10_swap_58 : decode cX10_swap 58 = .ok (.getfield 125, 3) := by decide +kernel
theorem dX10_swap_61 : decode cX10_swap 61 = .ok (.iload 4, 2) := by decide +kernel
theorem dX10_swap_63 : decode cX10_swap 63 = .ok (.invokevirtual 148, 3) := by decide +kernel
theorem dX10_swap_66 : decode cX10_swap 66 = .ok (.istore 5, 2) := by decide +kernel
theorem dX10_swap_68 : decode cX10_swap 68 = .ok (.iload 5, 2) := by decide +kernel
theorem dX10_swap_70 : decode cX10_swap 70 = .ok (.iload_n 1, 1) := by decide +kernel
theorem dX10_swap_71 : decode cX10_swap 71 = .ok (.iload_n 2, 1) := by decide +kernel
theorem dX10_swap_72 : decode cX10_swap 72 = .ok (.invokestatic 164, 3) := by decide +kernel
theorem dX10_swap_75 : decode cX10_swap 75 = .ok (.istore 6, 2) := by decide +kernel
theorem dX10_swap_77 : decode cX10_swap 77 = .ok (.iload 6, 2) := by decide +kernel
theorem dX10_swap_79 : decode cX10_swap 79 = .ok (.iload 5, 2) := by decide +kernel
theorem dX10_swap_81 : decode cX10_swap 81 = .ok (.if_icmp .eq 20, 3) := by decide +kernel
theorem dX10_swap_84 : decode cX10_swap 84 = .ok (.aload_n 0, 1) := by decide +kernel
theorem dX10_swap_85 : decode cX10_swap 85 = .ok (.getfield 16, 3) := by decide +kernel
theorem dX10_swap_88 : decode cX10_swap 88 = .ok (.getfield 125, 3) := by decide +kernel
theorem dX10_swap_91 : decode cX10_swap 91 = .ok (.iload 4, 2) := by decide +kernel
theorem dX10_swap_93 : decode cX10_swap 93 = .ok (.iload 6, 2) := by decide +kernel
theorem dX10_swap_95 : decode cX10_swap 95 = .ok (.invokevirtual 151, 3) := by decide +kernel
theorem dX10_swap_98 : decode cX10_swap 98 = .ok (.iinc 3 1, 3) := by decide +kernel
theorem dX10_swap_101 : decode cX10_swap 101 = .ok (.iinc 4 1, 3) := by decide +kernel
theorem dX10_swap_104 : decode cX10_swap 104 = .ok (.goto (-65), 3) := by decide +kernel
theorem dX10_swap_107 : decode cX10_swap 107 = .ok (.aload_n 0, 1) := by decide +kernel
theorem dX10_swap_108 : decode cX10_swap 108 = .ok (.iload_n 3, 1) := by decide +kernel
theorem dX10_swap_109 : decode cX10_swap 109 = .ok (.invokevirtual 168, 3) := by decide +kernel
theorem dX10_swap_112 : decode cX10_swap 112 = .ok (.ireturn, 1) := by decide +kernel
theorem dX10_turn_0 : decode cX10_turn 0 = .ok (.aload_n 0, 1) := by decide +kernel
theorem dX10_turn_1 : decode cX10_turn 1 = .ok (.getfield 16, 3) := by decide +kernel
theorem dX10_turn_4 : decode cX10_turn 4 = .ok (.aload_n 0, 1) := by decide +kernel
theorem dX10_turn_5 : decode cX10_turn 5 = .ok (.getfield 10, 3) := by decide +kernel
theorem dX10_turn_8 : decode cX10_turn 8 = .ok (.invokevirtual 120, 3) := by decide +kernel
theorem dX10_turn_11 : decode cX10_turn 11 = .ok (.iconst 0, 1) := by decide +kernel
theorem dX10_turn_12 : decode cX10_turn 12 = .ok (.istore_n 1, 1) := by decide +kernel
theorem dX10_turn_13 : decode cX10_turn 13 = .ok (.iconst 0, 1) := by decide +kernel
theorem dX10_turn_14 : decode cX10_turn 14 = .ok (.istore_n 2, 1) := by decide +kernel
theorem dX10_turn_15 : decode cX10_turn 15 = .ok (.iload_n 2, 1) := by decide +kernel
theorem dX10_turn_16 : decode cX10_turn 16 = .ok (.aload_n 0, 1) := by decide +kernel
theorem dX10_turn_17 : decode cX10_turn 17 = .ok (.getfield 10, 3) := by decide +kernel
theorem dX10_turn_20 : decode cX10_turn 20 = .ok (.getfield 125, 3) := by decide +kernel
theorem dX10_turn_23 : decode cX10_turn 23 = .ok (.getfield 100, 3) := by decide +kernel
theorem dX10_turn_26 : decode cX10_turn 26 = .ok (.if_icmp .ge 56, 3) := by decide +kernel
theorem dX10_turn_29 : decode cX10_turn 29 = .ok (.aload_n 0, 1) := by decide +kernel
theorem dX10_turn_30 : decode cX10_turn 30 = .ok (.getfield 10, 3) := by decide +kernel
theorem dX10_turn_33 : decode cX10_turn 33 = .ok (.getfield 125, 3) := by decide +kernel
theorem dX10_turn_36 : decode cX10_turn 36 = .ok (.iload_n 2, 1) := by decide +kernel
theorem dX10_turn_37 : decode cX10_turn 37 = .ok (.invokevirtual 148, 3) := by decide +kernel
theorem dX10_turn_40 : decode cX10_turn 40 = .ok (.istore_n 3, 1) := by decide +kernel
theorem dX10_turn_41 : decode cX10_turn 41 = .ok (.iload_n 3, 1) := by decide +kernel
theorem dX10_turn_42 : decode cX10_turn 42 = .ok (.aload_n 0, 1) := by decide +kernel
theorem dX10_turn_43 : decode cX10_turn 43 = .ok (.getfield 10, 3) := by decide +kernel
theorem dX10_turn_46 : decode cX10_turn 46 = .ok (.getfield 171, 3) := by decide +kernel
theorem dX10_turn_49 : decode cX10_turn 49 = .ok (.invokestatic 174, 3) := by decide +kernel
theorem dX10_turn_52 : decode cX10_turn 52 = .ok (.istore 4, 2) := by decide +kernel
theorem dX10_turn_54 : decode cX10_turn 54 = .ok (.iload 4, 2) := by decide +kernel
theorem dX10_turn_56 : decode cX10_turn 56 = .ok (.iload_n 3, 1) := by decide +kernel
theorem dX10_turn_57 : decode cX10_turn 57 = .ok (.if_icmp .eq 19, 3) := by decide +kernel
theorem dX10_turn_60 : decode cX10_turn 60 = .ok (.aload_n 0, 1) := by decide +kernel
theorem dX10_turn_61 : decode cX10_turn 61 = .ok (.getfield 16, 3) := by decide +kernel
theorem dX10_turn_64 : decode cX10_turn 64 = .ok (.getfield 125, 3) := by decide +kernel
theorem dX10_turn_67 : decode cX10_turn 67 = .ok (.iload_n 2, 1) := by decide +kernel
theorem dX10_turn_68 : decode cX10_turn 68 = .ok (.iload 4, 2) := by decide +kernel
theorem dX10_turn_70 : decode cX10_turn 70 = .ok (.invokevirtual 151, 3) := by decide +kernel
theorem dX10_turn_73 : decode cX10_turn 73 = .ok (.iinc 1 1, 3) := by decide +kernel
theorem dX10_turn_76 : decode cX10_turn 76 = .ok (.iinc 2 1, 3) := by decide +kernel
theorem dX10_turn_79 : decode cX10_turn 79 = .ok (.goto (-64), 3) := by decide +kernel
theorem dX10_turn_82 : decode cX10_turn 82 = .ok (.aload_n 0, 1) := by decide +kernel
theorem dX10_turn_83 : decode cX10_turn 83 = .ok (.iload_n 1, 1) := by decide +kernel
theorem dX10_turn_84 : decode cX10_turn 84 = .ok (.invokevirtual 168, 3) := by decide +kernel
theorem dX10_turn_87 : decode cX10_turn 87 = .ok (.ireturn, 1) := by decide +kernel
theorem dX10_without_0 : decode cX10_without 0 = .ok (.aload_n 0, 1) := by decide +kernel
theorem dX10_without_1 : decode cX10_without 1 = .ok (.iload_n 1, 1) := by decide +kernel
theorem dX10_without_2 : decode cX10_without 2 = .ok (.invokevirtual 155, 3) := by decide +kernel
theorem dX10_without_5 : decode cX10_without 5 = .ok (.ifCond .eq 11, 3) := by decide +kernel
theorem dX10_without_8 : decode cX10_without 8 = .ok (.aload_n 0, 1) := by decide +kernel
theorem dX10_without_9 : decode cX10_without 9 = .ok (.iload_n 1, 1) := by decide +kernel
theorem dX10_without_10 : decode cX10_without 10 = .ok (.invokevirtual 178, 3) := by decide +kernel
theorem dX10_without_13 : decode cX10_without 13 = .ok (.ifCond .ne 5, 3) := by decide +kernel
theorem dX10_without_16 : decode cX10_without 16 = .ok (.iconst (-1), 1) := by decide +kernel
theorem dX10_without_17 : decode cX10_without 17 = .ok (.ireturn, 1) := by decide +kernel
theorem dX10_without_18 : decode cX10_without 18 = .ok (.aload_n 0, 1) := by decide +kernel
theorem dX10_without_19 : decode cX10_without 19 = .ok (.getfield 16, 3) := by decide +kernel
theorem dX10_without_22 : decode cX10_without 22 = .ok (.aload_n 0, 1) := by decide +kernel
theorem dX10_without_23 : decode cX10_without 23 = .ok (.getfield 10, 3) := by decide +kernel
theorem dX10_without_26 : decode cX10_without 26 = .ok (.invokevirtual 120, 3) := by decide +kernel
theorem dX10_without_29 : decode cX10_without 29 = .ok (.aload_n 0, 1) := by decide +kernel
theorem dX10_without_30 : decode cX10_without 30 = .ok (.getfield 16, 3) := by decide +kernel
theorem dX10_without_33 : decode cX10_without 33 = .ok (.getfield 125, 3) := by decide +kernel
theorem dX10_without_36 : decode cX10_without 36 = .ok (.invokevirtual 111, 3) := by decide +kernel
theorem dX10_without_39 : decode cX10_without 39 = .ok (.iconst 0, 1) := by decide +kernel
theorem dX10_without_40 : decode cX10_without 40 = .ok (.istore_n 2, 1) := by decide +kernel
theorem dX10_without_41 : decode cX10_without 41 = .ok (.iload_n 2, 1) := by decide +kernel
theorem dX10_without_42 : decode cX10_without 42 = .ok (.aload_n 0, 1) := by decide +kernel
theorem dX10_without_43 : decode cX10_without 43 = .ok (.getfield 10, 3) := by decide +kernel
theorem dX10_without_46 : decode cX10_without 46 = .ok (.getfield 125, 3) := by decide +kernel
theorem dX10_without_49 : decode cX10_without 49 = .ok (.getfield 100, 3) := by decide +kernel
theorem dX10_without_52 : decode cX10_without 52 = .ok (.if_icmp .ge 57, 3) := by decide +kernel
theorem dX10_without_55 : decode cX10_without 55 = .ok (.aload_n 0, 1) := by decide +kernel
theorem dX10_without_56 : decode cX10_without 56 = .ok (.getfield 10, 3) := by decide +kernel
theorem dX10_without_59 : decode cX10_without 59 = .ok (.getfield 125, 3) := by decide +kernel
theorem dX10_without_62 : decode cX10_without 62 = .ok (.iload_n 2, 1) := by decide +kernel
theorem dX10_without_63 : decode cX10_without 63 = .ok (.invokevirtual 148, 3) := by decide +kernel
theorem dX10_without_66 : decode cX10_without 66 = .ok (.iconst 1, 1) := by decide +kernel
theorem dX10_without_67 : decode cX10_without 67 = .ok (.iload_n 1, 1) := by decide +kernel
theorem dX10_without_68 : decode cX10_without 68 = .ok (.ishl, 1) := by decide +kernel
theorem dX10_without_69 : decode cX10_without 69 = .ok (.iconst (-1), 1) := by decide +kernel
theorem dX10_without_70 : decode cX10_without 70 = .ok (.ixor, 1) := by decide +kernel
theorem dX10_without_71 : decode cX10_without 71 = .ok (.iand, 1) := by decide +kernel
theorem dX10_without_72 : decode cX10_without 72 = .ok (.istore_n 3, 1) := by decide +kernel
theorem dX10_without_73 : decode cX10_without 73 = .ok (.iload_n 3, 1) := by decide +kernel
theorem dX10_without_74 : decode cX10_without 74 = .ok (.ifCond .eq 29, 3) := by decide +kernel
theorem dX10_without_77 : decode cX10_without 77 = .ok (.aload_n 0, 1) := by decide +kernel
theorem dX10_without_78 : decode cX10_without 78 = .ok (.getfield 16, 3) := by decide +kernel
theorem dX10_without_81 : decode cX10_without 81 = .ok (.getfield 125, 3) := by decide +kernel
theorem dX10_without_84 : decode cX10_without 84 = .ok (.iload_n 3, 1) := by decide +kernel
theorem dX10_without_85 : decode cX10_without 85 = .ok (.invokevirtual 132, 3) := by decide +kernel
theorem dX10_without_88 : decode cX10_without 88 = .ok (.iconst (-1), 1) := by decide +kernel
theorem dX10_without_89 : decode cX10_without 89 = .ok (.if_icmp .ne 14, 3) := by decide +kernel
theorem dX10_without_92 : decode cX10_without 92 = .ok (.aload_n 0, 1) := by decide +kernel
theorem dX10_without_93 : decode cX10_without 93 = .ok (.getfield 16, 3) := by decide +kernel
theorem dX10_without_96 : decode cX10_without 96 = .ok (.getfield 125, 3) := by decide +kernel
theorem dX10_without_99 : decode cX10_without 99 = .ok (.iload_n 3, 1) := by decide +kernel
theorem dX10_without_100 : decode cX10_without 100 = .ok (.invokevirtual 136, 3) := by decide +kernel
theorem dX10_without_103 : decode cX10_without 103 = .ok (.iinc 2 1, 3) := by decide +kernel
theorem dX10_without_106 : decode cX10_without 106 = .ok (.goto (-65), 3) := by decide +kernel
theorem dX10_without_109 : decode cX10_without 109 = .ok (.aload_n 0, 1) := by decide +kernel
theorem dX10_without_110 : decode cX10_without 110 = .ok (.invokevirtual 139, 3) := by decide +kernel
theorem dX10_without_113 : decode cX10_without 113 = .ok (.aload_n 0, 1) := by decide +kernel
theorem dX10_without_114 : decode cX10_without 114 = .ok (.getfield 10, 3) := by decide +kernel
theorem dX10_without_117 : decode cX10_without 117 = .ok (.getfield 125, 3) := by decide +kernel
theorem dX10_without_120 : decode cX10_without 120 = .ok (.getfield 100, 3) := by decide +kernel
theorem dX10_without_123 : decode cX10_without 123 = .ok (.ireturn, 1) := by decide +kernel
theorem dX10_lean_0 : decode cX10_lean 0 = .ok (.aload_n 0, 1) := by decide +kernel
theorem dX10_lean_1 : decode cX10_lean 1 = .ok (.getfield 16, 3) := by decide +kernel
theorem dX10_lean_4 : decode cX10_lean 4 = .ok (.aload_n 0, 1) := by decide +kernel
theorem dX10_lean_5 : decode cX10_lean 5 = .ok (.getfield 10, 3) := by decide +kernel
theorem dX10_lean_8 : decode cX10_lean 8 = .ok (.invokevirtual 120, 3) := by decide +kernel
theorem dX10_lean_11 : decode cX10_lean 11 = .ok (.aload_n 0, 1) := by decide +kernel
theorem dX10_lean_12 : decode cX10_lean 12 = .ok (.getfield 16, 3) := by decide +kernel
theorem dX10_lean_15 : decode cX10_lean 15 = .ok (.getfield 125, 3) := by decide +kernel
theorem dX10_lean_18 : decode cX10_lean 18 = .ok (.invokevirtual 111, 3) := by decide +kernel
theorem dX10_lean_21 : decode cX10_lean 21 = .ok (.iconst 0, 1) := by decide +kernel
theorem dX10_lean_22 : decode cX10_lean 22 = .ok (.istore_n 1, 1) := by decide +kernel
theorem dX10_lean_23 : decode cX10_lean 23 = .ok (.iload_n 1, 1) := by decide +kernel
theorem dX10_lean_24 : decode cX10_lean 24 = .ok (.aload_n 0, 1) := by decide +kernel
theorem dX10_lean_25 : decode cX10_lean 25 = .ok (.getfield 10, 3) := by decide +kernel
theorem dX10_lean_28 : decode cX10_lean 28 = .ok (.getfield 125, 3) := by decide +kernel
theorem dX10_lean_31 : decode cX10_lean 31 = .ok (.getfield 100, 3) := by decide +kernel
theorem dX10_lean_34 : decode cX10_lean 34 = .ok (.if_icmp .ge 38, 3) := by decide +kernel
theorem dX10_lean_37 : decode cX10_lean 37 = .ok (.aload_n 0, 1) := by decide +kernel
theorem dX10_lean_38 : decode cX10_lean 38 = .ok (.iload_n 1, 1) := by decide +kernel
theorem dX10_lean_39 : decode cX10_lean 39 = .ok (.invokevirtual 181, 3) := by decide +kernel
theorem dX10_lean_42 : decode cX10_lean 42 = .ok (.ifCond .ne 24, 3) := by decide +kernel
theorem dX10_lean_45 : decode cX10_lean 45 = .ok (.aload_n 0, 1) := by decide +kernel
theorem dX10_lean_46 : decode cX10_lean 46 = .ok (.getfield 16, 3) := by decide +kernel
theorem dX10_lean_49 : decode cX10_lean 49 = .ok (.getfield 125, 3) := by decide +kernel
theorem dX10_lean_52 : decode cX10_lean 52 = .ok (.aload_n 0, 1) := by decide +kernel
theorem dX10_lean_53 : decode cX10_lean 53 = .ok (.getfield 10, 3) := by decide +kernel
theorem dX10_lean_56 : decode cX10_lean 56 = .ok (.getfield 125, 3) := by decide +kernel
theorem dX10_lean_59 : decode cX10_lean 59 = .ok (.iload_n 1, 1) := by decide +kernel
theorem dX10_lean_60 : decode cX10_lean 60 = .ok (.invokevirtual 148, 3) := by decide +kernel
theorem dX10_lean_63 : decode cX10_lean 63 = .ok (.invokevirtual 136, 3) := by decide +kernel
theorem dX10_lean_66 : decode cX10_lean 66 = .ok (.iinc 1 1, 3) := by decide +kernel
theorem dX10_lean_69 : decode cX10_lean 69 = .ok (.goto (-46), 3) := by decide +kernel
theorem dX10_lean_72 : decode cX10_lean 72 = .ok (.aload_n 0, 1) := by decide +kernel
theorem dX10_lean_73 : decode cX10_lean 73 = .ok (.aload_n 0, 1) := by decide +kernel
theorem dX10_lean_74 : decode cX10_lean 74 = .ok (.getfield 10, 3) := by decide +kernel
theorem dX10_lean_77 : decode cX10_lean 77 = .ok (.getfield 125, 3) := by decide +kernel
theorem dX10_lean_80 : decode cX10_lean 80 = .ok (.getfield 100, 3) := by decide +kernel
theorem dX10_lean_83 : decode cX10_lean 83 = .ok (.aload_n 0, 1) := by decide +kernel
theorem dX10_lean_84 : decode cX10_lean 84 = .ok (.getfield 16, 3) := by decide +kernel
theorem dX10_lean_87 : decode cX10_lean 87 = .ok (.getfield 125, 3) := by decide +kernel
theorem dX10_lean_90 : decode cX10_lean 90 = .ok (.getfield 100, 3) := by decide +kernel
theorem dX10_lean_93 : decode cX10_lean 93 = .ok (.isub, 1) := by decide +kernel
theorem dX10_lean_94 : decode cX10_lean 94 = .ok (.invokevirtual 168, 3) := by decide +kernel
