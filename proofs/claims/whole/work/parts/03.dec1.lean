theorem dX10_lean_97 : decode cX10_lean 97 = .ok (.ireturn, 1) := by decide +kernel
theorem dX10_basis_0 : decode cX10_basis 0 = .ok (.aload_n 0, 1) := by decide +kernel
theorem dX10_basis_1 : decode cX10_basis 1 = .ok (.aload_n 0, 1) := by decide +kernel
theorem dX10_basis_2 : decode cX10_basis 2 = .ok (.getfield 54, 3) := by decide +kernel
theorem dX10_basis_5 : decode cX10_basis 5 = .ok (.getfield 184, 3) := by decide +kernel
theorem dX10_basis_8 : decode cX10_basis 8 = .ok (.invokevirtual 187, 3) := by decide +kernel
theorem dX10_basis_11 : decode cX10_basis 11 = .ok (.ireturn, 1) := by decide +kernel
theorem dX10_list_0 : decode cX10_list 0 = .ok (.aload_n 0, 1) := by decide +kernel
theorem dX10_list_1 : decode cX10_list 1 = .ok (.iload_n 1, 1) := by decide +kernel
theorem dX10_list_2 : decode cX10_list 2 = .ok (.invokevirtual 128, 3) := by decide +kernel
theorem dX10_list_5 : decode cX10_list 5 = .ok (.ifCond .eq 33, 3) := by decide +kernel
theorem dX10_list_8 : decode cX10_list 8 = .ok (.aload_n 0, 1) := by decide +kernel
theorem dX10_list_9 : decode cX10_list 9 = .ok (.getfield 10, 3) := by decide +kernel
theorem dX10_list_12 : decode cX10_list 12 = .ok (.getfield 114, 3) := by decide +kernel
theorem dX10_list_15 : decode cX10_list 15 = .ok (.iload_n 1, 1) := by decide +kernel
theorem dX10_list_16 : decode cX10_list 16 = .ok (.invokevirtual 132, 3) := by decide +kernel
theorem dX10_list_19 : decode cX10_list 19 = .ok (.iconst (-1), 1) := by decide +kernel
theorem dX10_list_20 : decode cX10_list 20 = .ok (.if_icmp .ne 18, 3) := by decide +kernel
theorem dX10_list_23 : decode cX10_list 23 = .ok (.aload_n 0, 1) := by decide +kernel
theorem dX10_list_24 : decode cX10_list 24 = .ok (.getfield 10, 3) := by decide +kernel
theorem dX10_list_27 : decode cX10_list 27 = .ok (.getfield 114, 3) := by decide +kernel
theorem dX10_list_30 : decode cX10_list 30 = .ok (.getfield 100, 3) := by decide +kernel
theorem dX10_list_33 : decode cX10_list 33 = .ok (.bipush 20, 2) := by decide +kernel
theorem dX10_list_35 : decode cX10_list 35 = .ok (.if_icmp .lt 5, 3) := by decide +kernel
theorem dX10_list_38 : decode cX10_list 38 = .ok (.iconst (-1), 1) := by decide +kernel
theorem dX10_list_39 : decode cX10_list 39 = .ok (.ireturn, 1) := by decide +kernel
theorem dX10_list_40 : decode cX10_list 40 = .ok (.aload_n 0, 1) := by decide +kernel
theorem dX10_list_41 : decode cX10_list 41 = .ok (.getfield 16, 3) := by decide +kernel
theorem dX10_list_44 : decode cX10_list 44 = .ok (.aload_n 0, 1) := by decide +kernel
theorem dX10_list_45 : decode cX10_list 45 = .ok (.getfield 10, 3) := by decide +kernel
theorem dX10_list_48 : decode cX10_list 48 = .ok (.invokevirtual 120, 3) := by decide +kernel
theorem dX10_list_51 : decode cX10_list 51 = .ok (.aload_n 0, 1) := by decide +kernel
theorem dX10_list_52 : decode cX10_list 52 = .ok (.getfield 16, 3) := by decide +kernel
theorem dX10_list_55 : decode cX10_list 55 = .ok (.getfield 114, 3) := by decide +kernel
theorem dX10_list_58 : decode cX10_list 58 = .ok (.iload_n 1, 1) := by decide +kernel
theorem dX10_list_59 : decode cX10_list 59 = .ok (.invokevirtual 136, 3) := by decide +kernel
theorem dX10_list_62 : decode cX10_list 62 = .ok (.aload_n 0, 1) := by decide +kernel
theorem dX10_list_63 : decode cX10_list 63 = .ok (.invokevirtual 139, 3) := by decide +kernel
theorem dX10_list_66 : decode cX10_list 66 = .ok (.aload_n 0, 1) := by decide +kernel
theorem dX10_list_67 : decode cX10_list 67 = .ok (.getfield 10, 3) := by decide +kernel
theorem dX10_list_70 : decode cX10_list 70 = .ok (.getfield 114, 3) := by decide +kernel
theorem dX10_list_73 : decode cX10_list 73 = .ok (.getfield 100, 3) := by decide +kernel
theorem dX10_list_76 : decode cX10_list 76 = .ok (.ireturn, 1) := by decide +kernel
theorem dX10_strike_0 : decode cX10_strike 0 = .ok (.iload_n 1, 1) := by decide +kernel
theorem dX10_strike_1 : decode cX10_strike 1 = .ok (.ifCond .lt 17, 3) := by decide +kernel
theorem dX10_strike_4 : decode cX10_strike 4 = .ok (.iload_n 1, 1) := by decide +kernel
theorem dX10_strike_5 : decode cX10_strike 5 = .ok (.aload_n 0, 1) := by decide +kernel
theorem dX10_strike_6 : decode cX10_strike 6 = .ok (.getfield 10, 3) := by decide +kernel
theorem dX10_strike_9 : decode cX10_strike 9 = .ok (.getfield 114, 3) := by decide +kernel
theorem dX10_strike_12 : decode cX10_strike 12 = .ok (.getfield 100, 3) := by decide +kernel
theorem dX10_strike_15 : decode cX10_strike 15 = .ok (.if_icmp .lt 5, 3) := by decide +kernel
theorem dX10_strike_18 : decode cX10_strike 18 = .ok (.iconst (-1), 1) := by decide +kernel
theorem dX10_strike_19 : decode cX10_strike 19 = .ok (.ireturn, 1) := by decide +kernel
theorem dX10_strike_20 : decode cX10_strike 20 = .ok (.aload_n 0, 1) := by decide +kernel
theorem dX10_strike_21 : decode cX10_strike 21 = .ok (.getfield 16, 3) := by decide +kernel
theorem dX10_strike_24 : decode cX10_strike 24 = .ok (.aload_n 0, 1) := by decide +kernel
theorem dX10_strike_25 : decode cX10_strike 25 = .ok (.getfield 10, 3) := by decide +kernel
theorem dX10_strike_28 : decode cX10_strike 28 = .ok (.invokevirtual 120, 3) := by decide +kernel
theorem dX10_strike_31 : decode cX10_strike 31 = .ok (.aload_n 0, 1) := by decide +kernel
theorem dX10_strike_32 : decode cX10_strike 32 = .ok (.getfield 16, 3) := by decide +kernel
theorem dX10_strike_35 : decode cX10_strike 35 = .ok (.getfield 114, 3) := by decide +kernel
theorem dX10_strike_38 : decode cX10_strike 38 = .ok (.iload_n 1, 1) := by decide +kernel
theorem dX10_strike_39 : decode cX10_strike 39 = .ok (.invokevirtual 145, 3) := by decide +kernel
theorem dX10_strike_42 : decode cX10_strike 42 = .ok (.aload_n 0, 1) := by decide +kernel
theorem dX10_strike_43 : decode cX10_strike 43 = .ok (.invokevirtual 139, 3) := by decide +kernel
theorem dX10_strike_46 : decode cX10_strike 46 = .ok (.aload_n 0, 1) := by decide +kernel
theorem dX10_strike_47 : decode cX10_strike 47 = .ok (.getfield 10, 3) := by decide +kernel
theorem dX10_strike_50 : decode cX10_strike 50 = .ok (.getfield 114, 3) := by decide +kernel
theorem dX10_strike_53 : decode cX10_strike 53 = .ok (.getfield 100, 3) := by decide +kernel
theorem dX10_strike_56 : decode cX10_strike 56 = .ok (.ireturn, 1) := by decide +kernel
theorem dX10_adopt_0 : decode cX10_adopt 0 = .ok (.aload_n 0, 1) := by decide +kernel
theorem dX10_adopt_1 : decode cX10_adopt 1 = .ok (.getfield 10, 3) := by decide +kernel
theorem dX10_adopt_4 : decode cX10_adopt 4 = .ok (.getfield 114, 3) := by decide +kernel
theorem dX10_adopt_7 : decode cX10_adopt 7 = .ok (.getfield 100, 3) := by decide +kernel
theorem dX10_adopt_10 : decode cX10_adopt 10 = .ok (.ifCond .ne 5, 3) := by decide +kernel
theorem dX10_adopt_13 : decode cX10_adopt 13 = .ok (.iconst (-1), 1) := by decide +kernel
theorem dX10_adopt_14 : decode cX10_adopt 14 = .ok (.ireturn, 1) := by decide +kernel
theorem dX10_adopt_15 : decode cX10_adopt 15 = .ok (.aload_n 0, 1) := by decide +kernel
theorem dX10_adopt_16 : decode cX10_adopt 16 = .ok (.aload_n 0, 1) := by decide +kernel
theorem dX10_adopt_17 : decode cX10_adopt 17 = .ok (.getfield 10, 3) := by decide +kernel
theorem dX10_adopt_20 : decode cX10_adopt 20 = .ok (.getfield 114, 3) := by decide +kernel
theorem dX10_adopt_23 : decode cX10_adopt 23 = .ok (.invokevirtual 187, 3) := by decide +kernel
theorem dX10_adopt_26 : decode cX10_adopt 26 = .ok (.ireturn, 1) := by decide +kernel
theorem dX10_undo_0 : decode cX10_undo 0 = .ok (.aload_n 0, 1) := by decide +kernel
theorem dX10_undo_1 : decode cX10_undo 1 = .ok (.getfield 22, 3) := by decide +kernel
theorem dX10_undo_4 : decode cX10_undo 4 = .ok (.getfield 191, 3) := by decide +kernel
theorem dX10_undo_7 : decode cX10_undo 7 = .ok (.ifCond .ne 5, 3) := by decide +kernel
theorem dX10_undo_10 : decode cX10_undo 10 = .ok (.iconst (-1), 1) := by decide +kernel
theorem dX10_undo_11 : decode cX10_undo 11 = .ok (.ireturn, 1) := by decide +kernel
theorem dX10_undo_12 : decode cX10_undo 12 = .ok (.aload_n 0, 1) := by decide +kernel
theorem dX10_undo_13 : decode cX10_undo 13 = .ok (.getfield 22, 3) := by decide +kernel
theorem dX10_undo_16 : decode cX10_undo 16 = .ok (.aload_n 0, 1) := by decide +kernel
theorem dX10_undo_17 : decode cX10_undo 17 = .ok (.getfield 10, 3) := by decide +kernel
theorem dX10_undo_20 : decode cX10_undo 20 = .ok (.invokevirtual 192, 3) := by decide +kernel
theorem dX10_undo_23 : decode cX10_undo 23 = .ok (.aload_n 0, 1) := by decide +kernel
theorem dX10_undo_24 : decode cX10_undo 24 = .ok (.invokevirtual 97, 3) := by decide +kernel
theorem dX10_undo_27 : decode cX10_undo 27 = .ok (.aload_n 0, 1) := by decide +kernel
theorem dX10_undo_28 : decode cX10_undo 28 = .ok (.getfield 22, 3) := by decide +kernel
theorem dX10_undo_31 : decode cX10_undo 31 = .ok (.getfield 191, 3) := by decide +kernel
theorem dX10_undo_34 : decode cX10_undo 34 = .ok (.ireturn, 1) := by decide +kernel
theorem dX10_generator_0 : decode cX10_generator 0 = .ok (.aload_n 0, 1) := by decide +kernel
theorem dX10_generator_1 : decode cX10_generator 1 = .ok (.iload_n 1, 1) := by decide +kernel
theorem dX10_generator_2 : decode cX10_generator 2 = .ok (.invokevirtual 142, 3) := by decide +kernel
theorem dX10_generator_5 : decode cX10_generator 5 = .ok (.ifCond .ne 5, 3) := by decide +kernel
theorem dX10_generator_8 : decode cX10_generator 8 = .ok (.iconst (-1), 1) := by decide +kernel
theorem dX10_generator_9 : decode cX10_generator 9 = .ok (.ireturn, 1) := by decide +kernel
theorem dX10_generator_10 : decode cX10_generator 10 = .ok (.iload_n 2, 1) := by decide +kernel
theorem dX10_generator_11 : decode cX10_generator 11 = .ok (.tableswitch 65 0 2 #[25, 37, 46], 25) := by decide +kernel
theorem dX10_generator_36 : decode cX10_generator 36 = .ok (.aload_n 0, 1) := by decide +kernel
theorem dX10_generator_37 : decode cX10_generator 37 = .ok (.getfield 10, 3) := by decide +kernel
theorem dX10_generator_40 : decode cX10_generator 40 = .ok (.getfield 125, 3) := by decide +kernel
theorem dX10_generator_43 : decode cX10_generator 43 = .ok (.iload_n 1, 1) := by decide +kernel
theorem dX10_generator_44 : decode cX10_generator 44 = .ok (.invokevirtual 148, 3) := by decide +kernel
theorem dX10_generator_47 : decode cX10_generator 47 = .ok (.ireturn, 1) := by decide +kernel
theorem dX10_generator_48 : decode cX10_generator 48 = .ok (.aload_n 0, 1) := by decide +kernel
theorem dX10_generator_49 : decode cX10_generator 49 = .ok (.iload_n 1, 1) := by decide +kernel
theorem dX10_generator_50 : decode cX10_generator 50 = .ok (.invokevirtual 181, 3) := by decide +kernel
theorem dX10_generator_53 : decode cX10_generator 53 = .ok (.invokestatic 195, 3) := by decide +kernel
theorem dX10_generator_56 : decode cX10_generator 56 = .ok (.ireturn, 1) := by decide +kernel
theorem dX10_generator_57 : decode cX10_generator 57 = .ok (.aload_n 0, 1) := by decide +kernel
theorem dX10_generator_58 : decode cX10_generator 58 = .ok (.getfield 54, 3) := by decide +kernel
theorem dX10_generator_61 : decode cX10_generator 61 = .ok (.aload_n 0, 1) := by decide +kernel
theorem dX10_generator_62 : decode cX10_generator 62 = .ok (.getfield 10, 3) := by decide +kernel
theorem dX10_generator_65 : decode cX10_generator 65 = .ok (.getfield 125, 3) := by decide +kernel
theorem dX10_generator_68 : decode cX10_generator 68 = .ok (.iload_n 1, 1) := by decide +kernel
theorem dX10_generator_69 : decode cX10_generator 69 = .ok (.invokevirtual 148, 3) := by decide +kernel
theorem dX10_generator_72 : decode cX10_generator 72 = .ok (.invokevirtual 199, 3) := by decide +kernel
theorem dX10_generator_75 : decode cX10_generator 75 = .ok (.ireturn, 1) := by decide +kernel
theorem dX10_generator_76 : decode cX10_generator 76 = .ok (.iconst (-1), 1) := by decide +kernel
theorem dX10_generator_77 : decode cX10_generator 77 = .ok (.ireturn, 1) := by decide +kernel
theorem dX10_member_0 : decode cX10_member 0 = .ok (.aload_n 0, 1) := by decide +kernel
theorem dX10_member_1 : decode cX10_member 1 = .ok (.getfield 54, 3) := by decide +kernel
theorem dX10_member_4 : decode cX10_member 4 = .ok (.getfield 69, 3) := by decide +kernel
theorem dX10_member_7 : decode cX10_member 7 = .ok (.iload_n 1, 1) := by decide +kernel
theorem dX10_member_8 : decode cX10_member 8 = .ok (.invokevirtual 148, 3) := by decide +kernel
theorem dX10_member_11 : decode cX10_member 11 = .ok (.ireturn, 1) := by decide +kernel
theorem dX10_place_0 : decode cX10_place 0 = .ok (.aload_n 0, 1) := by decide +kernel
theorem dX10_place_1 : decode cX10_place 1 = .ok (.iload_n 1, 1) := by decide +kernel
theorem dX10_place_2 : decode cX10_place 2 = .ok (.invokevirtual 202, 3) := by decide +kernel
theorem dX10_place_5 : decode cX10_place 5 = .ok (.ifCond .eq 14, 3) := by decide +kernel
theorem dX10_place_8 : decode cX10_place 8 = .ok (.aload_n 0, 1) := by decide +kernel
theorem dX10_place_9 : decode cX10_place 9 = .ok (.getfield 54, 3) := by decide +kernel
theorem dX10_place_12 : decode cX10_place 12 = .ok (.iload_n 1, 1) := by decide +kernel
theorem dX10_place_13 : decode cX10_place 13 = .ok (.invokevirtual 199, 3) := by decide +kernel
theorem dX10_place_16 : decode cX10_place 16 = .ok (.goto 4, 3) := by decide +kernel
theorem dX10_place_19 : decode cX10_place 19 = .ok (.iconst (-1), 1) := by decide +kernel
theorem dX10_place_20 : decode cX10_place 20 = .ok (.ireturn, 1) := by decide +kernel
theorem dX10_based_0 : decode cX10_based 0 = .ok (.aload_n 0, 1) := by decide +kernel
theorem dX10_based_1 : decode cX10_based 1 = .ok (.getfield 54, 3) := by decide +kernel
theorem dX10_based_4 : decode cX10_based 4 = .ok (.getfield 184, 3) := by decide +kernel
theorem dX10_based_7 : decode cX10_based 7 = .ok (.iload_n 1, 1) := by decide +kernel
theorem dX10_based_8 : decode cX10_based 8 = .ok (.invokevirtual 148, 3) := by decide +kernel
theorem dX10_based_11 : decode cX10_based 11 = .ok (.ireturn, 1) := by decide +kernel
theorem dX10_point_0 : decode cX10_point 0 = .ok (.aload_n 0, 1) := by decide +kernel
theorem dX10_point_1 : decode cX10_point 1 = .ok (.iload_n 1, 1) := by decide +kernel
theorem dX10_point_2 : decode cX10_point 2 = .ok (.invokevirtual 155, 3) := by decide +kernel
theorem dX10_point_5 : decode cX10_point 5 = .ok (.ifCond .ne 5, 3) := by decide +kernel
theorem dX10_point_8 : decode cX10_point 8 = .ok (.iconst (-1), 1) := by decide +kernel
theorem dX10_point_9 : decode cX10_point 9 = .ok (.ireturn, 1) := by decide +kernel
theorem dX10_point_10 : decode cX10_point 10 = .ok (.iload_n 2, 1) := by decide +kernel
theorem dX10_point_11 : decode cX10_point 11 = .ok (.tableswitch 91 0 5 #[37, 46, 58, 67, 73, 82], 37) := by decide +kernel
theorem dX10_point_48 : decode cX10_point 48 = .ok (.aload_n 0, 1) := by decide +kernel
theorem dX10_point_49 : decode cX10_point 49 = .ok (.getfield 54, 3) := by decide +kernel
theorem dX10_point_52 : decode cX10_point 52 = .ok (.iload_n 1, 1) := by decide +kernel
theorem dX10_point_53 : decode cX10_point 53 = .ok (.invokevirtual 205, 3) := by decide +kernel
theorem dX10_point_56 : decode cX10_point 56 = .ok (.ireturn, 1) := by decide +kernel
theorem dX10_point_57 : decode cX10_point 57 = .ok (.aload_n 0, 1) := by decide +kernel
theorem dX10_point_58 : decode cX10_point 58 = .ok (.getfield 54, 3) := by decide +kernel
theorem dX10_point_61 : decode cX10_point 61 = .ok (.iload_n 1, 1) := by decide +kernel
theorem dX10_point_62 : decode cX10_point 62 = .ok (.invokevirtual 208, 3) := by decide +kernel
theorem dX10_point_65 : decode cX10_point 65 = .ok (.invokestatic 195, 3) := by decide +kernel
theorem dX10_point_68 : decode cX10_point 68 = .ok (.ireturn, 1) := by decide +kernel
theorem dX10_point_69 : decode cX10_point 69 = .ok (.aload_n 0, 1) := by decide +kernel
theorem dX10_point_70 : decode cX10_point 70 = .ok (.getfield 10, 3) := by decide +kernel
theorem dX10_point_73 : decode cX10_point 73 = .ok (.iload_n 1, 1) := by decide +kernel
theorem dX10_point_74 : decode cX10_point 74 = .ok (.invokevirtual 158, 3) := by decide +kernel
theorem dX10_point_77 : decode cX10_point 77 = .ok (.ireturn, 1) := by decide +kernel
theorem dX10_point_78 : decode cX10_point 78 = .ok (.aload_n 0, 1) := by decide +kernel
theorem dX10_point_79 : decode cX10_point 79 = .ok (.iload_n 1, 1) := by decide +kernel
theorem dX10_point_80 : decode cX10_point 80 = .ok (.invokevirtual 178, 3) := by decide +kernel
theorem dX10_point_83 : decode cX10_point 83 = .ok (.ireturn, 1) := by decide +kernel
theorem dX10_point_84 : decode cX10_point 84 = .ok (.aload_n 0, 1) := by decide +kernel
theorem dX10_point_85 : decode cX10_point 85 = .ok (.getfield 54, 3) := by decide +kernel
theorem dX10_point_88 : decode cX10_point 88 = .ok (.iload_n 1, 1) := by decide +kernel
theorem dX10_point_89 : decode cX10_point 89 = .ok (.invokevirtual 211, 3) := by decide +kernel
theorem dX10_point_92 : decode cX10_point 92 = .ok (.ireturn, 1) := by decide +kernel
theorem dX10_point_93 : decode cX10_point 93 = .ok (.aload_n 0, 1) := by decide +kernel
theorem dX10_point_94 : decode cX10_point 94 = .ok (.getfield 54, 3) := by decide +kernel
theorem dX10_point_97 : decode cX10_point 97 = .ok (.iload_n 1, 1) := by decide +kernel
theorem dX10_point_98 : decode cX10_point 98 = .ok (.invokevirtual 214, 3) := by decide +kernel
theorem dX10_point_101 : decode cX10_point 101 = .ok (.ireturn, 1) := by decide +kernel
theorem dX10_point_102 : decode cX10_point 102 = .ok (.iconst (-1), 1) := by decide +kernel
theorem dX10_point_103 : decode cX10_point 103 = .ok (.ireturn, 1) := by decide +kernel
theorem dX10_family_0 : decode cX10_family 0 = .ok (.iload_n 1, 1) := by decide +kernel
theorem dX10_family_1 : decode cX10_family 1 = .ok (.tableswitch 210 0 12 #[67, 78, 86, 97, 105, 114, 122, 130, 138, 146, 164, 179, 189], 67) := by decide +kernel
theorem dX10_family_68 : decode cX10_family 68 = .ok (.aload_n 0, 1) := by decide +kernel
theorem dX10_family_69 : decode cX10_family 69 = .ok (.getfield 54, 3) := by decide +kernel
theorem dX10_family_72 : decode cX10_family 72 = .ok (.getfield 69, 3) := by decide +kernel
theorem dX10_family_75 : decode cX10_family 75 = .ok (.getfield 100, 3) := by decide +kernel
theorem dX10_family_78 : decode cX10_family 78 = .ok (.ireturn, 1) := by decide +kernel
theorem dX10_family_79 : decode cX10_family 79 = .ok (.aload_n 0, 1) := by decide +kernel
theorem dX10_family_80 : decode cX10_family 80 = .ok (.getfield 54, 3) := by decide +kernel
theorem dX10_family_83 : decode cX10_family 83 = .ok (.invokevirtual 217, 3) := by decide +kernel
theorem dX10_family_86 : decode cX10_family 86 = .ok (.ireturn, 1) := by decide +kernel
theorem dX10_family_87 : decode cX10_family 87 = .ok (.aload_n 0, 1) := by decide +kernel
theorem dX10_family_88 : decode cX10_family 88 = .ok (.getfield 54, 3) := by decide +kernel
theorem dX10_family_91 : decode cX10_family 91 = .ok (.getfield 184, 3) := by decide +kernel
theorem dX10_family_94 : decode cX10_family 94 = .ok (.getfield 100, 3) := by decide +kernel
theorem dX10_family_97 : decode cX10_family 97 = .ok (.ireturn, 1) := by decide +kernel
theorem dX10_family_98 : decode cX10_family 98 = .ok (.aload_n 0, 1) := by decide +kernel
theorem dX10_family_99 : decode cX10_family 99 = .ok (.getfield 54, 3) := by decide +kernel
theorem dX10_family_102 : decode cX10_family 102 = .ok (.invokevirtual 220, 3) := by decide +kernel
theorem dX10_family_105 : decode cX10_family 105 = .ok (.ireturn, 1) := by decide +kernel
theorem dX10_family_106 : decode cX10_family 106 = .ok (.aload_n 0, 1) := by decide +kernel
theorem dX10_family_107 : decode cX10_family 107 = .ok (.getfield 54, 3) := by decide +kernel
theorem dX10_family_110 : decode cX10_family 110 = .ok (.iconst 0, 1) := by decide +kernel
theorem dX10_family_111 : decode cX10_family 111 = .ok (.invokevirtual 223, 3) := by decide +kernel
theorem dX10_family_114 : decode cX10_family 114 = .ok (.ireturn, 1) := by decide +kernel
theorem dX10_family_115 : decode cX10_family 115 = .ok (.aload_n 0, 1) := by decide +kernel
theorem dX10_family_116 : decode cX10_family 116 = .ok (.getfield 63, 3) := by decide +kernel
theorem dX10_family_119 : decode cX10_family 119 = .ok (.invokevirtual 226, 3) := by decide +kernel
theorem dX10_family_122 : decode cX10_family 122 = .ok (.ireturn, 1) := by decide +kernel
theorem dX10_family_123 : decode cX10_family 123 = .ok (.aload_n 0, 1) := by decide +kernel
theorem dX10_family_124 : decode cX10_family 124 = .ok (.getfield 75, 3) := by decide +kernel
theorem dX10_family_127 : decode cX10_family 127 = .ok (.invokevirtual 229, 3) := by decide +kernel
theorem dX10_family_130 : decode cX10_family 130 = .ok (.ireturn, 1) := by decide +kernel
theorem dX10_family_131 : decode cX10_family 131 = .ok (.aload_n 0, 1) := by decide +kernel
theorem dX10_family_132 : decode cX10_family 132 = .ok (.getfield 63, 3) := by decide +kernel
theorem dX10_family_135 : decode cX10_family 135 = .ok (.invokevirtual 232, 3) := by decide +kernel
theorem dX10_family_138 : decode cX10_family 138 = .ok (.ireturn, 1) := by decide +kernel
theorem dX10_family_139 : decode cX10_family 139 = .ok (.aload_n 0, 1) := by decide +kernel
theorem dX10_family_140 : decode cX10_family 140 = .ok (.getfield 82, 3) := by decide +kernel
theorem dX10_family_143 : decode cX10_family 143 = .ok (.invokevirtual 235, 3) := by decide +kernel
theorem dX10_family_146 : decode cX10_family 146 = .ok (.ireturn, 1) := by decide +kernel
theorem dX10_family_147 : decode cX10_family 147 = .ok (.aload_n 0, 1) := by decide +kernel
theorem dX10_family_148 : decode cX10_family 148 = .ok (.getfield 54, 3) := by decide +kernel
theorem dX10_family_151 : decode cX10_family 151 = .ok (.aload_n 0, 1) := by decide +kernel
theorem dX10_family_152 : decode cX10_family 152 = .ok (.getfield 10, 3) := by decide +kernel
theorem dX10_family_155 : decode cX10_family 155 = .ok (.getfield 238, 3) := by decide +kernel
theorem dX10_family_158 : decode cX10_family 158 = .ok (.invokevirtual 241, 3) := by decide +kernel
theorem dX10_family_161 : decode cX10_family 161 = .ok (.invokestatic 195, 3) := by decide +kernel
theorem dX10_family_164 : decode cX10_family 164 = .ok (.ireturn, 1) := by decide +kernel
theorem dX10_family_165 : decode cX10_family 165 = .ok (.aload_n 0, 1) := by decide +kernel
theorem dX10_family_166 : decode cX10_family 166 = .ok (.getfield 54, 3) := by decide +kernel
theorem dX10_family_169 : decode cX10_family 169 = .ok (.aload_n 0, 1) := by decide +kernel
theorem dX10_family_170 : decode cX10_family 170 = .ok (.getfield 10, 3) := by decide +kernel
theorem dX10_family_173 : decode cX10_family 173 = .ok (.getfield 238, 3) := by decide +kernel
theorem dX10_family_176 : decode cX10_family 176 = .ok (.invokevirtual 245, 3) := by decide +kernel
theorem dX10_family_179 : decode cX10_family 179 = .ok (.ireturn, 1) := by decide +kernel
theorem dX10_family_180 : decode cX10_family 180 = .ok (.aload_n 0, 1) := by decide +kernel
theorem dX10_family_181 : decode cX10_family 181 = .ok (.getfield 63, 3) := by decide +kernel
theorem dX10_family_184 : decode cX10_family 184 = .ok (.iconst 0, 1) := by decide +kernel
theorem dX10_family_185 : decode cX10_family 185 = .ok (.iconst 1, 1) := by decide +kernel
theorem dX10_family_186 : decode cX10_family 186 = .ok (.invokevirtual 249, 3) := by decide +kernel
theorem dX10_family_189 : decode cX10_family 189 = .ok (.ireturn, 1) := by decide +kernel
theorem dX10_family_190 : decode cX10_family 190 = .ok (.aload_n 0, 1) := by decide +kernel
theorem dX10_family_191 : decode cX10_family 191 = .ok (.getfield 63, 3) := by decide +kernel
theorem dX10_family_194 : decode cX10_family 194 = .ok (.aload_n 0, 1) := by decide +kernel
theorem dX10_family_195 : decode cX10_family 195 = .ok (.getfield 54, 3) := by decide +kernel
theorem dX10_family_198 : decode cX10_family 198 = .ok (.getfield 69, 3) := by decide +kernel
theorem dX10_family_201 : decode cX10_family 201 = .ok (.getfield 100, 3) := by decide +kernel
theorem dX10_family_204 : decode cX10_family 204 = .ok (.iconst 1, 1) := by decide +kernel
theorem dX10_family_205 : decode cX10_family 205 = .ok (.isub, 1) := by decide +kernel
theorem dX10_family_206 : decode cX10_family 206 = .ok (.iconst 0, 1) := by decide +kernel
theorem dX10_family_207 : decode cX10_family 207 = .ok (.invokevirtual 249, 3) := by decide +kernel
theorem dX10_family_210 : decode cX10_family 210 = .ok (.ireturn, 1) := by decide +kernel
theorem dX10_family_211 : decode cX10_family 211 = .ok (.iconst (-1), 1) := by decide +kernel
theorem dX10_family_212 : decode cX10_family 212 = .ok (.ireturn, 1) := by decide +kernel
theorem dX10_sized_0 : decode cX10_sized 0 = .ok (.iload_n 1, 1) := by decide +kernel
theorem dX10_sized_1 : decode cX10_sized 1 = .ok (.ifCond .lt 9, 3) := by decide +kernel
theorem dX10_sized_4 : decode cX10_sized 4 = .ok (.iload_n 1, 1) := by decide +kernel
theorem dX10_sized_5 : decode cX10_sized 5 = .ok (.bipush 7, 2) := by decide +kernel
theorem dX10_sized_7 : decode cX10_sized 7 = .ok (.if_icmp .le 5, 3) := by decide +kernel
theorem dX10_sized_10 : decode cX10_sized 10 = .ok (.iconst (-1), 1) := by decide +kernel
theorem dX10_sized_11 : decode cX10_sized 11 = .ok (.ireturn, 1) := by decide +kernel
theorem dX10_sized_12 : decode cX10_sized 12 = .ok (.iconst 0, 1) := by decide +kernel
theorem dX10_sized_13 : decode cX10_sized 13 = .ok (.istore_n 2, 1) := by decide +kernel
theorem dX10_sized_14 : decode cX10_sized 14 = .ok (.iconst 0, 1) := by decide +kernel
theorem dX10_sized_15 : decode cX10_sized 15 = .ok (.istore_n 3, 1) := by decide +kernel
theorem dX10_sized_16 : decode cX10_sized 16 = .ok (.iload_n 3, 1) := by decide +kernel
theorem dX10_sized_17 : decode cX10_sized 17 = .ok (.aload_n 0, 1) := by decide +kernel
theorem dX10_sized_18 : decode cX10_sized 18 = .ok (.getfield 54, 3) := by decide +kernel
theorem dX10_sized_21 : decode cX10_sized 21 = .ok (.getfield 69, 3) := by decide +kernel
theorem dX10_sized_24 : decode cX10_sized 24 = .ok (.getfield 100, 3) := by decide +kernel
theorem dX10_sized_27 : decode cX10_sized 27 = .ok (.if_icmp .ge 30, 3) := by decide +kernel
theorem dX10_sized_30 : decode cX10_sized 30 = .ok (.aload_n 0, 1) := by decide +kernel
theorem dX10_sized_31 : decode cX10_sized 31 = .ok (.getfield 54, 3) := by decide +kernel
theorem dX10_sized_34 : decode cX10_sized 34 = .ok (.getfield 69, 3) := by decide +kernel
theorem dX10_sized_37 : decode cX10_sized 37 = .ok (.iload_n 3, 1) := by decide +kernel
theorem dX10_sized_38 : decode cX10_sized 38 = .ok (.invokevirtual 148, 3) := by decide +kernel
theorem dX10_sized_41 : decode cX10_sized 41 = .ok (.invokestatic 253, 3) := by decide +kernel
theorem dX10_sized_44 : decode cX10_sized 44 = .ok (.iload_n 1, 1) := by decide +kernel
theorem dX10_sized_45 : decode cX10_sized 45 = .ok (.if_icmp .ne 6, 3) := by decide +kernel
theorem dX10_sized_48 : decode cX10_sized 48 = .ok (.iinc 2 1, 3) := by decide +kernel
theorem dX10_sized_51 : decode cX10_sized 51 = .ok (.iinc 3 1, 3) := by decide +kernel
theorem dX10_sized_54 : decode cX10_sized 54 = .ok (.goto (-38), 3) := by decide +kernel
theorem dX10_sized_57 : decode cX10_sized 57 = .ok (.iload_n 2, 1) := by decide +kernel
theorem dX10_sized_58 : decode cX10_sized 58 = .ok (.ireturn, 1) := by decide +kernel
theorem dX10_mean_0 : decode cX10_mean 0 = .ok (.iload_n 1, 1) := by decide +kernel
theorem dX10_mean_1 : decode cX10_mean 1 = .ok (.ifCond .eq 10, 3) := by decide +kernel
theorem dX10_mean_4 : decode cX10_mean 4 = .ok (.iload_n 1, 1) := by decide +kernel
theorem dX10_mean_5 : decode cX10_mean 5 = .ok (.iconst 1, 1) := by decide +kernel
theorem dX10_mean_6 : decode cX10_mean 6 = .ok (.if_icmp .eq 5, 3) := by decide +kernel
theorem dX10_mean_9 : decode cX10_mean 9 = .ok (.iconst (-1), 1) := by decide +kernel
theorem dX10_mean_10 : decode cX10_mean 10 = .ok (.ireturn, 1) := by decide +kernel
theorem dX10_mean_11 : decode cX10_mean 11 = .ok (.iload_n 1, 1) := by decide +kernel
theorem dX10_mean_12 : decode cX10_mean 12 = .ok (.ifCond .ne 13, 3) := by decide +kernel
theorem dX10_mean_15 : decode cX10_mean 15 = .ok (.aload_n 0, 1) := by decide +kernel
theorem dX10_mean_16 : decode cX10_mean 16 = .ok (.getfield 54, 3) := by decide +kernel
theorem dX10_mean_19 : decode cX10_mean 19 = .ok (.invokevirtual 258, 3) := by decide +kernel
theorem dX10_mean_22 : decode cX10_mean 22 = .ok (.goto 17, 3) := by decide +kernel
theorem dX10_mean_25 : decode cX10_mean 25 = .ok (.aload_n 0, 1) := by decide +kernel
theorem dX10_mean_26 : decode cX10_mean 26 = .ok (.getfield 54, 3) := by decide +kernel
theorem dX10_mean_29 : decode cX10_mean 29 = .ok (.aload_n 0, 1) := by decide +kernel
theorem dX10_mean_30 : decode cX10_mean 30 = .ok (.getfield 10, 3) := by decide +kernel
theorem dX10_mean_33 : decode cX10_mean 33 = .ok (.getfield 238, 3) := by decide +kernel
theorem dX10_mean_36 : decode cX10_mean 36 = .ok (.invokevirtual 245, 3) := by decide +kernel
theorem dX10_mean_39 : decode cX10_mean 39 = .ok (.istore_n 3, 1) := by decide +kernel
theorem dX10_mean_40 : decode cX10_mean 40 = .ok (.iload_n 3, 1) := by decide +kernel
theorem dX10_mean_41 : decode cX10_mean 41 = .ok (.aload_n 0, 1) := by decide +kernel
theorem dX10_mean_42 : decode cX10_mean 42 = .ok (.getfield 54, 3) := by decide +kernel
theorem dX10_mean_45 : decode cX10_mean 45 = .ok (.getfield 69, 3) := by decide +kernel
theorem dX10_mean_48 : decode cX10_mean 48 = .ok (.getfield 100, 3) := by decide +kernel
theorem dX10_mean_51 : decode cX10_mean 51 = .ok (.invokestatic 261, 3) := by decide +kernel
theorem dX10_mean_54 : decode cX10_mean 54 = .ok (.istore 4, 2) := by decide +kernel
theorem dX10_mean_56 : decode cX10_mean 56 = .ok (.iload 4, 2) := by decide +kernel
theorem dX10_mean_58 : decode cX10_mean 58 = .ok (.ifCond .gt 5, 3) := by decide +kernel
theorem dX10_mean_61 : decode cX10_mean 61 = .ok (.iconst (-1), 1) := by decide +kernel
theorem dX10_mean_62 : decode cX10_mean 62 = .ok (.ireturn, 1) := by decide +kernel
theorem dX10_mean_63 : decode cX10_mean 63 = .ok (.iload_n 2, 1) := by decide +kernel
theorem dX10_mean_64 : decode cX10_mean 64 = .ok (.ifCond .eq 16, 3) := by decide +kernel
theorem dX10_mean_67 : decode cX10_mean 67 = .ok (.aload_n 0, 1) := by decide +kernel
theorem dX10_mean_68 : decode cX10_mean 68 = .ok (.getfield 54, 3) := by decide +kernel
theorem dX10_mean_71 : decode cX10_mean 71 = .ok (.getfield 69, 3) := by decide +kernel
theorem dX10_mean_74 : decode cX10_mean 74 = .ok (.getfield 100, 3) := by decide +kernel
theorem dX10_mean_77 : decode cX10_mean 77 = .ok (.goto 4, 3) := by decide +kernel
theorem dX10_mean_80 : decode cX10_mean 80 = .ok (.iload_n 3, 1) := by decide +kernel
theorem dX10_mean_81 : decode cX10_mean 81 = .ok (.iload 4, 2) := by decide +kernel
theorem dX10_mean_83 : decode cX10_mean 83 = .ok (.idiv, 1) := by decide +kernel
theorem dX10_mean_84 : decode cX10_mean 84 = .ok (.ireturn, 1) := by decide +kernel
theorem dX10_mass_0 : decode cX10_mass 0 = .ok (.aload_n 0, 1) := by decide +kernel
theorem dX10_mass_1 : decode cX10_mass 1 = .ok (.iload_n 1, 1) := by decide +kernel
theorem dX10_mass_2 : decode cX10_mass 2 = .ok (.invokevirtual 202, 3) := by decide +kernel
theorem dX10_mass_5 : decode cX10_mass 5 = .ok (.ifCond .eq 14, 3) := by decide +kernel
theorem dX10_mass_8 : decode cX10_mass 8 = .ok (.aload_n 0, 1) := by decide +kernel
theorem dX10_mass_9 : decode cX10_mass 9 = .ok (.getfield 10, 3) := by decide +kernel
theorem dX10_mass_12 : decode cX10_mass 12 = .ok (.iload_n 1, 1) := by decide +kernel
theorem dX10_mass_13 : decode cX10_mass 13 = .ok (.invokevirtual 264, 3) := by decide +kernel
theorem dX10_mass_16 : decode cX10_mass 16 = .ok (.goto 4, 3) := by decide +kernel
theorem dX10_mass_19 : decode cX10_mass 19 = .ok (.iconst (-1), 1) := by decide +kernel
theorem dX10_mass_20 : decode cX10_mass 20 = .ok (.ireturn, 1) := by decide +kernel
theorem dX10_inner_0 : decode cX10_inner 0 = .ok (.aload_n 0, 1) := by decide +kernel
theorem dX10_inner_1 : decode cX10_inner 1 = .ok (.iload_n 1, 1) := by decide +kernel
theorem dX10_inner_2 : decode cX10_inner 2 = .ok (.invokevirtual 202, 3) := by decide +kernel
theorem dX10_inner_5 : decode cX10_inner 5 = .ok (.ifCond .eq 14, 3) := by decide +kernel
theorem dX10_inner_8 : decode cX10_inner 8 = .ok (.aload_n 0, 1) := by decide +kernel
theorem dX10_inner_9 : decode cX10_inner 9 = .ok (.getfield 54, 3) := by decide +kernel
theorem dX10_inner_12 : decode cX10_inner 12 = .ok (.iload_n 1, 1) := by decide +kernel
theorem dX10_inner_13 : decode cX10_inner 13 = .ok (.invokevirtual 267, 3) := by decide +kernel
theorem dX10_inner_16 : decode cX10_inner 16 = .ok (.goto 4, 3) := by decide +kernel
theorem dX10_inner_19 : decode cX10_inner 19 = .ok (.iconst (-1), 1) := by decide +kernel
theorem dX10_inner_20 : decode cX10_inner 20 = .ok (.ireturn, 1) := by decide +kernel
theorem dX10_hull_0 : decode cX10_hull 0 = .ok (.aload_n 0, 1) := by decide +kernel
theorem dX10_hull_1 : decode cX10_hull 1 = .ok (.iload_n 1, 1) := by decide +kernel
theorem dX10_hull_2 : decode cX10_hull 2 = .ok (.invokevirtual 202, 3) := by decide +kernel
theorem dX10_hull_5 : decode cX10_hull 5 = .ok (.ifCond .eq 14, 3) := by decide +kernel
theorem dX10_hull_8 : decode cX10_hull 8 = .ok (.aload_n 0, 1) := by decide +kernel
theorem dX10_hull_9 : decode cX10_hull 9 = .ok (.getfield 54, 3) := by decide +kernel
theorem dX10_hull_12 : decode cX10_hull 12 = .ok (.iload_n 1, 1) := by decide +kernel
theorem dX10_hull_13 : decode cX10_hull 13 = .ok (.invokevirtual 270, 3) := by decide +kernel
theorem dX10_hull_16 : decode cX10_hull 16 = .ok (.goto 4, 3) := by decide +kernel
theorem dX10_hull_19 : decode cX10_hull 19 = .ok (.iconst (-1), 1) := by decide +kernel
theorem dX10_hull_20 : decode cX10_hull 20 = .ok (.ireturn, 1) := by decide +kernel
theorem dX10_trace_0 : decode cX10_trace 0 = .ok (.aload_n 0, 1) := by decide +kernel
theorem dX10_trace_1 : decode cX10_trace 1 = .ok (.iload_n 1, 1) := by decide +kernel
theorem dX10_trace_2 : decode cX10_trace 2 = .ok (.invokevirtual 202, 3) := by decide +kernel
theorem dX10_trace_5 : decode cX10_trace 5 = .ok (.ifCond .eq 8, 3) := by decide +kernel
theorem dX10_trace_8 : decode cX10_trace 8 = .ok (.iload_n 2, 1) := by decide +kernel
theorem dX10_trace_9 : decode cX10_trace 9 = .ok (.iconst (-1), 1) := by decide +kernel
theorem dX10_trace_10 : decode cX10_trace 10 = .ok (.if_icmp .ge 5, 3) := by decide +kernel
theorem dX10_trace_13 : decode cX10_trace 13 = .ok (.iconst (-1), 1) := by decide +kernel
theorem dX10_trace_14 : decode cX10_trace 14 = .ok (.ireturn, 1) := by decide +kernel
theorem dX10_trace_15 : decode cX10_trace 15 = .ok (.aload_n 0, 1) := by decide +kernel
theorem dX10_trace_16 : decode cX10_trace 16 = .ok (.getfield 82, 3) := by decide +kernel
theorem dX10_trace_19 : decode cX10_trace 19 = .ok (.iload_n 1, 1) := by decide +kernel
theorem dX10_trace_20 : decode cX10_trace 20 = .ok (.invokevirtual 273, 3) := by decide +kernel
theorem dX10_trace_23 : decode cX10_trace 23 = .ok (.iload_n 2, 1) := by decide +kernel
theorem dX10_trace_24 : decode cX10_trace 24 = .ok (.iconst (-1), 1) := by decide +kernel
theorem dX10_trace_25 : decode cX10_trace 25 = .ok (.if_icmp .ne 14, 3) := by decide +kernel
theorem dX10_trace_28 : decode cX10_trace 28 = .ok (.aload_n 0, 1) := by decide +kernel
theorem dX10_trace_29 : decode cX10_trace 29 = .ok (.getfield 82, 3) := by decide +kernel
theorem dX10_trace_32 : decode cX10_trace 32 = .ok (.getfield 276, 3) := by decide +kernel
theorem dX10_trace_35 : decode cX10_trace 35 = .ok (.getfield 100, 3) := by decide +kernel
theorem dX10_trace_38 : decode cX10_trace 38 = .ok (.ireturn, 1) := by decide +kernel
theorem dX10_trace_39 : decode cX10_trace 39 = .ok (.iload_n 2, 1) := by decide +kernel
theorem dX10_trace_40 : decode cX10_trace 40 = .ok (.aload_n 0, 1) := by decide +kernel
theorem dX10_trace_41 : decode cX10_trace 41 = .ok (.getfield 82, 3) := by decide +kernel
theorem dX10_trace_44 : decode cX10_trace 44 = .ok (.getfield 276, 3) := by decide +kernel
theorem dX10_trace_47 : decode cX10_trace 47 = .ok (.getfield 100, 3) := by decide +kernel
theorem dX10_trace_50 : decode cX10_trace 50 = .ok (.if_icmp .ge 17, 3) := by decide +kernel
theorem dX10_trace_53 : decode cX10_trace 53 = .ok (.aload_n 0, 1) := by decide +kernel
theorem dX10_trace_54 : decode cX10_trace 54 = .ok (.getfield 82, 3) := by decide +kernel
theorem dX10_trace_57 : decode cX10_trace 57 = .ok (.getfield 276, 3) := by decide +kernel
theorem dX10_trace_60 : decode cX10_trace 60 = .ok (.iload_n 2, 1) := by decide +kernel
theorem dX10_trace_61 : decode cX10_trace 61 = .ok (.invokevirtual 148, 3) := by decide +kernel
theorem dX10_trace_64 : decode cX10_trace 64 = .ok (.goto 5, 3) := by decide +kernel
theorem dX10_trace_67 : decode cX10_trace 67 = .ok (.bipush (-2), 2) := by decide +kernel
theorem dX10_trace_69 : decode cX10_trace 69 = .ok (.ireturn, 1) := by decide +kernel
theorem dX10_part_0 : decode cX10_part 0 = .ok (.aload_n 0, 1) := by decide +kernel
theorem dX10_part_1 : decode cX10_part 1 = .ok (.iload_n 1, 1) := by decide +kernel
theorem dX10_part_2 : decode cX10_part 2 = .ok (.invokevirtual 155, 3) := by decide +kernel
theorem dX10_part_5 : decode cX10_part 5 = .ok (.ifCond .ne 5, 3) := by decide +kernel
theorem dX10_part_8 : decode cX10_part 8 = .ok (.iconst (-1), 1) := by decide +kernel
theorem dX10_part_9 : decode cX10_part 9 = .ok (.ireturn, 1) := by decide +kernel
theorem dX10_part_10 : decode cX10_part 10 = .ok (.iload_n 3, 1) := by decide +kernel
theorem dX10_part_11 : decode cX10_part 11 = .ok (.tableswitch 72 0 3 #[29, 39, 49, 59], 29) := by decide +kernel
theorem dX10_part_40 : decode cX10_part 40 = .ok (.aload_n 0, 1) := by decide +kernel
theorem dX10_part_41 : decode cX10_part 41 = .ok (.getfield 54, 3) := by decide +kernel
theorem dX10_part_44 : decode cX10_part 44 = .ok (.iload_n 1, 1) := by decide +kernel
theorem dX10_part_45 : decode cX10_part 45 = .ok (.iload_n 2, 1) := by decide +kernel
theorem dX10_part_46 : decode cX10_part 46 = .ok (.invokevirtual 279, 3) := by decide +kernel
theorem dX10_part_49 : decode cX10_part 49 = .ok (.ireturn, 1) := by decide +kernel
theorem dX10_part_50 : decode cX10_part 50 = .ok (.aload_n 0, 1) := by decide +kernel
theorem dX10_part_51 : decode cX10_part 51 = .ok (.getfield 54, 3) := by decide +kernel
theorem dX10_part_54 : decode cX10_part 54 = .ok (.iload_n 1, 1) := by decide +kernel
theorem dX10_part_55 : decode cX10_part 55 = .ok (.iload_n 2, 1) := by decide +kernel
theorem dX10_part_56 : decode cX10_part 56 = .ok (.invokevirtual 282, 3) := by decide +kernel
theorem dX10_part_59 : decode cX10_part 59 = .ok (.ireturn, 1) := by decide +kernel
theorem dX10_part_60 : decode cX10_part 60 = .ok (.aload_n 0, 1) := by decide +kernel
theorem dX10_part_61 : decode cX10_part 61 = .ok (.getfield 54, 3) := by decide +kernel
theorem dX10_part_64 : decode cX10_part 64 = .ok (.iload_n 1, 1) := by decide +kernel
theorem dX10_part_65 : decode cX10_part 65 = .ok (.iload_n 2, 1) := by decide +kernel
theorem dX10_part_66 : decode cX10_part 66 = .ok (.invokevirtual 285, 3) := by decide +kernel
theorem dX10_part_69 : decode cX10_part 69 = .ok (.ireturn, 1) := by decide +kernel
theorem dX10_part_70 : decode cX10_part 70 = .ok (.aload_n 0, 1) := by decide +kernel
theorem dX10_part_71 : decode cX10_part 71 = .ok (.getfield 54, 3) := by decide +kernel
theorem dX10_part_74 : decode cX10_part 74 = .ok (.iload_n 1, 1) := by decide +kernel
theorem dX10_part_75 : decode cX10_part 75 = .ok (.iload_n 2, 1) := by decide +kernel
theorem dX10_part_76 : decode cX10_part 76 = .ok (.invokevirtual 288, 3) := by decide +kernel
theorem dX10_part_79 : decode cX10_part 79 = .ok (.invokestatic 195, 3) := by decide +kernel
theorem dX10_part_82 : decode cX10_part 82 = .ok (.ireturn, 1) := by decide +kernel
theorem dX10_part_83 : decode cX10_part 83 = .ok (.iconst (-1), 1) := by decide +kernel
theorem dX10_part_84 : decode cX10_part 84 = .ok (.ireturn, 1) := by decide +kernel
theorem dX10_covers_0 : decode cX10_covers 0 = .ok (.aload_n 0, 1) := by decide +kernel
theorem dX10_covers_1 : decode cX10_covers 1 = .ok (.iload_n 1, 1) := by decide +kernel
theorem dX10_covers_2 : decode cX10_covers 2 = .ok (.invokevirtual 292, 3) := by decide +kernel
theorem dX10_covers_5 : decode cX10_covers 5 = .ok (.ifCond .eq 11, 3) := by decide +kernel
theorem dX10_covers_8 : decode cX10_covers 8 = .ok (.aload_n 0, 1) := by decide +kernel
theorem dX10_covers_9 : decode cX10_covers 9 = .ok (.iload_n 2, 1) := by decide +kernel
theorem dX10_covers_10 : decode cX10_covers 10 = .ok (.invokevirtual 292, 3) := by decide +kernel
theorem dX10_covers_13 : decode cX10_covers 13 = .ok (.ifCond .ne 5, 3) := by decide +kernel
theorem dX10_covers_16 : decode cX10_covers 16 = .ok (.iconst (-1), 1) := by decide +kernel
theorem dX10_covers_17 : decode cX10_covers 17 = .ok (.ireturn, 1) := by decide +kernel
theorem dX10_covers_18 : decode cX10_covers 18 = .ok (.aload_n 0, 1) := by decide +kernel
theorem dX10_covers_19 : decode cX10_covers 19 = .ok (.getfield 54, 3) := by decide +kernel
theorem dX10_covers_22 : decode cX10_covers 22 = .ok (.aload_n 0, 1) := by decide +kernel
theorem dX10_covers_23 : decode cX10_covers 23 = .ok (.getfield 54, 3) := by decide +kernel
theorem dX10_covers_26 : decode cX10_covers 26 = .ok (.getfield 69, 3) := by decide +kernel
theorem dX10_covers_29 : decode cX10_covers 29 = .ok (.iload_n 1, 1) := by decide +kernel
theorem dX10_covers_30 : decode cX10_covers 30 = .ok (.invokevirtual 148, 3) := by decide +kernel
theorem dX10_covers_33 : decode cX10_covers 33 = .ok (.aload_n 0, 1) := by decide +kernel
theorem dX10_covers_34 : decode cX10_covers 34 = .ok (.getfield 54, 3) := by decide +kernel
theorem dX10_covers_37 : decode cX10_covers 37 = .ok (.getfield 69, 3) := by decide +kernel
theorem dX10_covers_40 : decode cX10_covers 40 = .ok (.iload_n 2, 1) := by decide +kernel
theorem dX10_covers_41 : decode cX10_covers 41 = .ok (.invokevirtual 148, 3) := by decide +kernel
theorem dX10_covers_44 : decode cX10_covers 44 = .ok (.invokevirtual 295, 3) := by decide +kernel
theorem dX10_covers_47 : decode cX10_covers 47 = .ok (.invokestatic 195, 3) := by decide +kernel
theorem dX10_covers_50 : decode cX10_covers 50 = .ok (.ireturn, 1) := by decide +kernel
theorem dX10_degree_0 : decode cX10_degree 0 = .ok (.aload_n 0, 1) := by decide +kernel
theorem dX10_degree_1 : decode cX10_degree 1 = .ok (.iload_n 1, 1) := by decide +kernel
theorem dX10_degree_2 : decode cX10_degree 2 = .ok (.invokevirtual 292, 3) := by decide +kernel
theorem dX10_degree_5 : decode cX10_degree 5 = .ok (.ifCond .eq 15, 3) := by decide +kernel
theorem dX10_degree_8 : decode cX10_degree 8 = .ok (.aload_n 0, 1) := by decide +kernel
theorem dX10_degree_9 : decode cX10_degree 9 = .ok (.getfield 63, 3) := by decide +kernel
theorem dX10_degree_12 : decode cX10_degree 12 = .ok (.iload_n 1, 1) := by decide +kernel
theorem dX10_degree_13 : decode cX10_degree 13 = .ok (.iload_n 2, 1) := by decide +kernel
theorem dX10_degree_14 : decode cX10_degree 14 = .ok (.invokevirtual 249, 3) := by decide +kernel
theorem dX10_degree_17 : decode cX10_degree 17 = .ok (.goto 4, 3) := by decide +kernel
theorem dX10_degree_20 : decode cX10_degree 20 = .ok (.iconst (-1), 1) := by decide +kernel
theorem dX10_degree_21 : decode cX10_degree 21 = .ok (.ireturn, 1) := by decide +kernel
theorem dX10_single_0 : decode cX10_single 0 = .ok (.aload_n 0, 1) := by decide +kernel
theorem dX10_single_1 : decode cX10_single 1 = .ok (.getfield 63, 3) := by decide +kernel
theorem dX10_single_4 : decode cX10_single 4 = .ok (.invokevirtual 299, 3) := by decide +kernel
theorem dX10_single_7 : decode cX10_single 7 = .ok (.ireturn, 1) := by decide +kernel
theorem dX10_both_0 : decode cX10_both 0 = .ok (.aload_n 0, 1) := by decide +kernel
theorem dX10_both_1 : decode cX10_both 1 = .ok (.iload_n 1, 1) := by decide +kernel
theorem dX10_both_2 : decode cX10_both 2 = .ok (.invokevirtual 292, 3) := by decide +kernel
theorem dX10_both_5 : decode cX10_both 5 = .ok (.ifCond .eq 11, 3) := by decide +kernel
theorem dX10_both_8 : decode cX10_both 8 = .ok (.aload_n 0, 1) := by decide +kernel
theorem dX10_both_9 : decode cX10_both 9 = .ok (.iload_n 2, 1) := by decide +kernel
theorem dX10_both_10 : decode cX10_both 10 = .ok (.invokevirtual 292, 3) := by decide +kernel
theorem dX10_both_13 : decode cX10_both 13 = .ok (.ifCond .ne 5, 3) := by decide +kernel
theorem dX10_both_16 : decode cX10_both 16 = .ok (.iconst (-1), 1) := by decide +kernel
theorem dX10_both_17 : decode cX10_both 17 = .ok (.ireturn, 1) := by decide +kernel
theorem dX10_both_18 : decode cX10_both 18 = .ok (.aload_n 0, 1) := by decide +kernel
theorem dX10_both_19 : decode cX10_both 19 = .ok (.getfield 54, 3) := by decide +kernel
theorem dX10_both_22 : decode cX10_both 22 = .ok (.getfield 69, 3) := by decide +kernel
theorem dX10_both_25 : decode cX10_both 25 = .ok (.iload_n 1, 1) := by decide +kernel
theorem dX10_both_26 : decode cX10_both 26 = .ok (.invokevirtual 148, 3) := by decide +kernel
theorem dX10_both_29 : decode cX10_both 29 = .ok (.istore 4, 2) := by decide +kernel
theorem dX10_both_31 : decode cX10_both 31 = .ok (.aload_n 0, 1) := by decide +kernel
theorem dX10_both_32 : decode cX10_both 32 = .ok (.getfield 54, 3) := by decide +kernel
theorem dX10_both_35 : decode cX10_both 35 = .ok (.getfield 69, 3) := by decide +kernel
theorem dX10_both_38 : decode cX10_both 38 = .ok (.iload_n 2, 1) := by decide +kernel
theorem dX10_both_39 : decode cX10_both 39 = .ok (.invokevirtual 148, 3) := by decide +kernel
theorem dX10_both_42 : decode cX10_both 42 = .ok (.istore 5, 2) := by decide +kernel
theorem dX10_both_44 : decode cX10_both 44 = .ok (.iload_n 3, 1) := by decide +kernel
theorem dX10_both_45 : decode cX10_both 45 = .ok (.lookupswitch 60 #[(0, 27), (1, 40)], 27) := by decide +kernel
theorem dX10_both_72 : decode cX10_both 72 = .ok (.aload_n 0, 1) := by decide +kernel
theorem dX10_both_73 : decode cX10_both 73 = .ok (.getfield 54, 3) := by decide +kernel
theorem dX10_both_76 : decode cX10_both 76 = .ok (.iload 4, 2) := by decide +kernel
theorem dX10_both_78 : decode cX10_both 78 = .ok (.iload 5, 2) := by decide +kernel
theorem dX10_both_80 : decode cX10_both 80 = .ok (.ior, 1) := by decide +kernel
theorem dX10_both_81 : decode cX10_both 81 = .ok (.invokevirtual 199, 3) := by decide +kernel
theorem dX10_both_84 : decode cX10_both 84 = .ok (.ireturn, 1) := by decide +kernel
theorem dX10_both_85 : decode cX10_both 85 = .ok (.aload_n 0, 1) := by decide +kernel
theorem dX10_both_86 : decode cX10_both 86 = .ok (.getfield 54, 3) := by decide +kernel
theorem dX10_both_89 : decode cX10_both 89 = .ok (.aload_n 0, 1) := by decide +kernel
theorem dX10_both_90 : decode cX10_both 90 = .ok (.getfield 54, 3) := by decide +kernel
theorem dX10_both_93 : decode cX10_both 93 = .ok (.iload 4, 2) := by decide +kernel
theorem dX10_both_95 : decode cX10_both 95 = .ok (.iload 5, 2) := by decide +kernel
theorem dX10_both_97 : decode cX10_both 97 = .ok (.iand, 1) := by decide +kernel
theorem dX10_both_98 : decode cX10_both 98 = .ok (.invokevirtual 267, 3) := by decide +kernel
theorem dX10_both_101 : decode cX10_both 101 = .ok (.invokevirtual 199, 3) := by decide +kernel
theorem dX10_both_104 : decode cX10_both 104 = .ok (.ireturn, 1) := by decide +kernel
theorem dX10_both_105 : decode cX10_both 105 = .ok (.iconst (-1), 1) := by decide +kernel
theorem dX10_both_106 : decode cX10_both 106 = .ok (.ireturn, 1) := by decide +kernel
theorem dX10_unshared_0 : decode cX10_unshared 0 = .ok (.aload_n 0, 1) := by decide +kernel
theorem dX10_unshared_1 : decode cX10_unshared 1 = .ok (.getfield 54, 3) := by decide +kernel
theorem dX10_unshared_4 : decode cX10_unshared 4 = .ok (.getfield 69, 3) := by decide +kernel
theorem dX10_unshared_7 : decode cX10_unshared 7 = .ok (.getfield 100, 3) := by decide +kernel
theorem dX10_unshared_10 : decode cX10_unshared 10 = .ok (.istore_n 1, 1) := by decide +kernel
theorem dX10_unshared_11 : decode cX10_unshared 11 = .ok (.iload_n 1, 1) := by decide +kernel
theorem dX10_unshared_12 : decode cX10_unshared 12 = .ok (.bipush 40, 2) := by decide +kernel
theorem dX10_unshared_14 : decode cX10_unshared 14 = .ok (.if_icmp .le 6, 3) := by decide +kernel
theorem dX10_unshared_17 : decode cX10_unshared 17 = .ok (.bipush (-2), 2) := by decide +kernel
theorem dX10_unshared_19 : decode cX10_unshared 19 = .ok (.ireturn, 1) := by decide +kernel
theorem dX10_unshared_20 : decode cX10_unshared 20 = .ok (.iconst 0, 1) := by decide +kernel
theorem dX10_unshared_21 : decode cX10_unshared 21 = .ok (.istore_n 2, 1) := by decide +kernel
theorem dX10_unshared_22 : decode cX10_unshared 22 = .ok (.iload_n 2, 1) := by decide +kernel
theorem dX10_unshared_23 : decode cX10_unshared 23 = .ok (.iload_n 1, 1) := by decide +kernel
theorem dX10_unshared_24 : decode cX10_unshared 24 = .ok (.if_icmp .ge 95, 3) := by decide +kernel
theorem dX10_unshared_27 : decode cX10_unshared 27 = .ok (.iconst 0, 1) := by decide +kernel
theorem dX10_unshared_28 : decode cX10_unshared 28 = .ok (.istore_n 3, 1) := by decide +kernel
theorem dX10_unshared_29 : decode cX10_unshared 29 = .ok (.iload_n 3, 1) := by decide +kernel
theorem dX10_unshared_30 : decode cX10_unshared 30 = .ok (.iload_n 1, 1) := by decide +kernel
theorem dX10_unshared_31 : decode cX10_unshared 31 = .ok (.if_icmp .ge 82, 3) := by decide +kernel
theorem dX10_unshared_34 : decode cX10_unshared 34 = .ok (.iconst 0, 1) := by decide +kernel
theorem dX10_unshared_35 : decode cX10_unshared 35 = .ok (.istore 4, 2) := by decide +kernel
theorem dX10_unshared_37 : decode cX10_unshared 37 = .ok (.iload 4, 2) := by decide +kernel
theorem dX10_unshared_39 : decode cX10_unshared 39 = .ok (.iload_n 1, 1) := by decide +kernel
theorem dX10_unshared_40 : decode cX10_unshared 40 = .ok (.if_icmp .ge 67, 3) := by decide +kernel
theorem dX10_unshared_43 : decode cX10_unshared 43 = .ok (.aload_n 0, 1) := by decide +kernel
theorem dX10_unshared_44 : decode cX10_unshared 44 = .ok (.getfield 54, 3) := by decide +kernel
theorem dX10_unshared_47 : decode cX10_unshared 47 = .ok (.aload_n 0, 1) := by decide +kernel
theorem dX10_unshared_48 : decode cX10_unshared 48 = .ok (.getfield 54, 3) := by decide +kernel
theorem dX10_unshared_51 : decode cX10_unshared 51 = .ok (.getfield 69, 3) := by decide +kernel
theorem dX10_unshared_54 : decode cX10_unshared 54 = .ok (.iload_n 2, 1) := by decide +kernel
theorem dX10_unshared_55 : decode cX10_unshared 55 = .ok (.invokevirtual 148, 3) := by decide +kernel
theorem dX10_unshared_58 : decode cX10_unshared 58 = .ok (.aload_n 0, 1) := by decide +kernel
theorem dX10_unshared_59 : decode cX10_unshared 59 = .ok (.getfield 54, 3) := by decide +kernel
theorem dX10_unshared_62 : decode cX10_unshared 62 = .ok (.getfield 69, 3) := by decide +kernel
theorem dX10_unshared_65 : decode cX10_unshared 65 = .ok (.iload_n 3, 1) := by decide +kernel
theorem dX10_unshared_66 : decode cX10_unshared 66 = .ok (.invokevirtual 148, 3) := by decide +kernel
theorem dX10_unshared_69 : decode cX10_unshared 69 = .ok (.aload_n 0, 1) := by decide +kernel
theorem dX10_unshared_70 : decode cX10_unshared 70 = .ok (.getfield 54, 3) := by decide +kernel
theorem dX10_unshared_73 : decode cX10_unshared 73 = .ok (.getfield 69, 3) := by decide +kernel
theorem dX10_unshared_76 : decode cX10_unshared 76 = .ok (.iload 4, 2) := by decide +kernel
theorem dX10_unshared_78 : decode cX10_unshared 78 = .ok (.invokevirtual 148, 3) := by decide +kernel
theorem dX10_unshared_81 : decode cX10_unshared 81 = .ok (.invokevirtual 302, 3) := by decide +kernel
theorem dX10_unshared_84 : decode cX10_unshared 84 = .ok (.ifCond .ne 17, 3) := by decide +kernel
theorem dX10_unshared_87 : decode cX10_unshared 87 = .ok (.sipush 10000, 3) := by decide +kernel
theorem dX10_unshared_90 : decode cX10_unshared 90 = .ok (.iload_n 2, 1) := by decide +kernel
theorem dX10_unshared_91 : decode cX10_unshared 91 = .ok (.imul, 1) := by decide +kernel
theorem dX10_unshared_92 : decode cX10_unshared 92 = .ok (.bipush 100, 2) := by decide +kernel
theorem dX10_unshared_94 : decode cX10_unshared 94 = .ok (.iload_n 3, 1) := by decide +kernel
theorem dX10_unshared_95 : decode cX10_unshared 95 = .ok (.imul, 1) := by decide +kernel
theorem dX10_unshared_96 : decode cX10_unshared 96 = .ok (.iadd, 1) := by decide +kernel
theorem dX10_unshared_97 : decode cX10_unshared 97 = .ok (.iload 4, 2) := by decide +kernel
theorem dX10_unshared_99 : decode cX10_unshared 99 = .ok (.iadd, 1) := by decide +kernel
theorem dX10_unshared_100 : decode cX10_unshared 100 = .ok (.ireturn, 1) := by decide +kernel
theorem dX10_unshared_101 : decode cX10_unshared 101 = .ok (.iinc 4 1, 3) := by decide +kernel
theorem dX10_unshared_104 : decode cX10_unshared 104 = .ok (.goto (-67), 3) := by decide +kernel
theorem dX10_unshared_107 : decode cX10_unshared 107 = .ok (.iinc 3 1, 3) := by decide +kernel
theorem dX10_unshared_110 : decode cX10_unshared 110 = .ok (.goto (-81), 3) := by decide +kernel
theorem dX10_unshared_113 : decode cX10_unshared 113 = .ok (.iinc 2 1, 3) := by decide +kernel
theorem dX10_unshared_116 : decode cX10_unshared 116 = .ok (.goto (-94), 3) := by decide +kernel
theorem dX10_unshared_119 : decode cX10_unshared 119 = .ok (.bipush (-2), 2) := by decide +kernel
theorem dX10_unshared_121 : decode cX10_unshared 121 = .ok (.ireturn, 1) := by decide +kernel
theorem dX10_chain_0 : decode cX10_chain 0 = .ok (.aload_n 0, 1) := by decide +kernel
theorem dX10_chain_1 : decode cX10_chain 1 = .ok (.getfield 63, 3) := by decide +kernel
theorem dX10_chain_4 : decode cX10_chain 4 = .ok (.iload_n 1, 1) := by decide +kernel
theorem dX10_chain_5 : decode cX10_chain 5 = .ok (.invokevirtual 306, 3) := by decide +kernel
theorem dX10_chain_8 : decode cX10_chain 8 = .ok (.ireturn, 1) := by decide +kernel
theorem dX10_common_0 : decode cX10_common 0 = .ok (.aload_n 0, 1) := by decide +kernel
theorem dX10_common_1 : decode cX10_common 1 = .ok (.iload_n 1, 1) := by decide +kernel
theorem dX10_common_2 : decode cX10_common 2 = .ok (.invokevirtual 155, 3) := by decide +kernel
theorem dX10_common_5 : decode cX10_common 5 = .ok (.ifCond .eq 11, 3) := by decide +kernel
theorem dX10_common_8 : decode cX10_common 8 = .ok (.aload_n 0, 1) := by decide +kernel
theorem dX10_common_9 : decode cX10_common 9 = .ok (.iload_n 2, 1) := by decide +kernel
theorem dX10_common_10 : decode cX10_common 10 = .ok (.invokevirtual 155, 3) := by decide +kernel
theorem dX10_common_13 : decode cX10_common 13 = .ok (.ifCond .ne 5, 3) := by decide +kernel
theorem dX10_common_16 : decode cX10_common 16 = .ok (.iconst (-1), 1) := by decide +kernel
theorem dX10_common_17 : decode cX10_common 17 = .ok (.ireturn, 1) := by decide +kernel
theorem dX10_common_18 : decode cX10_common 18 = .ok (.aload_n 0, 1) := by decide +kernel
theorem dX10_common_19 : decode cX10_common 19 = .ok (.getfield 54, 3) := by decide +kernel
theorem dX10_common_22 : decode cX10_common 22 = .ok (.iconst 1, 1) := by decide +kernel
theorem dX10_common_23 : decode cX10_common 23 = .ok (.iload_n 1, 1) := by decide +kernel
theorem dX10_common_24 : decode cX10_common 24 = .ok (.ishl, 1) := by decide +kernel
theorem dX10_common_25 : decode cX10_common 25 = .ok (.iconst 1, 1) := by decide +kernel
theorem dX10_common_26 : decode cX10_common 26 = .ok (.iload_n 2, 1) := by decide +kernel
theorem dX10_common_27 : decode cX10_common 27 = .ok (.ishl, 1) := by decide +kernel
theorem dX10_common_28 : decode cX10_common 28 = .ok (.ior, 1) := by decide +kernel
theorem dX10_common_29 : decode cX10_common 29 = .ok (.invokevirtual 309, 3) := by decide +kernel
theorem dX10_common_32 : decode cX10_common 32 = .ok (.ireturn, 1) := by decide +kernel
theorem dX10_ranked_0 : decode cX10_ranked 0 = .ok (.aload_n 0, 1) := by decide +kernel
theorem dX10_ranked_1 : decode cX10_ranked 1 = .ok (.getfield 54, 3) := by decide +kernel
theorem dX10_ranked_4 : decode cX10_ranked 4 = .ok (.iload_n 1, 1) := by decide +kernel
theorem dX10_ranked_5 : decode cX10_ranked 5 = .ok (.invokevirtual 223, 3) := by decide +kernel
theorem dX10_ranked_8 : decode cX10_ranked 8 = .ok (.ireturn, 1) := by decide +kernel
theorem dX10_nested_0 : decode cX10_nested 0 = .ok (.aload_n 0, 1) := by decide +kernel
theorem dX10_nested_1 : decode cX10_nested 1 = .ok (.iload_n 1, 1) := by decide +kernel
theorem dX10_nested_2 : decode cX10_nested 2 = .ok (.invokevirtual 202, 3) := by decide +kernel
theorem dX10_nested_5 : decode cX10_nested 5 = .ok (.ifCond .ne 5, 3) := by decide +kernel
theorem dX10_nested_8 : decode cX10_nested 8 = .ok (.iconst (-1), 1) := by decide +kernel
theorem dX10_nested_9 : decode cX10_nested 9 = .ok (.ireturn, 1) := by decide +kernel
theorem dX10_nested_10 : decode cX10_nested 10 = .ok (.iload_n 2, 1) := by decide +kernel
theorem dX10_nested_11 : decode cX10_nested 11 = .ok (.ifCond .eq 14, 3) := by decide +kernel
theorem dX10_nested_14 : decode cX10_nested 14 = .ok (.aload_n 0, 1) := by decide +kernel
theorem dX10_nested_15 : decode cX10_nested 15 = .ok (.getfield 54, 3) := by decide +kernel
theorem dX10_nested_18 : decode cX10_nested 18 = .ok (.iload_n 1, 1) := by decide +kernel
theorem dX10_nested_19 : decode cX10_nested 19 = .ok (.invokevirtual 309, 3) := by decide +kernel
theorem dX10_nested_22 : decode cX10_nested 22 = .ok (.goto 11, 3) := by decide +kernel
theorem dX10_nested_25 : decode cX10_nested 25 = .ok (.aload_n 0, 1) := by decide +kernel
theorem dX10_nested_26 : decode cX10_nested 26 = .ok (.getfield 54, 3) := by decide +kernel
theorem dX10_nested_29 : decode cX10_nested 29 = .ok (.iload_n 1, 1) := by decide +kernel
theorem dX10_nested_30 : decode cX10_nested 30 = .ok (.invokevirtual 312, 3) := by decide +kernel
theorem dX10_nested_33 : decode cX10_nested 33 = .ok (.ireturn, 1) := by decide +kernel
theorem dX10_crossing_0 : decode cX10_crossing 0 = .ok (.aload_n 0, 1) := by decide +kernel
theorem dX10_crossing_1 : decode cX10_crossing 1 = .ok (.getfield 54, 3) := by decide +kernel
theorem dX10_crossing_4 : decode cX10_crossing 4 = .ok (.invokevirtual 315, 3) := by decide +kernel
theorem dX10_crossing_7 : decode cX10_crossing 7 = .ok (.invokestatic 195, 3) := by decide +kernel
theorem dX10_crossing_10 : decode cX10_crossing 10 = .ok (.ireturn, 1) := by decide +kernel
theorem dX10_parts_0 : decode cX10_parts 0 = .ok (.aload_n 0, 1) := by decide +kernel
theorem dX10_parts_1 : decode cX10_parts 1 = .ok (.getfield 54, 3) := by decide +kernel
theorem dX10_parts_4 : decode cX10_parts 4 = .ok (.invokevirtual 319, 3) := by decide +kernel
theorem dX10_parts_7 : decode cX10_parts 7 = .ok (.ireturn, 1) := by decide +kernel
theorem dX10_shattered_0 : decode cX10_shattered 0 = .ok (.aload_n 0, 1) := by decide +kernel
theorem dX10_shattered_1 : decode cX10_shattered 1 = .ok (.iload_n 1, 1) := by decide +kernel
theorem dX10_shattered_2 : decode cX10_shattered 2 = .ok (.invokevirtual 202, 3) := by decide +kernel
theorem dX10_shattered_5 : decode cX10_shattered 5 = .ok (.ifCond .eq 17, 3) := by decide +kernel
theorem dX10_shattered_8 : decode cX10_shattered 8 = .ok (.aload_n 0, 1) := by decide +kernel
theorem dX10_shattered_9 : decode cX10_shattered 9 = .ok (.getfield 82, 3) := by decide +kernel
theorem dX10_shattered_12 : decode cX10_shattered 12 = .ok (.iload_n 1, 1) := by decide +kernel
theorem dX10_shattered_13 : decode cX10_shattered 13 = .ok (.invokevirtual 322, 3) := by decide +kernel
theorem dX10_shattered_16 : decode cX10_shattered 16 = .ok (.invokestatic 195, 3) := by decide +kernel
theorem dX10_shattered_19 : decode cX10_shattered 19 = .ok (.goto 4, 3) := by decide +kernel
theorem dX10_shattered_22 : decode cX10_shattered 22 = .ok (.iconst (-1), 1) := by decide +kernel
theorem dX10_shattered_23 : decode cX10_shattered 23 = .ok (.ireturn, 1) := by decide +kernel
theorem dX10_fewest_0 : decode cX10_fewest 0 = .ok (.aload_n 0, 1) := by decide +kernel
theorem dX10_fewest_1 : decode cX10_fewest 1 = .ok (.iload_n 1, 1) := by decide +kernel
theorem dX10_fewest_2 : decode cX10_fewest 2 = .ok (.invokevirtual 202, 3) := by decide +kernel
theorem dX10_fewest_5 : decode cX10_fewest 5 = .ok (.ifCond .eq 14, 3) := by decide +kernel
theorem dX10_fewest_8 : decode cX10_fewest 8 = .ok (.aload_n 0, 1) := by decide +kernel
theorem dX10_fewest_9 : decode cX10_fewest 9 = .ok (.getfield 54, 3) := by decide +kernel
theorem dX10_fewest_12 : decode cX10_fewest 12 = .ok (.iload_n 1, 1) := by decide +kernel
theorem dX10_fewest_13 : decode cX10_fewest 13 = .ok (.invokevirtual 325, 3) := by decide +kernel
theorem dX10_fewest_16 : decode cX10_fewest 16 = .ok (.goto 4, 3) := by decide +kernel
theorem dX10_fewest_19 : decode cX10_fewest 19 = .ok (.iconst (-1), 1) := by decide +kernel
theorem dX10_fewest_20 : decode cX10_fewest 20 = .ok (.ireturn, 1) := by decide +kernel
theorem dX10_withSet_0 : decode cX10_withSet 0 = .ok (.aload_n 0, 1) := by decide +kernel
theorem dX10_withSet_1 : decode cX10_withSet 1 = .ok (.iload_n 1, 1) := by decide +kernel
theorem dX10_withSet_2 : decode cX10_withSet 2 = .ok (.invokevirtual 128, 3) := by decide +kernel
theorem dX10_withSet_5 : decode cX10_withSet 5 = .ok (.ifCond .eq 25, 3) := by decide +kernel
theorem dX10_withSet_8 : decode cX10_withSet 8 = .ok (.aload_n 0, 1) := by decide +kernel
theorem dX10_withSet_9 : decode cX10_withSet 9 = .ok (.getfield 54, 3) := by decide +kernel
theorem dX10_withSet_12 : decode cX10_withSet 12 = .ok (.getfield 69, 3) := by decide +kernel
theorem dX10_withSet_15 : decode cX10_withSet 15 = .ok (.getfield 100, 3) := by decide +kernel
theorem dX10_withSet_18 : decode cX10_withSet 18 = .ok (.aload_n 0, 1) := by decide +kernel
theorem dX10_withSet_19 : decode cX10_withSet 19 = .ok (.getfield 89, 3) := by decide +kernel
theorem dX10_withSet_22 : decode cX10_withSet 22 = .ok (.iload_n 1, 1) := by decide +kernel
theorem dX10_withSet_23 : decode cX10_withSet 23 = .ok (.invokevirtual 328, 3) := by decide +kernel
theorem dX10_withSet_26 : decode cX10_withSet 26 = .ok (.iadd, 1) := by decide +kernel
theorem dX10_withSet_27 : decode cX10_withSet 27 = .ok (.goto 4, 3) := by decide +kernel
theorem dX10_withSet_30 : decode cX10_withSet 30 = .ok (.iconst (-1), 1) := by decide +kernel
theorem dX10_withSet_31 : decode cX10_withSet 31 = .ok (.ireturn, 1) := by decide +kernel
theorem dX10_withoutGenerator_0 : decode cX10_withoutGenerator 0 = .ok (.aload_n 0, 1) := by decide +kernel
theorem dX10_withoutGenerator_1 : decode cX10_withoutGenerator 1 = .ok (.iload_n 1, 1) := by decide +kernel
theorem dX10_withoutGenerator_2 : decode cX10_withoutGenerator 2 = .ok (.invokevirtual 142, 3) := by decide +kernel
theorem dX10_withoutGenerator_5 : decode cX10_withoutGenerator 5 = .ok (.ifCond .eq 21, 3) := by decide +kernel
theorem dX10_withoutGenerator_8 : decode cX10_withoutGenerator 8 = .ok (.aload_n 0, 1) := by decide +kernel
theorem dX10_withoutGenerator_9 : decode cX10_withoutGenerator 9 = .ok (.getfield 89, 3) := by decide +kernel
theorem dX10_withoutGenerator_12 : decode cX10_withoutGenerator 12 = .ok (.aload_n 0, 1) := by decide +kernel
theorem dX10_withoutGenerator_13 : decode cX10_withoutGenerator 13 = .ok (.getfield 10, 3) := by decide +kernel
theorem dX10_withoutGenerator_16 : decode cX10_withoutGenerator 16 = .ok (.getfield 125, 3) := by decide +kernel
theorem dX10_withoutGenerator_19 : decode cX10_withoutGenerator 19 = .ok (.iload_n 1, 1) := by decide +kernel
theorem dX10_withoutGenerator_20 : decode cX10_withoutGenerator 20 = .ok (.invokevirtual 331, 3) := by decide +kernel
theorem dX10_withoutGenerator_23 : decode cX10_withoutGenerator 23 = .ok (.goto 4, 3) := by decide +kernel
theorem dX10_withoutGenerator_26 : decode cX10_withoutGenerator 26 = .ok (.iconst (-1), 1) := by decide +kernel
theorem dX10_withoutGenerator_27 : decode cX10_withoutGenerator 27 = .ok (.ireturn, 1) := by decide +kernel
theorem dX10_gentlest_0 : decode cX10_gentlest 0 = .ok (.aload_n 0, 1) := by decide +kernel
theorem dX10_gentlest_1 : decode cX10_gentlest 1 = .ok (.getfield 89, 3) := by decide +kernel
theorem dX10_gentlest_4 : decode cX10_gentlest 4 = .ok (.invokevirtual 335, 3) := by decide +kernel
theorem dX10_gentlest_7 : decode cX10_gentlest 7 = .ok (.ireturn, 1) := by decide +kernel
theorem dX10_spoiler_0 : decode cX10_spoiler 0 = .ok (.aload_n 0, 1) := by decide +kernel
theorem dX10_spoiler_1 : decode cX10_spoiler 1 = .ok (.getfield 89, 3) := by decide +kernel
theorem dX10_spoiler_4 : decode cX10_spoiler 4 = .ok (.invokevirtual 338, 3) := by decide +kernel
theorem dX10_spoiler_7 : decode cX10_spoiler 7 = .ok (.ireturn, 1) := by decide +kernel
theorem dX10_proof_0 : decode cX10_proof 0 = .ok (.iconst 1, 1) := by decide +kernel
theorem dX10_proof_1 : decode cX10_proof 1 = .ok (.istore_n 1, 1) := by decide +kernel
theorem dX10_proof_2 : decode cX10_proof 2 = .ok (.iconst 0, 1) := by decide +kernel
theorem dX10_proof_3 : decode cX10_proof 3 = .ok (.istore_n 2, 1) := by decide +kernel
theorem dX10_proof_4 : decode cX10_proof 4 = .ok (.iload_n 2, 1) := by decide +kernel
theorem dX10_proof_5 : decode cX10_proof 5 = .ok (.aload_n 0, 1) := by decide +kernel
theorem dX10_proof_6 : decode cX10_proof 6 = .ok (.getfield 10, 3) := by decide +kernel
theorem dX10_proof_9 : decode cX10_proof 9 = .ok (.getfield 171, 3) := by decide +kernel
theorem dX10_proof_12 : decode cX10_proof 12 = .ok (.if_icmp .ge 13, 3) := by decide +kernel
theorem dX10_proof_15 : decode cX10_proof 15 = .ok (.iload_n 1, 1) := by decide +kernel
theorem dX10_proof_16 : decode cX10_proof 16 = .ok (.iconst 3, 1) := by decide +kernel
theorem dX10_proof_17 : decode cX10_proof 17 = .ok (.imul, 1) := by decide +kernel
theorem dX10_proof_18 : decode cX10_proof 18 = .ok (.istore_n 1, 1) := by decide +kernel
theorem dX10_proof_19 : decode cX10_proof 19 = .ok (.iinc 2 1, 3) := by decide +kernel
theorem dX10_proof_22 : decode cX10_proof 22 = .ok (.goto (-18), 3) := by decide +kernel
theorem dX10_proof_25 : decode cX10_proof 25 = .ok (.bipush (-2), 2) := by decide +kernel
theorem dX10_proof_27 : decode cX10_proof 27 = .ok (.istore_n 2, 1) := by decide +kernel
theorem dX10_proof_28 : decode cX10_proof 28 = .ok (.ldc_w 341, 3) := by decide +kernel
theorem dX10_proof_31 : decode cX10_proof 31 = .ok (.istore_n 3, 1) := by decide +kernel
theorem dX10_proof_32 : decode cX10_proof 32 = .ok (.iconst 1, 1) := by decide +kernel
theorem dX10_proof_33 : decode cX10_proof 33 = .ok (.istore 4, 2) := by decide +kernel
theorem dX10_proof_35 : decode cX10_proof 35 = .ok (.iload 4, 2) := by decide +kernel
theorem dX10_proof_37 : decode cX10_proof 37 = .ok (.iload_n 1, 1) := by decide +kernel
theorem dX10_proof_38 : decode cX10_proof 38 = .ok (.if_icmp .ge 45, 3) := by decide +kernel
theorem dX10_proof_41 : decode cX10_proof 41 = .ok (.aload_n 0, 1) := by decide +kernel
theorem dX10_proof_42 : decode cX10_proof 42 = .ok (.iload 4, 2) := by decide +kernel
theorem dX10_proof_44 : decode cX10_proof 44 = .ok (.invokevirtual 342, 3) := by decide +kernel
theorem dX10_proof_47 : decode cX10_proof 47 = .ok (.istore 5, 2) := by decide +kernel
theorem dX10_proof_49 : decode cX10_proof 49 = .ok (.iload 5, 2) := by decide +kernel
theorem dX10_proof_51 : decode cX10_proof 51 = .ok (.iload_n 3, 1) := by decide +kernel
theorem dX10_proof_52 : decode cX10_proof 52 = .ok (.if_icmp .ge 25, 3) := by decide +kernel
theorem dX10_proof_55 : decode cX10_proof 55 = .ok (.aload_n 0, 1) := by decide +kernel
theorem dX10_proof_56 : decode cX10_proof 56 = .ok (.getfield 54, 3) := by decide +kernel
theorem dX10_proof_59 : decode cX10_proof 59 = .ok (.aload_n 0, 1) := by decide +kernel
theorem dX10_proof_60 : decode cX10_proof 60 = .ok (.getfield 93, 3) := by decide +kernel
theorem dX10_proof_63 : decode cX10_proof 63 = .ok (.invokevirtual 241, 3) := by decide +kernel
theorem dX10_proof_66 : decode cX10_proof 66 = .ok (.ifCond .eq 11, 3) := by decide +kernel
theorem dX10_proof_69 : decode cX10_proof 69 = .ok (.iload 5, 2) := by decide +kernel
theorem dX10_proof_71 : decode cX10_proof 71 = .ok (.istore_n 3, 1) := by decide +kernel
theorem dX10_proof_72 : decode cX10_proof 72 = .ok (.aload_n 0, 1) := by decide +kernel
theorem dX10_proof_73 : decode cX10_proof 73 = .ok (.invokevirtual 345, 3) := by decide +kernel
theorem dX10_proof_76 : decode cX10_proof 76 = .ok (.istore_n 2, 1) := by decide +kernel
theorem dX10_proof_77 : decode cX10_proof 77 = .ok (.iinc 4 1, 3) := by decide +kernel
theorem dX10_proof_80 : decode cX10_proof 80 = .ok (.goto (-45), 3) := by decide +kernel
theorem dX10_proof_83 : decode cX10_proof 83 = .ok (.iload_n 2, 1) := by decide +kernel
theorem dX10_proof_84 : decode cX10_proof 84 = .ok (.ireturn, 1) := by decide +kernel
theorem dX10_listed_0 : decode cX10_listed 0 = .ok (.aload_n 0, 1) := by decide +kernel
theorem dX10_listed_1 : decode cX10_listed 1 = .ok (.getfield 10, 3) := by decide +kernel
theorem dX10_listed_4 : decode cX10_listed 4 = .ok (.getfield 114, 3) := by decide +kernel
theorem dX10_listed_7 : decode cX10_listed 7 = .ok (.iload_n 1, 1) := by decide +kernel
theorem dX10_listed_8 : decode cX10_listed 8 = .ok (.invokevirtual 148, 3) := by decide +kernel
theorem dX10_listed_11 : decode cX10_listed 11 = .ok (.ireturn, 1) := by decide +kernel
theorem dX10_refused_0 : decode cX10_refused 0 = .ok (.iload_n 1, 1) := by decide +kernel
theorem dX10_refused_1 : decode cX10_refused 1 = .ok (.ifCond .lt 8, 3) := by decide +kernel
theorem dX10_refused_4 : decode cX10_refused 4 = .ok (.iload_n 1, 1) := by decide +kernel
theorem dX10_refused_5 : decode cX10_refused 5 = .ok (.iconst 2, 1) := by decide +kernel
theorem dX10_refused_6 : decode cX10_refused 6 = .ok (.if_icmp .le 5, 3) := by decide +kernel
theorem dX10_refused_9 : decode cX10_refused 9 = .ok (.iconst (-1), 1) := by decide +kernel
theorem dX10_refused_10 : decode cX10_refused 10 = .ok (.ireturn, 1) := by decide +kernel
theorem dX10_refused_11 : decode cX10_refused 11 = .ok (.iconst 0, 1) := by decide +kernel
theorem dX10_refused_12 : decode cX10_refused 12 = .ok (.istore_n 2, 1) := by decide +kernel
theorem dX10_refused_13 : decode cX10_refused 13 = .ok (.iload_n 2, 1) := by decide +kernel
theorem dX10_refused_14 : decode cX10_refused 14 = .ok (.aload_n 0, 1) := by decide +kernel
theorem dX10_refused_15 : decode cX10_refused 15 = .ok (.getfield 10, 3) := by decide +kernel
theorem dX10_refused_18 : decode cX10_refused 18 = .ok (.getfield 114, 3) := by decide +kernel
theorem dX10_refused_21 : decode cX10_refused 21 = .ok (.getfield 100, 3) := by decide +kernel
theorem dX10_refused_24 : decode cX10_refused 24 = .ok (.if_icmp .ge 94, 3) := by decide +kernel
theorem dX10_refused_27 : decode cX10_refused 27 = .ok (.iload_n 2, 1) := by decide +kernel
theorem dX10_refused_28 : decode cX10_refused 28 = .ok (.iconst 1, 1) := by decide +kernel
theorem dX10_refused_29 : decode cX10_refused 29 = .ok (.iadd, 1) := by decide +kernel
theorem dX10_refused_30 : decode cX10_refused 30 = .ok (.istore_n 3, 1) := by decide +kernel
theorem dX10_refused_31 : decode cX10_refused 31 = .ok (.iload_n 3, 1) := by decide +kernel
theorem dX10_refused_32 : decode cX10_refused 32 = .ok (.aload_n 0, 1) := by decide +kernel
theorem dX10_refused_33 : decode cX10_refused 33 = .ok (.getfield 10, 3) := by decide +kernel
theorem dX10_refused_36 : decode cX10_refused 36 = .ok (.getfield 114, 3) := by decide +kernel
theorem dX10_refused_39 : decode cX10_refused 39 = .ok (.getfield 100, 3) := by decide +kernel
theorem dX10_refused_42 : decode cX10_refused 42 = .ok (.if_icmp .ge 70, 3) := by decide +kernel
theorem dX10_refused_45 : decode cX10_refused 45 = .ok (.aload_n 0, 1) := by decide +kernel
theorem dX10_refused_46 : decode cX10_refused 46 = .ok (.getfield 10, 3) := by decide +kernel
theorem dX10_refused_49 : decode cX10_refused 49 = .ok (.getfield 114, 3) := by decide +kernel
theorem dX10_refused_52 : decode cX10_refused 52 = .ok (.iload_n 2, 1) := by decide +kernel
theorem dX10_refused_53 : decode cX10_refused 53 = .ok (.invokevirtual 148, 3) := by decide +kernel
theorem dX10_refused_56 : decode cX10_refused 56 = .ok (.aload_n 0, 1) := by decide +kernel
theorem dX10_refused_57 : decode cX10_refused 57 = .ok (.getfield 10, 3) := by decide +kernel
theorem dX10_refused_60 : decode cX10_refused 60 = .ok (.getfield 114, 3) := by decide +kernel
theorem dX10_refused_63 : decode cX10_refused 63 = .ok (.iload_n 3, 1) := by decide +kernel
theorem dX10_refused_64 : decode cX10_refused 64 = .ok (.invokevirtual 148, 3) := by decide +kernel
theorem dX10_refused_67 : decode cX10_refused 67 = .ok (.ior, 1) := by decide +kernel
theorem dX10_refused_68 : decode cX10_refused 68 = .ok (.istore 4, 2) := by decide +kernel
theorem dX10_refused_70 : decode cX10_refused 70 = .ok (.aload_n 0, 1) := by decide +kernel
theorem dX10_refused_71 : decode cX10_refused 71 = .ok (.getfield 10, 3) := by decide +kernel
theorem dX10_refused_74 : decode cX10_refused 74 = .ok (.getfield 114, 3) := by decide +kernel
theorem dX10_refused_77 : decode cX10_refused 77 = .ok (.iload 4, 2) := by decide +kernel
theorem dX10_refused_79 : decode cX10_refused 79 = .ok (.invokevirtual 132, 3) := by decide +kernel
theorem dX10_refused_82 : decode cX10_refused 82 = .ok (.iconst (-1), 1) := by decide +kernel
theorem dX10_refused_83 : decode cX10_refused 83 = .ok (.if_icmp .ne 23, 3) := by decide +kernel
theorem dX10_refused_86 : decode cX10_refused 86 = .ok (.iload_n 1, 1) := by decide +kernel
theorem dX10_refused_87 : decode cX10_refused 87 = .ok (.ifCond .ne 7, 3) := by decide +kernel
theorem dX10_refused_90 : decode cX10_refused 90 = .ok (.iload_n 2, 1) := by decide +kernel
theorem dX10_refused_91 : decode cX10_refused 91 = .ok (.goto 14, 3) := by decide +kernel
theorem dX10_refused_94 : decode cX10_refused 94 = .ok (.iload_n 1, 1) := by decide +kernel
theorem dX10_refused_95 : decode cX10_refused 95 = .ok (.iconst 1, 1) := by decide +kernel
theorem dX10_refused_96 : decode cX10_refused 96 = .ok (.if_icmp .ne 7, 3) := by decide +kernel
theorem dX10_refused_99 : decode cX10_refused 99 = .ok (.iload_n 3, 1) := by decide +kernel
theorem dX10_refused_100 : decode cX10_refused 100 = .ok (.goto 5, 3) := by decide +kernel
theorem dX10_refused_103 : decode cX10_refused 103 = .ok (.iload 4, 2) := by decide +kernel
theorem dX10_refused_105 : decode cX10_refused 105 = .ok (.ireturn, 1) := by decide +kernel
theorem dX10_refused_106 : decode cX10_refused 106 = .ok (.iinc 3 1, 3) := by decide +kernel
theorem dX10_refused_109 : decode cX10_refused 109 = .ok (.goto (-78), 3) := by decide +kernel
theorem dX10_refused_112 : decode cX10_refused 112 = .ok (.iinc 2 1, 3) := by decide +kernel
theorem dX10_refused_115 : decode cX10_refused 115 = .ok (.goto (-102), 3) := by decide +kernel
theorem dX10_refused_118 : decode cX10_refused 118 = .ok (.bipush (-2), 2) := by decide +kernel
theorem dX10_refused_120 : decode cX10_refused 120 = .ok (.ireturn, 1) := by decide +kernel
theorem dX10_needs_0 : decode cX10_needs 0 = .ok (.aload_n 0, 1) := by decide +kernel
theorem dX10_needs_1 : decode cX10_needs 1 = .ok (.getfield 89, 3) := by decide +kernel
theorem dX10_needs_4 : decode cX10_needs 4 = .ok (.aload_n 0, 1) := by decide +kernel
theorem dX10_needs_5 : decode cX10_needs 5 = .ok (.getfield 10, 3) := by decide +kernel
theorem dX10_needs_8 : decode cX10_needs 8 = .ok (.getfield 114, 3) := by decide +kernel
theorem dX10_needs_11 : decode cX10_needs 11 = .ok (.iconst (-1), 1) := by decide +kernel
theorem dX10_needs_12 : decode cX10_needs 12 = .ok (.invokevirtual 331, 3) := by decide +kernel
theorem dX10_needs_15 : decode cX10_needs 15 = .ok (.iconst 1, 1) := by decide +kernel
theorem dX10_needs_16 : decode cX10_needs 16 = .ok (.isub, 1) := by decide +kernel
theorem dX10_needs_17 : decode cX10_needs 17 = .ok (.aload_n 0, 1) := by decide +kernel
theorem dX10_needs_18 : decode cX10_needs 18 = .ok (.getfield 10, 3) := by decide +kernel
theorem dX10_needs_21 : decode cX10_needs 21 = .ok (.getfield 114, 3) := by decide +kernel
theorem dX10_needs_24 : decode cX10_needs 24 = .ok (.getfield 100, 3) := by decide +kernel
theorem dX10_needs_27 : decode cX10_needs 27 = .ok (.isub, 1) := by decide +kernel
theorem dX10_needs_28 : decode cX10_needs 28 = .ok (.ireturn, 1) := by decide +kernel
theorem dX10_spell_0 : decode cX10_spell 0 = .ok (.iload_n 1, 1) := by decide +kernel
theorem dX10_spell_1 : decode cX10_spell 1 = .ok (.iconst (-1), 1) := by decide +kernel
theorem dX10_spell_2 : decode cX10_spell 2 = .ok (.if_icmp .ge 5, 3) := by decide +kernel
theorem dX10_spell_5 : decode cX10_spell 5 = .ok (.iconst (-1), 1) := by decide +kernel
theorem dX10_spell_6 : decode cX10_spell 6 = .ok (.ireturn, 1) := by decide +kernel
theorem dX10_spell_7 : decode cX10_spell 7 = .ok (.aload_n 0, 1) := by decide +kernel
theorem dX10_spell_8 : decode cX10_spell 8 = .ok (.getfield 47, 3) := by decide +kernel
theorem dX10_spell_11 : decode cX10_spell 11 = .ok (.aload_n 0, 1) := by decide +kernel
theorem dX10_spell_12 : decode cX10_spell 12 = .ok (.getfield 10, 3) := by decide +kernel
theorem dX10_spell_15 : decode cX10_spell 15 = .ok (.invokevirtual 348, 3) := by decide +kernel
theorem dX10_spell_18 : decode cX10_spell 18 = .ok (.iload_n 1, 1) := by decide +kernel
theorem dX10_spell_19 : decode cX10_spell 19 = .ok (.iconst (-1), 1) := by decide +kernel
theorem dX10_spell_20 : decode cX10_spell 20 = .ok (.if_icmp .ne 14, 3) := by decide +kernel
theorem dX10_spell_23 : decode cX10_spell 23 = .ok (.aload_n 0, 1) := by decide +kernel
theorem dX10_spell_24 : decode cX10_spell 24 = .ok (.getfield 47, 3) := by decide +kernel
theorem dX10_spell_27 : decode cX10_spell 27 = .ok (.getfield 351, 3) := by decide +kernel
theorem dX10_spell_30 : decode cX10_spell 30 = .ok (.getfield 100, 3) := by decide +kernel
theorem dX10_spell_33 : decode cX10_spell 33 = .ok (.ireturn, 1) := by decide +kernel
theorem dX10_spell_34 : decode cX10_spell 34 = .ok (.iload_n 1, 1) := by decide +kernel
theorem dX10_spell_35 : decode cX10_spell 35 = .ok (.aload_n 0, 1) := by decide +kernel
theorem dX10_spell_36 : decode cX10_spell 36 = .ok (.getfield 47, 3) := by decide +kernel
theorem dX10_spell_39 : decode cX10_spell 39 = .ok (.getfield 351, 3) := by decide +kernel
theorem dX10_spell_42 : decode cX10_spell 42 = .ok (.getfield 100, 3) := by decide +kernel
theorem dX10_spell_45 : decode cX10_spell 45 = .ok (.if_icmp .ge 17, 3) := by decide +kernel
theorem dX10_spell_48 : decode cX10_spell 48 = .ok (.aload_n 0, 1) := by decide +kernel
theorem dX10_spell_49 : decode cX10_spell 49 = .ok (.getfield 47, 3) := by decide +kernel
theorem dX10_spell_52 : decode cX10_spell 52 = .ok (.getfield 351, 3) := by decide +kernel
theorem dX10_spell_55 : decode cX10_spell 55 = .ok (.iload_n 1, 1) := by decide +kernel
theorem dX10_spell_56 : decode cX10_spell 56 = .ok (.invokevirtual 148, 3) := by decide +kernel
theorem dX10_spell_59 : decode cX10_spell 59 = .ok (.goto 5, 3) := by decide +kernel
theorem dX10_spell_62 : decode cX10_spell 62 = .ok (.bipush (-2), 2) := by decide +kernel
theorem dX10_spell_64 : decode cX10_spell 64 = .ok (.ireturn, 1) := by decide +kernel
theorem dX10_count_0 : decode cX10_count 0 = .ok (.iload_n 1, 1) := by decide +kernel
theorem dX10_count_1 : decode cX10_count 1 = .ok (.tableswitch 113 0 6 #[43, 51, 62, 73, 81, 89, 94], 43) := by decide +kernel
theorem dX10_count_44 : decode cX10_count 44 = .ok (.aload_n 0, 1) := by decide +kernel
theorem dX10_count_45 : decode cX10_count 45 = .ok (.getfield 10, 3) := by decide +kernel
theorem dX10_count_48 : decode cX10_count 48 = .ok (.getfield 171, 3) := by decide +kernel
theorem dX10_count_51 : decode cX10_count 51 = .ok (.ireturn, 1) := by decide +kernel
theorem dX10_count_52 : decode cX10_count 52 = .ok (.aload_n 0, 1) := by decide +kernel
theorem dX10_count_53 : decode cX10_count 53 = .ok (.getfield 10, 3) := by decide +kernel
theorem dX10_count_56 : decode cX10_count 56 = .ok (.getfield 125, 3) := by decide +kernel
theorem dX10_count_59 : decode cX10_count 59 = .ok (.getfield 100, 3) := by decide +kernel
theorem dX10_count_62 : decode cX10_count 62 = .ok (.ireturn, 1) := by decide +kernel
theorem dX10_count_63 : decode cX10_count 63 = .ok (.aload_n 0, 1) := by decide +kernel
theorem dX10_count_64 : decode cX10_count 64 = .ok (.getfield 10, 3) := by decide +kernel
theorem dX10_count_67 : decode cX10_count 67 = .ok (.getfield 114, 3) := by decide +kernel
theorem dX10_count_70 : decode cX10_count 70 = .ok (.getfield 100, 3) := by decide +kernel
theorem dX10_count_73 : decode cX10_count 73 = .ok (.ireturn, 1) := by decide +kernel
theorem dX10_count_74 : decode cX10_count 74 = .ok (.aload_n 0, 1) := by decide +kernel
theorem dX10_count_75 : decode cX10_count 75 = .ok (.getfield 22, 3) := by decide +kernel
theorem dX10_count_78 : decode cX10_count 78 = .ok (.getfield 191, 3) := by decide +kernel
theorem dX10_count_81 : decode cX10_count 81 = .ok (.ireturn, 1) := by decide +kernel
theorem dX10_count_82 : decode cX10_count 82 = .ok (.aload_n 0, 1) := by decide +kernel
theorem dX10_count_83 : decode cX10_count 83 = .ok (.getfield 31, 3) := by decide +kernel
theorem dX10_count_86 : decode cX10_count 86 = .ok (.getfield 100, 3) := by decide +kernel
theorem dX10_count_89 : decode cX10_count 89 = .ok (.ireturn, 1) := by decide +kernel
theorem dX10_count_90 : decode cX10_count 90 = .ok (.aload_n 0, 1) := by decide +kernel
theorem dX10_count_91 : decode cX10_count 91 = .ok (.invokevirtual 354, 3) := by decide +kernel
theorem dX10_count_94 : decode cX10_count 94 = .ok (.ireturn, 1) := by decide +kernel
theorem dX10_count_95 : decode cX10_count 95 = .ok (.aload_n 0, 1) := by decide +kernel
theorem dX10_count_96 : decode cX10_count 96 = .ok (.getfield 10, 3) := by decide +kernel
theorem dX10_count_99 : decode cX10_count 99 = .ok (.iconst 1, 1) := by decide +kernel
theorem dX10_count_100 : decode cX10_count 100 = .ok (.aload_n 0, 1) := by decide +kernel
theorem dX10_count_101 : decode cX10_count 101 = .ok (.getfield 10, 3) := by decide +kernel
theorem dX10_count_104 : decode cX10_count 104 = .ok (.getfield 171, 3) := by decide +kernel
theorem dX10_count_107 : decode cX10_count 107 = .ok (.ishl, 1) := by decide +kernel
theorem dX10_count_108 : decode cX10_count 108 = .ok (.iconst 1, 1) := by decide +kernel
theorem dX10_count_109 : decode cX10_count 109 = .ok (.isub, 1) := by decide +kernel
theorem dX10_count_110 : decode cX10_count 110 = .ok (.invokevirtual 264, 3) := by decide +kernel
theorem dX10_count_113 : decode cX10_count 113 = .ok (.ireturn, 1) := by decide +kernel
theorem dX10_count_114 : decode cX10_count 114 = .ok (.iconst (-1), 1) := by decide +kernel
theorem dX10_count_115 : decode cX10_count 115 = .ok (.ireturn, 1) := by decide +kernel
theorem dX10_isSet_0 : decode cX10_isSet 0 = .ok (.iload_n 1, 1) := by decide +kernel
theorem dX10_isSet_1 : decode cX10_isSet 1 = .ok (.ifCond .lt 20, 3) := by decide +kernel
theorem dX10_isSet_4 : decode cX10_isSet 4 = .ok (.iload_n 1, 1) := by decide +kernel
theorem dX10_isSet_5 : decode cX10_isSet 5 = .ok (.iconst 1, 1) := by decide +kernel
theorem dX10_isSet_6 : decode cX10_isSet 6 = .ok (.aload_n 0, 1) := by decide +kernel
theorem dX10_isSet_7 : decode cX10_isSet 7 = .ok (.getfield 10, 3) := by decide +kernel
theorem dX10_isSet_10 : decode cX10_isSet 10 = .ok (.getfield 171, 3) := by decide +kernel
theorem dX10_isSet_13 : decode cX10_isSet 13 = .ok (.ishl, 1) := by decide +kernel
theorem dX10_isSet_14 : decode cX10_isSet 14 = .ok (.if_icmp .ge 7, 3) := by decide +kernel
theorem dX10_isSet_17 : decode cX10_isSet 17 = .ok (.iconst 1, 1) := by decide +kernel
theorem dX10_isSet_18 : decode cX10_isSet 18 = .ok (.goto 4, 3) := by decide +kernel
theorem dX10_isSet_21 : decode cX10_isSet 21 = .ok (.iconst 0, 1) := by decide +kernel
theorem dX10_isSet_22 : decode cX10_isSet 22 = .ok (.ireturn, 1) := by decide +kernel
theorem dX10_isFilledSet_0 : decode cX10_isFilledSet 0 = .ok (.iload_n 1, 1) := by decide +kernel
theorem dX10_isFilledSet_1 : decode cX10_isFilledSet 1 = .ok (.ifCond .eq 15, 3) := by decide +kernel
theorem dX10_isFilledSet_4 : decode cX10_isFilledSet 4 = .ok (.aload_n 0, 1) := by decide +kernel
theorem dX10_isFilledSet_5 : decode cX10_isFilledSet 5 = .ok (.iload_n 1, 1) := by decide +kernel
theorem dX10_isFilledSet_6 : decode cX10_isFilledSet 6 = .ok (.invokevirtual 202, 3) := by decide +kernel
theorem dX10_isFilledSet_9 : decode cX10_isFilledSet 9 = .ok (.ifCond .eq 7, 3) := by decide +kernel
theorem dX10_isFilledSet_12 : decode cX10_isFilledSet 12 = .ok (.iconst 1, 1) := by decide +kernel
theorem dX10_isFilledSet_13 : decode cX10_isFilledSet 13 = .ok (.goto 4, 3) := by decide +kernel
theorem dX10_isFilledSet_16 : decode cX10_isFilledSet 16 = .ok (.iconst 0, 1) := by decide +kernel
theorem dX10_isFilledSet_17 : decode cX10_isFilledSet 17 = .ok (.ireturn, 1) := by decide +kernel
theorem dX10_isPoint_0 : decode cX10_isPoint 0 = .ok (.iload_n 1, 1) := by decide +kernel
theorem dX10_isPoint_1 : decode cX10_isPoint 1 = .ok (.ifCond .lt 18, 3) := by decide +kernel
theorem dX10_isPoint_4 : decode cX10_isPoint 4 = .ok (.iload_n 1, 1) := by decide +kernel
theorem dX10_isPoint_5 : decode cX10_isPoint 5 = .ok (.aload_n 0, 1) := by decide +kernel
theorem dX10_isPoint_6 : decode cX10_isPoint 6 = .ok (.getfield 10, 3) := by decide +kernel
theorem dX10_isPoint_9 : decode cX10_isPoint 9 = .ok (.getfield 171, 3) := by decide +kernel
theorem dX10_isPoint_12 : decode cX10_isPoint 12 = .ok (.if_icmp .ge 7, 3) := by decide +kernel
theorem dX10_isPoint_15 : decode cX10_isPoint 15 = .ok (.iconst 1, 1) := by decide +kernel
theorem dX10_isPoint_16 : decode cX10_isPoint 16 = .ok (.goto 4, 3) := by decide +kernel
theorem dX10_isPoint_19 : decode cX10_isPoint 19 = .ok (.iconst 0, 1) := by decide +kernel
theorem dX10_isPoint_20 : decode cX10_isPoint 20 = .ok (.ireturn, 1) := by decide +kernel
theorem dX10_isGenerator_0 : decode cX10_isGenerator 0 = .ok (.iload_n 1, 1) := by decide +kernel
theorem dX10_isGenerator_1 : decode cX10_isGenerator 1 = .ok (.ifCond .lt 21, 3) := by decide +kernel
theorem dX10_isGenerator_4 : decode cX10_isGenerator 4 = .ok (.iload_n 1, 1) := by decide +kernel
theorem dX10_isGenerator_5 : decode cX10_isGenerator 5 = .ok (.aload_n 0, 1) := by decide +kernel
theorem dX10_isGenerator_6 : decode cX10_isGenerator 6 = .ok (.getfield 10, 3) := by decide +kernel
theorem dX10_isGenerator_9 : decode cX10_isGenerator 9 = .ok (.getfield 125, 3) := by decide +kernel
theorem dX10_isGenerator_12 : decode cX10_isGenerator 12 = .ok (.getfield 100, 3) := by decide +kernel
theorem dX10_isGenerator_15 : decode cX10_isGenerator 15 = .ok (.if_icmp .ge 7, 3) := by decide +kernel
theorem dX10_isGenerator_18 : decode cX10_isGenerator 18 = .ok (.iconst 1, 1) := by decide +kernel
theorem dX10_isGenerator_19 : decode cX10_isGenerator 19 = .ok (.goto 4, 3) := by decide +kernel
theorem dX10_isGenerator_22 : decode cX10_isGenerator 22 = .ok (.iconst 0, 1) := by decide +kernel
theorem dX10_isGenerator_23 : decode cX10_isGenerator 23 = .ok (.ireturn, 1) := by decide +kernel
theorem dX10_isMember_0 : decode cX10_isMember 0 = .ok (.iload_n 1, 1) := by decide +kernel
theorem dX10_isMember_1 : decode cX10_isMember 1 = .ok (.ifCond .lt 21, 3) := by decide +kernel
theorem dX10_isMember_4 : decode cX10_isMember 4 = .ok (.iload_n 1, 1) := by decide +kernel
theorem dX10_isMember_5 : decode cX10_isMember 5 = .ok (.aload_n 0, 1) := by decide +kernel
theorem dX10_isMember_6 : decode cX10_isMember 6 = .ok (.getfield 54, 3) := by decide +kernel
theorem dX10_isMember_9 : decode cX10_isMember 9 = .ok (.getfield 69, 3) := by decide +kernel
theorem dX10_isMember_12 : decode cX10_isMember 12 = .ok (.getfield 100, 3) := by decide +kernel
theorem dX10_isMember_15 : decode cX10_isMember 15 = .ok (.if_icmp .ge 7, 3) := by decide +kernel
theorem dX10_isMember_18 : decode cX10_isMember 18 = .ok (.iconst 1, 1) := by decide +kernel
theorem dX10_isMember_19 : decode cX10_isMember 19 = .ok (.goto 4, 3) := by decide +kernel
theorem dX10_isMember_22 : decode cX10_isMember 22 = .ok (.iconst 0, 1) := by decide +kernel
theorem dX10_isMember_23 : decode cX10_isMember 23 = .ok (.ireturn, 1) := by decide +kernel
theorem dX10_isIdle_0 : decode cX10_isIdle 0 = .ok (.aload_n 0, 1) := by decide +kernel
theorem dX10_isIdle_1 : decode cX10_isIdle 1 = .ok (.getfield 54, 3) := by decide +kernel
theorem dX10_isIdle_4 : decode cX10_isIdle 4 = .ok (.getfield 184, 3) := by decide +kernel
theorem dX10_isIdle_7 : decode cX10_isIdle 7 = .ok (.aload_n 0, 1) := by decide +kernel
theorem dX10_isIdle_8 : decode cX10_isIdle 8 = .ok (.getfield 10, 3) := by decide +kernel
theorem dX10_isIdle_11 : decode cX10_isIdle 11 = .ok (.getfield 125, 3) := by decide +kernel
theorem dX10_isIdle_14 : decode cX10_isIdle 14 = .ok (.iload_n 1, 1) := by decide +kernel
theorem dX10_isIdle_15 : decode cX10_isIdle 15 = .ok (.invokevirtual 148, 3) := by decide +kernel
theorem dX10_isIdle_18 : decode cX10_isIdle 18 = .ok (.invokevirtual 132, 3) := by decide +kernel
theorem dX10_isIdle_21 : decode cX10_isIdle 21 = .ok (.iconst (-1), 1) := by decide +kernel
theorem dX10_isIdle_22 : decode cX10_isIdle 22 = .ok (.if_icmp .ne 7, 3) := by decide +kernel
theorem dX10_isIdle_25 : decode cX10_isIdle 25 = .ok (.iconst 1, 1) := by decide +kernel
theorem dX10_isIdle_26 : decode cX10_isIdle 26 = .ok (.goto 4, 3) := by decide +kernel
theorem dX10_isIdle_29 : decode cX10_isIdle 29 = .ok (.iconst 0, 1) := by decide +kernel
theorem dX10_isIdle_30 : decode cX10_isIdle 30 = .ok (.ireturn, 1) := by decide +kernel
theorem dX10_idleGenerators_0 : decode cX10_idleGenerators 0 = .ok (.iconst 0, 1) := by decide +kernel
theorem dX10_idleGenerators_1 : decode cX10_idleGenerators 1 = .ok (.istore_n 1, 1) := by decide +kernel
theorem dX10_idleGenerators_2 : decode cX10_idleGenerators 2 = .ok (.iconst 0, 1) := by decide +kernel
theorem dX10_idleGenerators_3 : decode cX10_idleGenerators 3 = .ok (.istore_n 2, 1) := by decide +kernel
theorem dX10_idleGenerators_4 : decode cX10_idleGenerators 4 = .ok (.iload_n 2, 1) := by decide +kernel
theorem dX10_idleGenerators_5 : decode cX10_idleGenerators 5 = .ok (.aload_n 0, 1) := by decide +kernel
theorem dX10_idleGenerators_6 : decode cX10_idleGenerators 6 = .ok (.getfield 10, 3) := by decide +kernel
theorem dX10_idleGenerators_9 : decode cX10_idleGenerators 9 = .ok (.getfield 125, 3) := by decide +kernel
theorem dX10_idleGenerators_12 : decode cX10_idleGenerators 12 = .ok (.getfield 100, 3) := by decide +kernel
theorem dX10_idleGenerators_15 : decode cX10_idleGenerators 15 = .ok (.if_icmp .ge 20, 3) := by decide +kernel
theorem dX10_idleGenerators_18 : decode cX10_idleGenerators 18 = .ok (.aload_n 0, 1) := by decide +kernel
theorem dX10_idleGenerators_19 : decode cX10_idleGenerators 19 = .ok (.iload_n 2, 1) := by decide +kernel
theorem dX10_idleGenerators_20 : decode cX10_idleGenerators 20 = .ok (.invokevirtual 181, 3) := by decide +kernel
theorem dX10_idleGenerators_23 : decode cX10_idleGenerators 23 = .ok (.ifCond .eq 6, 3) := by decide +kernel
theorem dX10_idleGenerators_26 : decode cX10_idleGenerators 26 = .ok (.iinc 1 1, 3) := by decide +kernel
theorem dX10_idleGenerators_29 : decode cX10_idleGenerators 29 = .ok (.iinc 2 1, 3) := by decide +kernel
theorem dX10_idleGenerators_32 : decode cX10_idleGenerators 32 = .ok (.goto (-28), 3) := by decide +kernel
theorem dX10_idleGenerators_35 : decode cX10_idleGenerators 35 = .ok (.iload_n 1, 1) := by decide +kernel
theorem dX10_idleGenerators_36 : decode cX10_idleGenerators 36 = .ok (.ireturn, 1) := by decide +kernel
theorem dX10_generatorsWith_0 : decode cX10_generatorsWith 0 = .ok (.iconst 0, 1) := by decide +kernel
theorem dX10_generatorsWith_1 : decode cX10_generatorsWith 1 = .ok (.istore_n 2, 1) := by decide +kernel
theorem dX10_generatorsWith_2 : decode cX10_generatorsWith 2 = .ok (.iconst 0, 1) := by decide +kernel
theorem dX10_generatorsWith_3 : decode cX10_generatorsWith 3 = .ok (.istore_n 3, 1) := by decide +kernel
theorem dX10_generatorsWith_4 : decode cX10_generatorsWith 4 = .ok (.iload_n 3, 1) := by decide +kernel
theorem dX10_generatorsWith_5 : decode cX10_generatorsWith 5 = .ok (.aload_n 0, 1) := by decide +kernel
theorem dX10_generatorsWith_6 : decode cX10_generatorsWith 6 = .ok (.getfield 10, 3) := by decide +kernel
theorem dX10_generatorsWith_9 : decode cX10_generatorsWith 9 = .ok (.getfield 125, 3) := by decide +kernel
theorem dX10_generatorsWith_12 : decode cX10_generatorsWith 12 = .ok (.getfield 100, 3) := by decide +kernel
theorem dX10_generatorsWith_15 : decode cX10_generatorsWith 15 = .ok (.if_icmp .ge 27, 3) := by decide +kernel
theorem dX10_generatorsWith_18 : decode cX10_generatorsWith 18 = .ok (.iload_n 2, 1) := by decide +kernel
theorem dX10_generatorsWith_19 : decode cX10_generatorsWith 19 = .ok (.aload_n 0, 1) := by decide +kernel
theorem dX10_generatorsWith_20 : decode cX10_generatorsWith 20 = .ok (.getfield 10, 3) := by decide +kernel
theorem dX10_generatorsWith_23 : decode cX10_generatorsWith 23 = .ok (.getfield 125, 3) := by decide +kernel
theorem dX10_generatorsWith_26 : decode cX10_generatorsWith 26 = .ok (.iload_n 3, 1) := by decide +kernel
theorem dX10_generatorsWith_27 : decode cX10_generatorsWith 27 = .ok (.invokevirtual 148, 3) := by decide +kernel
theorem dX10_generatorsWith_30 : decode cX10_generatorsWith 30 = .ok (.iload_n 1, 1) := by decide +kernel
theorem dX10_generatorsWith_31 : decode cX10_generatorsWith 31 = .ok (.ishr, 1) := by decide +kernel
theorem dX10_generatorsWith_32 : decode cX10_generatorsWith 32 = .ok (.iconst 1, 1) := by decide +kernel
theorem dX10_generatorsWith_33 : decode cX10_generatorsWith 33 = .ok (.iand, 1) := by decide +kernel
theorem dX10_generatorsWith_34 : decode cX10_generatorsWith 34 = .ok (.iadd, 1) := by decide +kernel
theorem dX10_generatorsWith_35 : decode cX10_generatorsWith 35 = .ok (.istore_n 2, 1) := by decide +kernel
theorem dX10_generatorsWith_36 : decode cX10_generatorsWith 36 = .ok (.iinc 3 1, 3) := by decide +kernel
theorem dX10_generatorsWith_39 : decode cX10_generatorsWith 39 = .ok (.goto (-35), 3) := by decide +kernel
theorem dX10_generatorsWith_42 : decode cX10_generatorsWith 42 = .ok (.iload_n 2, 1) := by decide +kernel
theorem dX10_generatorsWith_43 : decode cX10_generatorsWith 43 = .ok (.ireturn, 1) := by decide +kernel
theorem dX10_settle_0 : decode cX10_settle 0 = .ok (.aload_n 0, 1) := by decide +kernel
theorem dX10_settle_1 : decode cX10_settle 1 = .ok (.getfield 22, 3) := by decide +kernel
theorem dX10_settle_4 : decode cX10_settle 4 = .ok (.aload_n 0, 1) := by decide +kernel
theorem dX10_settle_5 : decode cX10_settle 5 = .ok (.getfield 10, 3) := by decide +kernel
theorem dX10_settle_8 : decode cX10_settle 8 = .ok (.invokevirtual 357, 3) := by decide +kernel
theorem dX10_settle_11 : decode cX10_settle 11 = .ok (.aload_n 0, 1) := by decide +kernel
theorem dX10_settle_12 : decode cX10_settle 12 = .ok (.getfield 10, 3) := by decide +kernel
theorem dX10_settle_15 : decode cX10_settle 15 = .ok (.aload_n 0, 1) := by decide +kernel
theorem dX10_settle_16 : decode cX10_settle 16 = .ok (.getfield 16, 3) := by decide +kernel
theorem dX10_settle_19 : decode cX10_settle 19 = .ok (.invokevirtual 120, 3) := by decide +kernel
theorem dX10_settle_22 : decode cX10_settle 22 = .ok (.aload_n 0, 1) := by decide +kernel
theorem dX10_settle_23 : decode cX10_settle 23 = .ok (.invokevirtual 97, 3) := by decide +kernel
theorem dX10_settle_26 : decode cX10_settle 26 = .ok (.return_, 1) := by decide +kernel
theorem dX10_settleChanged_0 : decode cX10_settleChanged 0 = .ok (.iload_n 1, 1) := by decide +kernel
theorem dX10_settleChanged_1 : decode cX10_settleChanged 1 = .ok (.ifCond .ne 5, 3) := by decide +kernel
theorem dX10_settleChanged_4 : decode cX10_settleChanged 4 = .ok (.iconst (-1), 1) := by decide +kernel
theorem dX10_settleChanged_5 : decode cX10_settleChanged 5 = .ok (.ireturn, 1) := by decide +kernel
theorem dX10_settleChanged_6 : decode cX10_settleChanged 6 = .ok (.aload_n 0, 1) := by decide +kernel
theorem dX10_settleChanged_7 : decode cX10_settleChanged 7 = .ok (.invokevirtual 139, 3) := by decide +kernel
theorem dX10_settleChanged_10 : decode cX10_settleChanged 10 = .ok (.iload_n 1, 1) := by decide +kernel
theorem dX10_settleChanged_11 : decode cX10_settleChanged 11 = .ok (.ireturn, 1) := by decide +kernel
theorem dX10_replaceGenerators_0 : decode cX10_replaceGenerators 0 = .ok (.aload_n 1, 1) := by decide +kernel
theorem dX10_replaceGenerators_1 : decode cX10_replaceGenerators 1 = .ok (.getfield 100, 3) := by decide +kernel
theorem dX10_replaceGenerators_4 : decode cX10_replaceGenerators 4 = .ok (.bipush 12, 2) := by decide +kernel
theorem dX10_replaceGenerators_6 : decode cX10_replaceGenerators 6 = .ok (.if_icmp .gt 17, 3) := by decide +kernel
theorem dX10_replaceGenerators_9 : decode cX10_replaceGenerators 9 = .ok (.aload_n 0, 1) := by decide +kernel
theorem dX10_replaceGenerators_10 : decode cX10_replaceGenerators 10 = .ok (.getfield 10, 3) := by decide +kernel
theorem dX10_replaceGenerators_13 : decode cX10_replaceGenerators 13 = .ok (.getfield 125, 3) := by decide +kernel
theorem dX10_replaceGenerators_16 : decode cX10_replaceGenerators 16 = .ok (.aload_n 1, 1) := by decide +kernel
theorem dX10_replaceGenerators_17 : decode cX10_replaceGenerators 17 = .ok (.invokevirtual 360, 3) := by decide +kernel
theorem dX10_replaceGenerators_20 : decode cX10_replaceGenerators 20 = .ok (.ifCond .eq 5, 3) := by decide +kernel
theorem dX10_replaceGenerators_23 : decode cX10_replaceGenerators 23 = .ok (.iconst (-1), 1) := by decide +kernel
theorem dX10_replaceGenerators_24 : decode cX10_replaceGenerators 24 = .ok (.ireturn, 1) := by decide +kernel
theorem dX10_replaceGenerators_25 : decode cX10_replaceGenerators 25 = .ok (.aload_n 0, 1) := by decide +kernel
theorem dX10_replaceGenerators_26 : decode cX10_replaceGenerators 26 = .ok (.getfield 16, 3) := by decide +kernel
theorem dX10_replaceGenerators_29 : decode cX10_replaceGenerators 29 = .ok (.aload_n 0, 1) := by decide +kernel
theorem dX10_replaceGenerators_30 : decode cX10_replaceGenerators 30 = .ok (.getfield 10, 3) := by decide +kernel
theorem dX10_replaceGenerators_33 : decode cX10_replaceGenerators 33 = .ok (.invokevirtual 120, 3) := by decide +kernel
theorem dX10_replaceGenerators_36 : decode cX10_replaceGenerators 36 = .ok (.aload_n 0, 1) := by decide +kernel
theorem dX10_replaceGenerators_37 : decode cX10_replaceGenerators 37 = .ok (.getfield 16, 3) := by decide +kernel
theorem dX10_replaceGenerators_40 : decode cX10_replaceGenerators 40 = .ok (.getfield 125, 3) := by decide +kernel
theorem dX10_replaceGenerators_43 : decode cX10_replaceGenerators 43 = .ok (.aload_n 1, 1) := by decide +kernel
theorem dX10_replaceGenerators_44 : decode cX10_replaceGenerators 44 = .ok (.invokevirtual 364, 3) := by decide +kernel
theorem dX10_replaceGenerators_47 : decode cX10_replaceGenerators 47 = .ok (.aload_n 0, 1) := by decide +kernel
theorem dX10_replaceGenerators_48 : decode cX10_replaceGenerators 48 = .ok (.invokevirtual 139, 3) := by decide +kernel
theorem dX10_replaceGenerators_51 : decode cX10_replaceGenerators 51 = .ok (.aload_n 0, 1) := by decide +kernel
theorem dX10_replaceGenerators_52 : decode cX10_replaceGenerators 52 = .ok (.getfield 10, 3) := by decide +kernel
theorem dX10_replaceGenerators_55 : decode cX10_replaceGenerators 55 = .ok (.getfield 125, 3) := by decide +kernel
theorem dX10_replaceGenerators_58 : decode cX10_replaceGenerators 58 = .ok (.getfield 100, 3) := by decide +kernel
theorem dX10_replaceGenerators_61 : decode cX10_replaceGenerators 61 = .ok (.ireturn, 1) := by decide +kernel
theorem dX10_refresh_0 : decode cX10_refresh 0 = .ok (.aload_n 0, 1) := by decide +kernel
theorem dX10_refresh_1 : decode cX10_refresh 1 = .ok (.getfield 54, 3) := by decide +kernel
theorem dX10_refresh_4 : decode cX10_refresh 4 = .ok (.aload_n 0, 1) := by decide +kernel
theorem dX10_refresh_5 : decode cX10_refresh 5 = .ok (.getfield 10, 3) := by decide +kernel
theorem dX10_refresh_8 : decode cX10_refresh 8 = .ok (.getfield 171, 3) := by decide +kernel
theorem dX10_refresh_11 : decode cX10_refresh 11 = .ok (.aload_n 0, 1) := by decide +kernel
theorem dX10_refresh_12 : decode cX10_refresh 12 = .ok (.getfield 10, 3) := by decide +kernel
theorem dX10_refresh_15 : decode cX10_refresh 15 = .ok (.getfield 125, 3) := by decide +kernel
theorem dX10_refresh_18 : decode cX10_refresh 18 = .ok (.invokevirtual 366, 3) := by decide +kernel
theorem dX10_refresh_21 : decode cX10_refresh 21 = .ok (.aload_n 0, 1) := by decide +kernel
theorem dX10_refresh_22 : decode cX10_refresh 22 = .ok (.getfield 63, 3) := by decide +kernel
theorem dX10_refresh_25 : decode cX10_refresh 25 = .ok (.invokevirtual 370, 3) := by decide +kernel
theorem dX10_refresh_28 : decode cX10_refresh 28 = .ok (.aload_n 0, 1) := by decide +kernel
theorem dX10_refresh_29 : decode cX10_refresh 29 = .ok (.getfield 75, 3) := by decide +kernel
theorem dX10_refresh_32 : decode cX10_refresh 32 = .ok (.invokevirtual 373, 3) := by decide +kernel
theorem dX10_refresh_35 : decode cX10_refresh 35 = .ok (.return_, 1) := by decide +kernel
theorem dX10_fillTrial_0 : decode cX10_fillTrial 0 = .ok (.iconst 0, 1) := by decide +kernel
theorem dX10_fillTrial_1 : decode cX10_fillTrial 1 = .ok (.istore_n 2, 1) := by decide +kernel
theorem dX10_fillTrial_2 : decode cX10_fillTrial 2 = .ok (.iload_n 1, 1) := by decide +kernel
theorem dX10_fillTrial_3 : decode cX10_fillTrial 3 = .ok (.istore_n 3, 1) := by decide +kernel
theorem dX10_fillTrial_4 : decode cX10_fillTrial 4 = .ok (.aload_n 0, 1) := by decide +kernel
theorem dX10_fillTrial_5 : decode cX10_fillTrial 5 = .ok (.getfield 10, 3) := by decide +kernel
theorem dX10_fillTrial_8 : decode cX10_fillTrial 8 = .ok (.getfield 171, 3) := by decide +kernel
theorem dX10_fillTrial_11 : decode cX10_fillTrial 11 = .ok (.aload_n 0, 1) := by decide +kernel
theorem dX10_fillTrial_12 : decode cX10_fillTrial 12 = .ok (.getfield 93, 3) := by decide +kernel
theorem dX10_fillTrial_15 : decode cX10_fillTrial 15 = .ok (.arraylength, 1) := by decide +kernel
theorem dX10_fillTrial_16 : decode cX10_fillTrial 16 = .ok (.invokestatic 374, 3) := by decide +kernel
theorem dX10_fillTrial_19 : decode cX10_fillTrial 19 = .ok (.iconst 1, 1) := by decide +kernel
theorem dX10_fillTrial_20 : decode cX10_fillTrial 20 = .ok (.isub, 1) := by decide +kernel
theorem dX10_fillTrial_21 : decode cX10_fillTrial 21 = .ok (.istore 4, 2) := by decide +kernel
theorem dX10_fillTrial_23 : decode cX10_fillTrial 23 = .ok (.iload 4, 2) := by decide +kernel
theorem dX10_fillTrial_25 : decode cX10_fillTrial 25 = .ok (.ifCond .lt 33, 3) := by decide +kernel
theorem dX10_fillTrial_28 : decode cX10_fillTrial 28 = .ok (.aload_n 0, 1) := by decide +kernel
theorem dX10_fillTrial_29 : decode cX10_fillTrial 29 = .ok (.getfield 93, 3) := by decide +kernel
theorem dX10_fillTrial_32 : decode cX10_fillTrial 32 = .ok (.iload 4, 2) := by decide +kernel
theorem dX10_fillTrial_34 : decode cX10_fillTrial 34 = .ok (.iload_n 3, 1) := by decide +kernel
theorem dX10_fillTrial_35 : decode cX10_fillTrial 35 = .ok (.iconst 3, 1) := by decide +kernel
theorem dX10_fillTrial_36 : decode cX10_fillTrial 36 = .ok (.irem, 1) := by decide +kernel
theorem dX10_fillTrial_37 : decode cX10_fillTrial 37 = .ok (.iastore, 1) := by decide +kernel
theorem dX10_fillTrial_38 : decode cX10_fillTrial 38 = .ok (.iload_n 3, 1) := by decide +kernel
theorem dX10_fillTrial_39 : decode cX10_fillTrial 39 = .ok (.iconst 3, 1) := by decide +kernel
theorem dX10_fillTrial_40 : decode cX10_fillTrial 40 = .ok (.idiv, 1) := by decide +kernel
theorem dX10_fillTrial_41 : decode cX10_fillTrial 41 = .ok (.istore_n 3, 1) := by decide +kernel
theorem dX10_fillTrial_42 : decode cX10_fillTrial 42 = .ok (.iload_n 2, 1) := by decide +kernel
theorem dX10_fillTrial_43 : decode cX10_fillTrial 43 = .ok (.aload_n 0, 1) := by decide +kernel
theorem dX10_fillTrial_44 : decode cX10_fillTrial 44 = .ok (.getfield 93, 3) := by decide +kernel
theorem dX10_fillTrial_47 : decode cX10_fillTrial 47 = .ok (.iload 4, 2) := by decide +kernel
theorem dX10_fillTrial_49 : decode cX10_fillTrial 49 = .ok (.iaload, 1) := by decide +kernel
theorem dX10_fillTrial_50 : decode cX10_fillTrial 50 = .ok (.iadd, 1) := by decide +kernel
theorem dX10_fillTrial_51 : decode cX10_fillTrial 51 = .ok (.istore_n 2, 1) := by decide +kernel
theorem dX10_fillTrial_52 : decode cX10_fillTrial 52 = .ok (.iinc 4 (-1), 3) := by decide +kernel
theorem dX10_fillTrial_55 : decode cX10_fillTrial 55 = .ok (.goto (-32), 3) := by decide +kernel
theorem dX10_fillTrial_58 : decode cX10_fillTrial 58 = .ok (.iload_n 2, 1) := by decide +kernel
theorem dX10_fillTrial_59 : decode cX10_fillTrial 59 = .ok (.ireturn, 1) := by decide +kernel
theorem dX10_trialDigits_0 : decode cX10_trialDigits 0 = .ok (.iconst 0, 1) := by decide +kernel
theorem dX10_trialDigits_1 : decode cX10_trialDigits 1 = .ok (.istore_n 1, 1) := by decide +kernel
theorem dX10_trialDigits_2 : decode cX10_trialDigits 2 = .ok (.iconst 0, 1) := by decide +kernel
theorem dX10_trialDigits_3 : decode cX10_trialDigits 3 = .ok (.istore_n 2, 1) := by decide +kernel
theorem dX10_trialDigits_4 : decode cX10_trialDigits 4 = .ok (.iload_n 2, 1) := by decide +kernel
theorem dX10_trialDigits_5 : decode cX10_trialDigits 5 = .ok (.aload_n 0, 1) := by decide +kernel
theorem dX10_trialDigits_6 : decode cX10_trialDigits 6 = .ok (.getfield 10, 3) := by decide +kernel
theorem dX10_trialDigits_9 : decode cX10_trialDigits 9 = .ok (.getfield 171, 3) := by decide +kernel
theorem dX10_trialDigits_12 : decode cX10_trialDigits 12 = .ok (.if_icmp .ge 30, 3) := by decide +kernel
theorem dX10_trialDigits_15 : decode cX10_trialDigits 15 = .ok (.iload_n 2, 1) := by decide +kernel
theorem dX10_trialDigits_16 : decode cX10_trialDigits 16 = .ok (.aload_n 0, 1) := by decide +kernel
theorem dX10_trialDigits_17 : decode cX10_trialDigits 17 = .ok (.getfield 93, 3) := by decide +kernel
theorem dX10_trialDigits_20 : decode cX10_trialDigits 20 = .ok (.arraylength, 1) := by decide +kernel
theorem dX10_trialDigits_21 : decode cX10_trialDigits 21 = .ok (.if_icmp .ge 21, 3) := by decide +kernel
theorem dX10_trialDigits_24 : decode cX10_trialDigits 24 = .ok (.bipush 10, 2) := by decide +kernel
theorem dX10_trialDigits_26 : decode cX10_trialDigits 26 = .ok (.iload_n 1, 1) := by decide +kernel
theorem dX10_trialDigits_27 : decode cX10_trialDigits 27 = .ok (.imul, 1) := by decide +kernel
theorem dX10_trialDigits_28 : decode cX10_trialDigits 28 = .ok (.aload_n 0, 1) := by decide +kernel
theorem dX10_trialDigits_29 : decode cX10_trialDigits 29 = .ok (.getfield 93, 3) := by decide +kernel
theorem dX10_trialDigits_32 : decode cX10_trialDigits 32 = .ok (.iload_n 2, 1) := by decide +kernel
theorem dX10_trialDigits_33 : decode cX10_trialDigits 33 = .ok (.iaload, 1) := by decide +kernel
theorem dX10_trialDigits_34 : decode cX10_trialDigits 34 = .ok (.iadd, 1) := by decide +kernel
theorem dX10_trialDigits_35 : decode cX10_trialDigits 35 = .ok (.istore_n 1, 1) := by decide +kernel
theorem dX10_trialDigits_36 : decode cX10_trialDigits 36 = .ok (.iinc 2 1, 3) := by decide +kernel
theorem dX10_trialDigits_39 : decode cX10_trialDigits 39 = .ok (.goto (-35), 3) := by decide +kernel
theorem dX10_trialDigits_42 : decode cX10_trialDigits 42 = .ok (.iload_n 1, 1) := by decide +kernel
theorem dX10_trialDigits_43 : decode cX10_trialDigits 43 = .ok (.ireturn, 1) := by decide +kernel
theorem dX10_bit_0 : decode cX10_bit 0 = .ok (.iload_n 0, 1) := by decide +kernel
theorem dX10_bit_1 : decode cX10_bit 1 = .ok (.ifCond .eq 7, 3) := by decide +kernel
theorem dX10_bit_4 : decode cX10_bit 4 = .ok (.iconst 1, 1) := by decide +kernel
theorem dX10_bit_5 : decode cX10_bit 5 = .ok (.goto 4, 3) := by decide +kernel
theorem dX10_bit_8 : decode cX10_bit 8 = .ok (.iconst 0, 1) := by decide +kernel
theorem dX10_bit_9 : decode cX10_bit 9 = .ok (.ireturn, 1) := by decide +kernel
theorem dX10_exchanged_0 : decode cX10_exchanged 0 = .ok (.iload_n 0, 1) := by decide +kernel
theorem dX10_exchanged_1 : decode cX10_exchanged 1 = .ok (.iload_n 1, 1) := by decide +kernel
theorem dX10_exchanged_2 : decode cX10_exchanged 2 = .ok (.ishr, 1) := by decide +kernel
theorem dX10_exchanged_3 : decode cX10_exchanged 3 = .ok (.iconst 1, 1) := by decide +kernel
theorem dX10_exchanged_4 : decode cX10_exchanged 4 = .ok (.iand, 1) := by decide +kernel
theorem dX10_exchanged_5 : decode cX10_exchanged 5 = .ok (.iload_n 0, 1) := by decide +kernel
theorem dX10_exchanged_6 : decode cX10_exchanged 6 = .ok (.iload_n 2, 1) := by decide +kernel
theorem dX10_exchanged_7 : decode cX10_exchanged 7 = .ok (.ishr, 1) := by decide +kernel
theorem dX10_exchanged_8 : decode cX10_exchanged 8 = .ok (.iconst 1, 1) := by decide +kernel
theorem dX10_exchanged_9 : decode cX10_exchanged 9 = .ok (.iand, 1) := by decide +kernel
theorem dX10_exchanged_10 : decode cX10_exchanged 10 = .ok (.if_icmp .ne 7, 3) := by decide +kernel
theorem dX10_exchanged_13 : decode cX10_exchanged 13 = .ok (.iconst 1, 1) := by decide +kernel
theorem dX10_exchanged_14 : decode cX10_exchanged 14 = .ok (.goto 4, 3) := by decide +kernel
theorem dX10_exchanged_17 : decode cX10_exchanged 17 = .ok (.iconst 0, 1) := by decide +kernel
theorem dX10_exchanged_18 : decode cX10_exchanged 18 = .ok (.istore_n 3, 1) := by decide +kernel
theorem dX10_exchanged_19 : decode cX10_exchanged 19 = .ok (.iload_n 3, 1) := by decide +kernel
theorem dX10_exchanged_20 : decode cX10_exchanged 20 = .ok (.ifCond .eq 7, 3) := by decide +kernel
theorem dX10_exchanged_23 : decode cX10_exchanged 23 = .ok (.iload_n 0, 1) := by decide +kernel
theorem dX10_exchanged_24 : decode cX10_exchanged 24 = .ok (.goto 12, 3) := by decide +kernel
theorem dX10_exchanged_27 : decode cX10_exchanged 27 = .ok (.iload_n 0, 1) := by decide +kernel
theorem dX10_exchanged_28 : decode cX10_exchanged 28 = .ok (.iconst 1, 1) := by decide +kernel
theorem dX10_exchanged_29 : decode cX10_exchanged 29 = .ok (.iload_n 1, 1) := by decide +kernel
theorem dX10_exchanged_30 : decode cX10_exchanged 30 = .ok (.ishl, 1) := by decide +kernel
theorem dX10_exchanged_31 : decode cX10_exchanged 31 = .ok (.ixor, 1) := by decide +kernel
theorem dX10_exchanged_32 : decode cX10_exchanged 32 = .ok (.iconst 1, 1) := by decide +kernel
theorem dX10_exchanged_33 : decode cX10_exchanged 33 = .ok (.iload_n 2, 1) := by decide +kernel
theorem dX10_exchanged_34 : decode cX10_exchanged 34 = .ok (.ishl, 1) := by decide +kernel
theorem dX10_exchanged_35 : decode cX10_exchanged 35 = .ok (.ixor, 1) := by decide +kernel
theorem dX10_exchanged_36 : decode cX10_exchanged 36 = .ok (.ireturn, 1) := by decide +kernel
theorem dX10_rotated_0 : decode cX10_rotated 0 = .ok (.iload_n 0, 1) := by decide +kernel
theorem dX10_rotated_1 : decode cX10_rotated 1 = .ok (.iload_n 1, 1) := by decide +kernel
theorem dX10_rotated_2 : decode cX10_rotated 2 = .ok (.iconst 1, 1) := by decide +kernel
theorem dX10_rotated_3 : decode cX10_rotated 3 = .ok (.isub, 1) := by decide +kernel
theorem dX10_rotated_4 : decode cX10_rotated 4 = .ok (.ishr, 1) := by decide +kernel
theorem dX10_rotated_5 : decode cX10_rotated 5 = .ok (.iconst 1, 1) := by decide +kernel
theorem dX10_rotated_6 : decode cX10_rotated 6 = .ok (.iand, 1) := by decide +kernel
theorem dX10_rotated_7 : decode cX10_rotated 7 = .ok (.istore_n 2, 1) := by decide +kernel
theorem dX10_rotated_8 : decode cX10_rotated 8 = .ok (.iload_n 0, 1) := by decide +kernel
theorem dX10_rotated_9 : decode cX10_rotated 9 = .ok (.iconst 1, 1) := by decide +kernel
theorem dX10_rotated_10 : decode cX10_rotated 10 = .ok (.ishl, 1) := by decide +kernel
theorem dX10_rotated_11 : decode cX10_rotated 11 = .ok (.iconst 1, 1) := by decide +kernel
theorem dX10_rotated_12 : decode cX10_rotated 12 = .ok (.iload_n 1, 1) := by decide +kernel
theorem dX10_rotated_13 : decode cX10_rotated 13 = .ok (.ishl, 1) := by decide +kernel
theorem dX10_rotated_14 : decode cX10_rotated 14 = .ok (.iconst 1, 1) := by decide +kernel
theorem dX10_rotated_15 : decode cX10_rotated 15 = .ok (.isub, 1) := by decide +kernel
theorem dX10_rotated_16 : decode cX10_rotated 16 = .ok (.iand, 1) := by decide +kernel
theorem dX10_rotated_17 : decode cX10_rotated 17 = .ok (.iload_n 2, 1) := by decide +kernel
theorem dX10_rotated_18 : decode cX10_rotated 18 = .ok (.ior, 1) := by decide +kernel
theorem dX10_rotated_19 : decode cX10_rotated 19 = .ok (.ireturn, 1) := by decide +kernel
theorem dX10_commonDivisor_0 : decode cX10_commonDivisor 0 = .ok (.iload_n 0, 1) := by decide +kernel
theorem dX10_commonDivisor_1 : decode cX10_commonDivisor 1 = .ok (.istore_n 2, 1) := by decide +kernel
theorem dX10_commonDivisor_2 : decode cX10_commonDivisor 2 = .ok (.iload_n 1, 1) := by decide +kernel
theorem dX10_commonDivisor_3 : decode cX10_commonDivisor 3 = .ok (.istore_n 3, 1) := by decide +kernel
theorem dX10_commonDivisor_4 : decode cX10_commonDivisor 4 = .ok (.iconst 0, 1) := by decide +kernel
theorem dX10_commonDivisor_5 : decode cX10_commonDivisor 5 = .ok (.istore 4, 2) := by decide +kernel
theorem dX10_commonDivisor_7 : decode cX10_commonDivisor 7 = .ok (.iload 4, 2) := by decide +kernel
theorem dX10_commonDivisor_9 : decode cX10_commonDivisor 9 = .ok (.bipush 64, 2) := by decide +kernel
theorem dX10_commonDivisor_11 : decode cX10_commonDivisor 11 = .ok (.if_icmp .ge 23, 3) := by decide +kernel
theorem dX10_commonDivisor_14 : decode cX10_commonDivisor 14 = .ok (.iload_n 3, 1) := by decide +kernel
theorem dX10_commonDivisor_15 : decode cX10_commonDivisor 15 = .ok (.ifCond .eq 19, 3) := by decide +kernel
theorem dX10_commonDivisor_18 : decode cX10_commonDivisor 18 = .ok (.iload_n 2, 1) := by decide +kernel
theorem dX10_commonDivisor_19 : decode cX10_commonDivisor 19 = .ok (.iload_n 3, 1) := by decide +kernel
theorem dX10_commonDivisor_20 : decode cX10_commonDivisor 20 = .ok (.irem, 1) := by decide +kernel
theorem dX10_commonDivisor_21 : decode cX10_commonDivisor 21 = .ok (.istore 5, 2) := by decide +kernel
theorem dX10_commonDivisor_23 : decode cX10_commonDivisor 23 = .ok (.iload_n 3, 1) := by decide +kernel
theorem dX10_commonDivisor_24 : decode cX10_commonDivisor 24 = .ok (.istore_n 2, 1) := by decide +kernel
theorem dX10_commonDivisor_25 : decode cX10_commonDivisor 25 = .ok (.iload 5, 2) := by decide +kernel
theorem dX10_commonDivisor_27 : decode cX10_commonDivisor 27 = .ok (.istore_n 3, 1) := by decide +kernel
theorem dX10_commonDivisor_28 : decode cX10_commonDivisor 28 = .ok (.iinc 4 1, 3) := by decide +kernel
theorem dX10_commonDivisor_31 : decode cX10_commonDivisor 31 = .ok (.goto (-24), 3) := by decide +kernel
theorem dX10_commonDivisor_34 : decode cX10_commonDivisor 34 = .ok (.iload_n 2, 1) := by decide +kernel
theorem dX10_commonDivisor_35 : decode cX10_commonDivisor 35 = .ok (.ireturn, 1) := by decide +kernel
theorem dX11_init_0 : decode cX11_init 0 = .ok (.aload_n 0, 1) := by decide +kernel
theorem dX11_init_1 : decode cX11_init 1 = .ok (.invokespecial 7, 3) := by decide +kernel
theorem dX11_init_4 : decode cX11_init 4 = .ok (.aload_n 0, 1) := by decide +kernel
theorem dX11_init_5 : decode cX11_init 5 = .ok (.bipush 42, 2) := by decide +kernel
theorem dX11_init_7 : decode cX11_init 7 = .ok (.newarray .int, 2) := by decide +kernel
theorem dX11_init_9 : decode cX11_init 9 = .ok (.putfield 13, 3) := by decide +kernel
theorem dX11_init_12 : decode cX11_init 12 = .ok (.aload_n 0, 1) := by decide +kernel
theorem dX11_init_13 : decode cX11_init 13 = .ok (.bipush 42, 2) := by decide +kernel
theorem dX11_init_15 : decode cX11_init 15 = .ok (.newarray .int, 2) := by decide +kernel
theorem dX11_init_17 : decode cX11_init 17 = .ok (.putfield 17, 3) := by decide +kernel
theorem dX11_init_20 : decode cX11_init 20 = .ok (.aload_n 0, 1) := by decide +kernel
theorem dX11_init_21 : decode cX11_init 21 = .ok (.sipush 504, 3) := by decide +kernel
theorem dX11_init_24 : decode cX11_init 24 = .ok (.newarray .int, 2) := by decide +kernel
theorem dX11_init_26 : decode cX11_init 26 = .ok (.putfield 20, 3) := by decide +kernel
theorem dX11_init_29 : decode cX11_init 29 = .ok (.aload_n 0, 1) := by decide +kernel
theorem dX11_init_30 : decode cX11_init 30 = .ok (.bipush 20, 2) := by decide +kernel
theorem dX11_init_32 : decode cX11_init 32 = .ok (.newarray .int, 2) := by decide +kernel
theorem dX11_init_34 : decode cX11_init 34 = .ok (.putfield 23, 3) := by decide +kernel
theorem dX11_init_37 : decode cX11_init 37 = .ok (.aload_n 0, 1) := by decide +kernel
theorem dX11_init_38 : decode cX11_init 38 = .ok (.sipush 128, 3) := by decide +kernel
theorem dX11_init_41 : decode cX11_init 41 = .ok (.newarray .boolean, 2) := by decide +kernel
theorem dX11_init_43 : decode cX11_init 43 = .ok (.putfield 26, 3) := by decide +kernel
theorem dX11_init_46 : decode cX11_init 46 = .ok (.aload_n 0, 1) := by decide +kernel
theorem dX11_init_47 : decode cX11_init 47 = .ok (.sipush 128, 3) := by decide +kernel
theorem dX11_init_50 : decode cX11_init 50 = .ok (.newarray .int, 2) := by decide +kernel
theorem dX11_init_52 : decode cX11_init 52 = .ok (.putfield 30, 3) := by decide +kernel
theorem dX11_init_55 : decode cX11_init 55 = .ok (.aload_n 0, 1) := by decide +kernel
theorem dX11_init_56 : decode cX11_init 56 = .ok (.sipush 128, 3) := by decide +kernel
theorem dX11_init_59 : decode cX11_init 59 = .ok (.newarray .int, 2) := by decide +kernel
theorem dX11_init_61 : decode cX11_init 61 = .ok (.putfield 33, 3) := by decide +kernel
theorem dX11_init_64 : decode cX11_init 64 = .ok (.aload_n 0, 1) := by decide +kernel
theorem dX11_init_65 : decode cX11_init 65 = .ok (.sipush 128, 3) := by decide +kernel
theorem dX11_init_68 : decode cX11_init 68 = .ok (.newarray .boolean, 2) := by decide +kernel
theorem dX11_init_70 : decode cX11_init 70 = .ok (.putfield 36, 3) := by decide +kernel
theorem dX11_init_73 : decode cX11_init 73 = .ok (.aload_n 0, 1) := by decide +kernel
theorem dX11_init_74 : decode cX11_init 74 = .ok (.sipush 128, 3) := by decide +kernel
theorem dX11_init_77 : decode cX11_init 77 = .ok (.newarray .int, 2) := by decide +kernel
theorem dX11_init_79 : decode cX11_init 79 = .ok (.putfield 39, 3) := by decide +kernel
theorem dX11_init_82 : decode cX11_init 82 = .ok (.aload_n 0, 1) := by decide +kernel
theorem dX11_init_83 : decode cX11_init 83 = .ok (.sipush 128, 3) := by decide +kernel
theorem dX11_init_86 : decode cX11_init 86 = .ok (.newarray .int, 2) := by decide +kernel
theorem dX11_init_88 : decode cX11_init 88 = .ok (.putfield 42, 3) := by decide +kernel
theorem dX11_init_91 : decode cX11_init 91 = .ok (.aload_n 0, 1) := by decide +kernel
theorem dX11_init_92 : decode cX11_init 92 = .ok (.sipush 128, 3) := by decide +kernel
theorem dX11_init_95 : decode cX11_init 95 = .ok (.newarray .int, 2) := by decide +kernel
theorem dX11_init_97 : decode cX11_init 97 = .ok (.putfield 45, 3) := by decide +kernel
theorem dX11_init_100 : decode cX11_init 100 = .ok (.aload_n 0, 1) := by decide +kernel
theorem dX11_init_101 : decode cX11_init 101 = .ok (.sipush 128, 3) := by decide +kernel
theorem dX11_init_104 : decode cX11_init 104 = .ok (.newarray .int, 2) := by decide +kernel
theorem dX11_init_106 : decode cX11_init 106 = .ok (.putfield 48, 3) := by decide +kernel
theorem dX11_init_109 : decode cX11_init 109 = .ok (.aload_n 0, 1) := by decide +kernel
theorem dX11_init_110 : decode cX11_init 110 = .ok (.sipush 128, 3) := by decide +kernel
theorem dX11_init_113 : decode cX11_init 113 = .ok (.newarray .int, 2) := by decide +kernel
theorem dX11_init_115 : decode cX11_init 115 = .ok (.putfield 51, 3) := by decide +kernel
theorem dX11_init_118 : decode cX11_init 118 = .ok (.aload_n 0, 1) := by decide +kernel
theorem dX11_init_119 : decode cX11_init 119 = .ok (.sipush 128, 3) := by decide +kernel
theorem dX11_init_122 : decode cX11_init 122 = .ok (.newarray .boolean, 2) := by decide +kernel
theorem dX11_init_124 : decode cX11_init 124 = .ok (.putfield 54, 3) := by decide +kernel
theorem dX11_init_127 : decode cX11_init 127 = .ok (.aload_n 0, 1) := by decide +kernel
theorem dX11_init_128 : decode cX11_init 128 = .ok (.sipush 128, 3) := by decide +kernel
theorem dX11_init_131 : decode cX11_init 131 = .ok (.newarray .int, 2) := by decide +kernel
theorem dX11_init_133 : decode cX11_init 133 = .ok (.putfield 57, 3) := by decide +kernel
theorem dX11_init_136 : decode cX11_init 136 = .ok (.aload_n 0, 1) := by decide +kernel
theorem dX11_init_137 : decode cX11_init 137 = .ok (.bipush 7, 2) := by decide +kernel
theorem dX11_init_139 : decode cX11_init 139 = .ok (.newarray .int, 2) := by decide +kernel
theorem dX11_init_141 : decode cX11_init 141 = .ok (.putfield 60, 3) := by decide +kernel
theorem dX11_init_144 : decode cX11_init 144 = .ok (.aload_n 0, 1) := by decide +kernel
theorem dX11_init_145 : decode cX11_init 145 = .ok (.sipush 400, 3) := by decide +kernel
theorem dX11_init_148 : decode cX11_init 148 = .ok (.newarray .int, 2) := by decide +kernel
theorem dX11_init_150 : decode cX11_init 150 = .ok (.putfield 63, 3) := by decide +kernel
theorem dX11_init_153 : decode cX11_init 153 = .ok (.aload_n 0, 1) := by decide +kernel
theorem dX11_init_154 : decode cX11_init 154 = .ok (.sipush 300, 3) := by decide +kernel
theorem dX11_init_157 : decode cX11_init 157 = .ok (.newarray .int, 2) := by decide +kernel
theorem dX11_init_159 : decode cX11_init 159 = .ok (.putfield 66, 3) := by decide +kernel
theorem dX11_init_162 : decode cX11_init 162 = .ok (.aload_n 0, 1) := by decide +kernel
theorem dX11_init_163 : decode cX11_init 163 = .ok (.bipush 18, 2) := by decide +kernel
theorem dX11_init_165 : decode cX11_init 165 = .ok (.newarray .byte, 2) := by decide +kernel
theorem dX11_init_167 : decode cX11_init 167 = .ok (.dup, 1) := by decide +kernel
theorem dX11_init_168 : decode cX11_init 168 = .ok (.iconst 0, 1) := by decide +kernel
theorem dX11_init_169 : decode cX11_init 169 = .ok (.bipush 112, 2) := by decide +kernel
theorem dX11_init_171 : decode cX11_init 171 = .ok (.bastore, 1) := by decide +kernel
theorem dX11_init_172 : decode cX11_init 172 = .ok (.dup, 1) := by decide +kernel
theorem dX11_init_173 : decode cX11_init 173 = .ok (.iconst 1, 1) := by decide +kernel
theorem dX11_init_174 : decode cX11_init 174 = .ok (.bipush 111, 2) := by decide +kernel
theorem dX11_init_176 : decode cX11_init 176 = .ok (.bastore, 1) := by decide +kernel
theorem dX11_init_177 : decode cX11_init 177 = .ok (.dup, 1) := by decide +kernel
theorem dX11_init_178 : decode cX11_init 178 = .ok (.iconst 2, 1) := by decide +kernel
theorem dX11_init_179 : decode cX11_init 179 = .ok (.bipush 105, 2) := by decide +kernel
theorem dX11_init_181 : decode cX11_init 181 = .ok (.bastore, 1) := by decide +kernel
theorem dX11_init_182 : decode cX11_init 182 = .ok (.dup, 1) := by decide +kernel
theorem dX11_init_183 : decode cX11_init 183 = .ok (.iconst 3, 1) := by decide +kernel
theorem dX11_init_184 : decode cX11_init 184 = .ok (.bipush 110, 2) := by decide +kernel
theorem dX11_init_186 : decode cX11_init 186 = .ok (.bastore, 1) := by decide +kernel
theorem dX11_init_187 : decode cX11_init 187 = .ok (.dup, 1) := by decide +kernel
theorem dX11_init_188 : decode cX11_init 188 = .ok (.iconst 4, 1) := by decide +kernel
theorem dX11_init_189 : decode cX11_init 189 = .ok (.bipush 116, 2) := by decide +kernel
theorem dX11_init_191 : decode cX11_init 191 = .ok (.bastore, 1) := by decide +kernel
theorem dX11_init_192 : decode cX11_init 192 = .ok (.dup, 1) := by decide +kernel
theorem dX11_init_193 : decode cX11_init 193 = .ok (.iconst 5, 1) := by decide +kernel
theorem dX11_init_194 : decode cX11_init 194 = .ok (.bipush 115, 2) := by decide +kernel
theorem dX11_init_196 : decode cX11_init 196 = .ok (.bastore, 1) := by decide +kernel
theorem dX11_init_197 : decode cX11_init 197 = .ok (.dup, 1) := by decide +kernel
theorem dX11_init_198 : decode cX11_init 198 = .ok (.bipush 6, 2) := by decide +kernel
theorem dX11_init_200 : decode cX11_init 200 = .ok (.iconst 0, 1) := by decide +kernel
theorem dX11_init_201 : decode cX11_init 201 = .ok (.bastore, 1) := by decide +kernel
theorem dX11_init_202 : decode cX11_init 202 = .ok (.dup, 1) := by decide +kernel
theorem dX11_init_203 : decode cX11_init 203 = .ok (.bipush 7, 2) := by decide +kernel
theorem dX11_init_205 : decode cX11_init 205 = .ok (.bipush 119, 2) := by decide +kernel
theorem dX11_init_207 : decode cX11_init 207 = .ok (.bastore, 1) := by decide +kernel
theorem dX11_init_208 : decode cX11_init 208 = .ok (.dup, 1) := by decide +kernel
theorem dX11_init_209 : decode cX11_init 209 = .ok (.bipush 8, 2) := by decide +kernel
theorem dX11_init_211 : decode cX11_init 211 = .ok (.bipush 101, 2) := by decide +kernel
theorem dX11_init_213 : decode cX11_init 213 = .ok (.bastore, 1) := by decide +kernel
theorem dX11_init_214 : decode cX11_init 214 = .ok (.dup, 1) := by decide +kernel
theorem dX11_init_215 : decode cX11_init 215 = .ok (.bipush 9, 2) := by decide +kernel
theorem dX11_init_217 : decode cX11_init 217 = .ok (.bipush 105, 2) := by decide +kernel
theorem dX11_init_219 : decode cX11_init 219 = .ok (.bastore, 1) := by decide +kernel
theorem dX11_init_220 : decode cX11_init 220 = .ok (.dup, 1) := by decide +kernel
theorem dX11_init_221 : decode cX11_init 221 = .ok (.bipush 10, 2) := by decide +kernel
theorem dX11_init_223 : decode cX11_init 223 = .ok (.bipush 103, 2) := by decide +kernel
theorem dX11_init_225 : decode cX11_init 225 = .ok (.bastore, 1) := by decide +kernel
theorem dX11_init_226 : decode cX11_init 226 = .ok (.dup, 1) := by decide +kernel
theorem dX11_init_227 : decode cX11_init 227 = .ok (.bipush 11, 2) := by decide +kernel
theorem dX11_init_229 : decode cX11_init 229 = .ok (.bipush 104, 2) := by decide +kernel
theorem dX11_init_231 : decode cX11_init 231 = .ok (.bastore, 1) := by decide +kernel
theorem dX11_init_232 : decode cX11_init 232 = .ok (.dup, 1) := by decide +kernel
theorem dX11_init_233 : decode cX11_init 233 = .ok (.bipush 12, 2) := by decide +kernel
theorem dX11_init_235 : decode cX11_init 235 = .ok (.bipush 116, 2) := by decide +kernel
theorem dX11_init_237 : decode cX11_init 237 = .ok (.bastore, 1) := by decide +kernel
theorem dX11_init_238 : decode cX11_init 238 = .ok (.dup, 1) := by decide +kernel
theorem dX11_init_239 : decode cX11_init 239 = .ok (.bipush 13, 2) := by decide +kernel
theorem dX11_init_241 : decode cX11_init 241 = .ok (.iconst 0, 1) := by decide +kernel
theorem dX11_init_242 : decode cX11_init 242 = .ok (.bastore, 1) := by decide +kernel
theorem dX11_init_243 : decode cX11_init 243 = .ok (.dup, 1) := by decide +kernel
theorem dX11_init_244 : decode cX11_init 244 = .ok (.bipush 14, 2) := by decide +kernel
theorem dX11_init_246 : decode cX11_init 246 = .ok (.bipush 115, 2) := by decide +kernel
theorem dX11_init_248 : decode cX11_init 248 = .ok (.bastore, 1) := by decide +kernel
theorem dX11_init_249 : decode cX11_init 249 = .ok (.dup, 1) := by decide +kernel
theorem dX11_init_250 : decode cX11_init 250 = .ok (.bipush 15, 2) := by decide +kernel
theorem dX11_init_252 : decode cX11_init 252 = .ok (.bipush 101, 2) := by decide +kernel
theorem dX11_init_254 : decode cX11_init 254 = .ok (.bastore, 1) := by decide +kernel
theorem dX11_init_255 : decode cX11_init 255 = .ok (.dup, 1) := by decide +kernel
theorem dX11_init_256 : decode cX11_init 256 = .ok (.bipush 16, 2) := by decide +kernel
theorem dX11_init_258 : decode cX11_init 258 = .ok (.bipush 116, 2) := by decide +kernel
theorem dX11_init_260 : decode cX11_init 260 = .ok (.bastore, 1) := by decide +kernel
theorem dX11_init_261 : decode cX11_init 261 = .ok (.dup, 1) := by decide +kernel
theorem dX11_init_262 : decode cX11_init 262 = .ok (.bipush 17, 2) := by decide +kernel
theorem dX11_init_264 : decode cX11_init 264 = .ok (.iconst 0, 1) := by decide +kernel
theorem dX11_init_265 : decode cX11_init 265 = .ok (.bastore, 1) := by decide +kernel
theorem dX11_init_266 : decode cX11_init 266 = .ok (.putfield 69, 3) := by decide +kernel
theorem dX11_init_269 : decode cX11_init 269 = .ok (.aload_n 0, 1) := by decide +kernel
theorem dX11_init_270 : decode cX11_init 270 = .ok (.getfield 13, 3) := by decide +kernel
theorem dX11_init_273 : decode cX11_init 273 = .ok (.invokestatic 73, 3) := by decide +kernel
theorem dX11_init_276 : decode cX11_init 276 = .ok (.return_, 1) := by decide +kernel
theorem dX11_in_0 : decode cX11_in 0 = .ok (.iload_n 0, 1) := by decide +kernel
theorem dX11_in_1 : decode cX11_in 1 = .ok (.iload_n 1, 1) := by decide +kernel
theorem dX11_in_2 : decode cX11_in 2 = .ok (.if_icmp .lt 12, 3) := by decide +kernel
theorem dX11_in_5 : decode cX11_in 5 = .ok (.iload_n 0, 1) := by decide +kernel
theorem dX11_in_6 : decode cX11_in 6 = .ok (.iload_n 2, 1) := by decide +kernel
theorem dX11_in_7 : decode cX11_in 7 = .ok (.if_icmp .gt 7, 3) := by decide +kernel
theorem dX11_in_10 : decode cX11_in 10 = .ok (.iconst 1, 1) := by decide +kernel
theorem dX11_in_11 : decode cX11_in 11 = .ok (.goto 4, 3) := by decide +kernel
theorem dX11_in_14 : decode cX11_in 14 = .ok (.iconst 0, 1) := by decide +kernel
theorem dX11_in_15 : decode cX11_in 15 = .ok (.ireturn, 1) := by decide +kernel
theorem dX11_has_0 : decode cX11_has 0 = .ok (.iload_n 0, 1) := by decide +kernel
theorem dX11_has_1 : decode cX11_has 1 = .ok (.iload_n 1, 1) := by decide +kernel
theorem dX11_has_2 : decode cX11_has 2 = .ok (.ishr, 1) := by decide +kernel
theorem dX11_has_3 : decode cX11_has 3 = .ok (.iconst 1, 1) := by decide +kernel
theorem dX11_has_4 : decode cX11_has 4 = .ok (.iand, 1) := by decide +kernel
theorem dX11_has_5 : decode cX11_has 5 = .ok (.iconst 1, 1) := by decide +kernel
theorem dX11_has_6 : decode cX11_has 6 = .ok (.if_icmp .ne 7, 3) := by decide +kernel
theorem dX11_has_9 : decode cX11_has 9 = .ok (.iconst 1, 1) := by decide +kernel
theorem dX11_has_10 : decode cX11_has 10 = .ok (.goto 4, 3) := by decide +kernel
theorem dX11_has_13 : decode cX11_has 13 = .ok (.iconst 0, 1) := by decide +kernel
theorem dX11_has_14 : decode cX11_has 14 = .ok (.ireturn, 1) := by decide +kernel
theorem dX11_isWithin_0 : decode cX11_isWithin 0 = .ok (.iload_n 0, 1) := by decide +kernel
theorem dX11_isWithin_1 : decode cX11_isWithin 1 = .ok (.iload_n 1, 1) := by decide +kernel
theorem dX11_isWithin_2 : decode cX11_isWithin 2 = .ok (.iconst (-1), 1) := by decide +kernel
theorem dX11_isWithin_3 : decode cX11_isWithin 3 = .ok (.ixor, 1) := by decide +kernel
theorem dX11_isWithin_4 : decode cX11_isWithin 4 = .ok (.iand, 1) := by decide +kernel
theorem dX11_isWithin_5 : decode cX11_isWithin 5 = .ok (.ifCond .ne 7, 3) := by decide +kernel
theorem dX11_isWithin_8 : decode cX11_isWithin 8 = .ok (.iconst 1, 1) := by decide +kernel
theorem dX11_isWithin_9 : decode cX11_isWithin 9 = .ok (.goto 4, 3) := by decide +kernel
theorem dX11_isWithin_12 : decode cX11_isWithin 12 = .ok (.iconst 0, 1) := by decide +kernel
theorem dX11_isWithin_13 : decode cX11_isWithin 13 = .ok (.ireturn, 1) := by decide +kernel
theorem dX11_ones_0 : decode cX11_ones 0 = .ok (.iconst 0, 1) := by decide +kernel
theorem dX11_ones_1 : decode cX11_ones 1 = .ok (.istore_n 1, 1) := by decide +kernel
theorem dX11_ones_2 : decode cX11_ones 2 = .ok (.iconst 0, 1) := by decide +kernel
theorem dX11_ones_3 : decode cX11_ones 3 = .ok (.istore_n 2, 1) := by decide +kernel
theorem dX11_ones_4 : decode cX11_ones 4 = .ok (.iload_n 2, 1) := by decide +kernel
theorem dX11_ones_5 : decode cX11_ones 5 = .ok (.bipush 7, 2) := by decide +kernel
theorem dX11_ones_7 : decode cX11_ones 7 = .ok (.if_icmp .ge 17, 3) := by decide +kernel
theorem dX11_ones_10 : decode cX11_ones 10 = .ok (.iload_n 1, 1) := by decide +kernel
theorem dX11_ones_11 : decode cX11_ones 11 = .ok (.iload_n 0, 1) := by decide +kernel
theorem dX11_ones_12 : decode cX11_ones 12 = .ok (.iload_n 2, 1) := by decide +kernel
theorem dX11_ones_13 : decode cX11_ones 13 = .ok (.ishr, 1) := by decide +kernel
theorem dX11_ones_14 : decode cX11_ones 14 = .ok (.iconst 1, 1) := by decide +kernel
theorem dX11_ones_15 : decode cX11_ones 15 = .ok (.iand, 1) := by decide +kernel
theorem dX11_ones_16 : decode cX11_ones 16 = .ok (.iadd, 1) := by decide +kernel
theorem dX11_ones_17 : decode cX11_ones 17 = .ok (.istore_n 1, 1) := by decide +kernel
theorem dX11_ones_18 : decode cX11_ones 18 = .ok (.iinc 2 1, 3) := by decide +kernel
theorem dX11_ones_21 : decode cX11_ones 21 = .ok (.goto (-17), 3) := by decide +kernel
theorem dX11_ones_24 : decode cX11_ones 24 = .ok (.iload_n 1, 1) := by decide +kernel
theorem dX11_ones_25 : decode cX11_ones 25 = .ok (.ireturn, 1) := by decide +kernel
theorem dX11_starts_0 : decode cX11_starts 0 = .ok (.iconst 0, 1) := by decide +kernel
theorem dX11_starts_1 : decode cX11_starts 1 = .ok (.istore_n 1, 1) := by decide +kernel
theorem dX11_starts_2 : decode cX11_starts 2 = .ok (.iload_n 1, 1) := by decide +kernel
theorem dX11_starts_3 : decode cX11_starts 3 = .ok (.bipush 42, 2) := by decide +kernel
theorem dX11_starts_5 : decode cX11_starts 5 = .ok (.if_icmp .ge 13, 3) := by decide +kernel
theorem dX11_starts_8 : decode cX11_starts 8 = .ok (.aload_n 0, 1) := by decide +kernel
theorem dX11_starts_9 : decode cX11_starts 9 = .ok (.iload_n 1, 1) := by decide +kernel
theorem dX11_starts_10 : decode cX11_starts 10 = .ok (.iconst 0, 1) := by decide +kernel
theorem dX11_starts_11 : decode cX11_starts 11 = .ok (.iastore, 1) := by decide +kernel
theorem dX11_starts_12 : decode cX11_starts 12 = .ok (.iinc 1 1, 3) := by decide +kernel
theorem dX11_starts_15 : decode cX11_starts 15 = .ok (.goto (-13), 3) := by decide +kernel
theorem dX11_starts_18 : decode cX11_starts 18 = .ok (.aload_n 0, 1) := by decide +kernel
theorem dX11_starts_19 : decode cX11_starts 19 = .ok (.iconst 0, 1) := by decide +kernel
theorem dX11_starts_20 : decode cX11_starts 20 = .ok (.iconst 4, 1) := by decide +kernel
theorem dX11_starts_21 : decode cX11_starts 21 = .ok (.iastore, 1) := by decide +kernel
theorem dX11_starts_22 : decode cX11_starts 22 = .ok (.iconst 0, 1) := by decide +kernel
theorem dX11_starts_23 : decode cX11_starts 23 = .ok (.istore_n 1, 1) := by decide +kernel
theorem dX11_starts_24 : decode cX11_starts 24 = .ok (.iload_n 1, 1) := by decide +kernel
theorem dX11_starts_25 : decode cX11_starts 25 = .ok (.bipush 7, 2) := by decide +kernel
theorem dX11_starts_27 : decode cX11_starts 27 = .ok (.if_icmp .ge 15, 3) := by decide +kernel
theorem dX11_starts_30 : decode cX11_starts 30 = .ok (.aload_n 0, 1) := by decide +kernel
theorem dX11_starts_31 : decode cX11_starts 31 = .ok (.iconst 3, 1) := by decide +kernel
theorem dX11_starts_32 : decode cX11_starts 32 = .ok (.iload_n 1, 1) := by decide +kernel
theorem dX11_starts_33 : decode cX11_starts 33 = .ok (.iadd, 1) := by decide +kernel
theorem dX11_starts_34 : decode cX11_starts 34 = .ok (.iconst 1, 1) := by decide +kernel
theorem dX11_starts_35 : decode cX11_starts 35 = .ok (.iastore, 1) := by decide +kernel
theorem dX11_starts_36 : decode cX11_starts 36 = .ok (.iinc 1 1, 3) := by decide +kernel
theorem dX11_starts_39 : decode cX11_starts 39 = .ok (.goto (-15), 3) := by decide +kernel
theorem dX11_starts_42 : decode cX11_starts 42 = .ok (.return_, 1) := by decide +kernel
theorem dX11_keeps_0 : decode cX11_keeps 0 = .ok (.aload_n 0, 1) := by decide +kernel
theorem dX11_keeps_1 : decode cX11_keeps 1 = .ok (.getfield 77, 3) := by decide +kernel
theorem dX11_keeps_4 : decode cX11_keeps 4 = .ok (.bipush 12, 2) := by decide +kernel
theorem dX11_keeps_6 : decode cX11_keeps 6 = .ok (.if_icmp .ne 44, 3) := by decide +kernel
theorem dX11_keeps_9 : decode cX11_keeps 9 = .ok (.bipush 42, 2) := by decide +kernel
theorem dX11_keeps_11 : decode cX11_keeps 11 = .ok (.istore_n 1, 1) := by decide +kernel
theorem dX11_keeps_12 : decode cX11_keeps 12 = .ok (.iload_n 1, 1) := by decide +kernel
theorem dX11_keeps_13 : decode cX11_keeps 13 = .ok (.sipush 504, 3) := by decide +kernel
theorem dX11_keeps_16 : decode cX11_keeps 16 = .ok (.if_icmp .ge 24, 3) := by decide +kernel
theorem dX11_keeps_19 : decode cX11_keeps 19 = .ok (.aload_n 0, 1) := by decide +kernel
theorem dX11_keeps_20 : decode cX11_keeps 20 = .ok (.getfield 20, 3) := by decide +kernel
theorem dX11_keeps_23 : decode cX11_keeps 23 = .ok (.iload_n 1, 1) := by decide +kernel
theorem dX11_keeps_24 : decode cX11_keeps 24 = .ok (.bipush 42, 2) := by decide +kernel
theorem dX11_keeps_26 : decode cX11_keeps 26 = .ok (.isub, 1) := by decide +kernel
theorem dX11_keeps_27 : decode cX11_keeps 27 = .ok (.aload_n 0, 1) := by decide +kernel
theorem dX11_keeps_28 : decode cX11_keeps 28 = .ok (.getfield 20, 3) := by decide +kernel
theorem dX11_keeps_31 : decode cX11_keeps 31 = .ok (.iload_n 1, 1) := by decide +kernel
theorem dX11_keeps_32 : decode cX11_keeps 32 = .ok (.iaload, 1) := by decide +kernel
theorem dX11_keeps_33 : decode cX11_keeps 33 = .ok (.iastore, 1) := by decide +kernel
theorem dX11_keeps_34 : decode cX11_keeps 34 = .ok (.iinc 1 1, 3) := by decide +kernel
theorem dX11_keeps_37 : decode cX11_keeps 37 = .ok (.goto (-25), 3) := by decide +kernel
theorem dX11_keeps_40 : decode cX11_keeps 40 = .ok (.aload_n 0, 1) := by decide +kernel
theorem dX11_keeps_41 : decode cX11_keeps 41 = .ok (.dup, 1) := by decide +kernel
theorem dX11_keeps_42 : decode cX11_keeps 42 = .ok (.getfield 77, 3) := by decide +kernel
theorem dX11_keeps_45 : decode cX11_keeps 45 = .ok (.iconst 1, 1) := by decide +kernel
theorem dX11_keeps_46 : decode cX11_keeps 46 = .ok (.isub, 1) := by decide +kernel
theorem dX11_keeps_47 : decode cX11_keeps 47 = .ok (.putfield 77, 3) := by decide +kernel
theorem dX11_keeps_50 : decode cX11_keeps 50 = .ok (.iconst 0, 1) := by decide +kernel
theorem dX11_keeps_51 : decode cX11_keeps 51 = .ok (.istore_n 1, 1) := by decide +kernel
theorem dX11_keeps_52 : decode cX11_keeps 52 = .ok (.iload_n 1, 1) := by decide +kernel
theorem dX11_keeps_53 : decode cX11_keeps 53 = .ok (.bipush 42, 2) := by decide +kernel
theorem dX11_keeps_55 : decode cX11_keeps 55 = .ok (.if_icmp .ge 29, 3) := by decide +kernel
theorem dX11_keeps_58 : decode cX11_keeps 58 = .ok (.aload_n 0, 1) := by decide +kernel
theorem dX11_keeps_59 : decode cX11_keeps 59 = .ok (.getfield 20, 3) := by decide +kernel
theorem dX11_keeps_62 : decode cX11_keeps 62 = .ok (.bipush 42, 2) := by decide +kernel
theorem dX11_keeps_64 : decode cX11_keeps 64 = .ok (.aload_n 0, 1) := by decide +kernel
theorem dX11_keeps_65 : decode cX11_keeps 65 = .ok (.getfield 77, 3) := by decide +kernel
theorem dX11_keeps_68 : decode cX11_keeps 68 = .ok (.imul, 1) := by decide +kernel
theorem dX11_keeps_69 : decode cX11_keeps 69 = .ok (.iload_n 1, 1) := by decide +kernel
theorem dX11_keeps_70 : decode cX11_keeps 70 = .ok (.iadd, 1) := by decide +kernel
theorem dX11_keeps_71 : decode cX11_keeps 71 = .ok (.aload_n 0, 1) := by decide +kernel
theorem dX11_keeps_72 : decode cX11_keeps 72 = .ok (.getfield 13, 3) := by decide +kernel
theorem dX11_keeps_75 : decode cX11_keeps 75 = .ok (.iload_n 1, 1) := by decide +kernel
theorem dX11_keeps_76 : decode cX11_keeps 76 = .ok (.iaload, 1) := by decide +kernel
theorem dX11_keeps_77 : decode cX11_keeps 77 = .ok (.iastore, 1) := by decide +kernel
theorem dX11_keeps_78 : decode cX11_keeps 78 = .ok (.iinc 1 1, 3) := by decide +kernel
theorem dX11_keeps_81 : decode cX11_keeps 81 = .ok (.goto (-29), 3) := by decide +kernel
theorem dX11_keeps_84 : decode cX11_keeps 84 = .ok (.aload_n 0, 1) := by decide +kernel
theorem dX11_keeps_85 : decode cX11_keeps 85 = .ok (.dup, 1) := by decide +kernel
theorem dX11_keeps_86 : decode cX11_keeps 86 = .ok (.getfield 77, 3) := by decide +kernel
theorem dX11_keeps_89 : decode cX11_keeps 89 = .ok (.iconst 1, 1) := by decide +kernel
theorem dX11_keeps_90 : decode cX11_keeps 90 = .ok (.iadd, 1) := by decide +kernel
theorem dX11_keeps_91 : decode cX11_keeps 91 = .ok (.putfield 77, 3) := by decide +kernel
theorem dX11_keeps_94 : decode cX11_keeps 94 = .ok (.return_, 1) := by decide +kernel
theorem dX11_many_0 : decode cX11_many 0 = .ok (.aload_n 0, 1) := by decide +kernel
theorem dX11_many_1 : decode cX11_many 1 = .ok (.getfield 13, 3) := by decide +kernel
theorem dX11_many_4 : decode cX11_many 4 = .ok (.iconst 1, 1) := by decide +kernel
theorem dX11_many_5 : decode cX11_many 5 = .ok (.iaload, 1) := by decide +kernel
theorem dX11_many_6 : decode cX11_many 6 = .ok (.ireturn, 1) := by decide +kernel
theorem dX11_gen_0 : decode cX11_gen 0 = .ok (.aload_n 0, 1) := by decide +kernel
theorem dX11_gen_1 : decode cX11_gen 1 = .ok (.getfield 13, 3) := by decide +kernel
theorem dX11_gen_4 : decode cX11_gen 4 = .ok (.bipush 10, 2) := by decide +kernel
theorem dX11_gen_6 : decode cX11_gen 6 = .ok (.iload_n 1, 1) := by decide +kernel
theorem dX11_gen_7 : decode cX11_gen 7 = .ok (.iadd, 1) := by decide +kernel
theorem dX11_gen_8 : decode cX11_gen 8 = .ok (.iaload, 1) := by decide +kernel
theorem dX11_gen_9 : decode cX11_gen 9 = .ok (.ireturn, 1) := by decide +kernel
theorem dX11_isGenerator_0 : decode cX11_isGenerator 0 = .ok (.iload_n 1, 1) := by decide +kernel
theorem dX11_isGenerator_1 : decode cX11_isGenerator 1 = .ok (.iconst 0, 1) := by decide +kernel
theorem dX11_isGenerator_2 : decode cX11_isGenerator 2 = .ok (.aload_n 0, 1) := by decide +kernel
theorem dX11_isGenerator_3 : decode cX11_isGenerator 3 = .ok (.invokevirtual 80, 3) := by decide +kernel
theorem dX11_isGenerator_6 : decode cX11_isGenerator 6 = .ok (.iconst 1, 1) := by decide +kernel
theorem dX11_isGenerator_7 : decode cX11_isGenerator 7 = .ok (.isub, 1) := by decide +kernel
theorem dX11_isGenerator_8 : decode cX11_isGenerator 8 = .ok (.invokestatic 84, 3) := by decide +kernel
theorem dX11_isGenerator_11 : decode cX11_isGenerator 11 = .ok (.ireturn, 1) := by decide +kernel
theorem dX11_isPoint_0 : decode cX11_isPoint 0 = .ok (.iload_n 1, 1) := by decide +kernel
theorem dX11_isPoint_1 : decode cX11_isPoint 1 = .ok (.iconst 0, 1) := by decide +kernel
theorem dX11_isPoint_2 : decode cX11_isPoint 2 = .ok (.aload_n 0, 1) := by decide +kernel
theorem dX11_isPoint_3 : decode cX11_isPoint 3 = .ok (.getfield 13, 3) := by decide +kernel
theorem dX11_isPoint_6 : decode cX11_isPoint 6 = .ok (.iconst 0, 1) := by decide +kernel
theorem dX11_isPoint_7 : decode cX11_isPoint 7 = .ok (.iaload, 1) := by decide +kernel
theorem dX11_isPoint_8 : decode cX11_isPoint 8 = .ok (.iconst 1, 1) := by decide +kernel
theorem dX11_isPoint_9 : decode cX11_isPoint 9 = .ok (.isub, 1) := by decide +kernel
theorem dX11_isPoint_10 : decode cX11_isPoint 10 = .ok (.invokestatic 84, 3) := by decide +kernel
theorem dX11_isPoint_13 : decode cX11_isPoint 13 = .ok (.ireturn, 1) := by decide +kernel
theorem dX11_allPoints_0 : decode cX11_allPoints 0 = .ok (.iconst 1, 1) := by decide +kernel
theorem dX11_allPoints_1 : decode cX11_allPoints 1 = .ok (.aload_n 0, 1) := by decide +kernel
theorem dX11_allPoints_2 : decode cX11_allPoints 2 = .ok (.getfield 13, 3) := by decide +kernel
theorem dX11_allPoints_5 : decode cX11_allPoints 5 = .ok (.iconst 0, 1) := by decide +kernel
theorem dX11_allPoints_6 : decode cX11_allPoints 6 = .ok (.iaload, 1) := by decide +kernel
theorem dX11_allPoints_7 : decode cX11_allPoints 7 = .ok (.ishl, 1) := by decide +kernel
theorem dX11_allPoints_8 : decode cX11_allPoints 8 = .ok (.iconst 1, 1) := by decide +kernel
theorem dX11_allPoints_9 : decode cX11_allPoints 9 = .ok (.isub, 1) := by decide +kernel
theorem dX11_allPoints_10 : decode cX11_allPoints 10 = .ok (.ireturn, 1) := by decide +kernel
theorem dX11_isSet_0 : decode cX11_isSet 0 = .ok (.iload_n 1, 1) := by decide +kernel
theorem dX11_isSet_1 : decode cX11_isSet 1 = .ok (.iconst 0, 1) := by decide +kernel
theorem dX11_isSet_2 : decode cX11_isSet 2 = .ok (.aload_n 0, 1) := by decide +kernel
theorem dX11_isSet_3 : decode cX11_isSet 3 = .ok (.invokevirtual 88, 3) := by decide +kernel
theorem dX11_isSet_6 : decode cX11_isSet 6 = .ok (.invokestatic 84, 3) := by decide +kernel
theorem dX11_isSet_9 : decode cX11_isSet 9 = .ok (.ireturn, 1) := by decide +kernel
theorem dX11_isThere_0 : decode cX11_isThere 0 = .ok (.iconst 0, 1) := by decide +kernel
theorem dX11_isThere_1 : decode cX11_isThere 1 = .ok (.istore 4, 2) := by decide +kernel
theorem dX11_isThere_3 : decode cX11_isThere 3 = .ok (.iload 4, 2) := by decide +kernel
theorem dX11_isThere_5 : decode cX11_isThere 5 = .ok (.iload_n 2, 1) := by decide +kernel
theorem dX11_isThere_6 : decode cX11_isThere 6 = .ok (.if_icmp .ge 21, 3) := by decide +kernel
theorem dX11_isThere_9 : decode cX11_isThere 9 = .ok (.aload_n 0, 1) := by decide +kernel
theorem dX11_isThere_10 : decode cX11_isThere 10 = .ok (.iload_n 1, 1) := by decide +kernel
theorem dX11_isThere_11 : decode cX11_isThere 11 = .ok (.iload 4, 2) := by decide +kernel
theorem dX11_isThere_13 : decode cX11_isThere 13 = .ok (.iadd, 1) := by decide +kernel
theorem dX11_isThere_14 : decode cX11_isThere 14 = .ok (.iaload, 1) := by decide +kernel
theorem dX11_isThere_15 : decode cX11_isThere 15 = .ok (.iload_n 3, 1) := by decide +kernel
theorem dX11_isThere_16 : decode cX11_isThere 16 = .ok (.if_icmp .ne 5, 3) := by decide +kernel
theorem dX11_isThere_19 : decode cX11_isThere 19 = .ok (.iconst 1, 1) := by decide +kernel
theorem dX11_isThere_20 : decode cX11_isThere 20 = .ok (.ireturn, 1) := by decide +kernel
theorem dX11_isThere_21 : decode cX11_isThere 21 = .ok (.iinc 4 1, 3) := by decide +kernel
theorem dX11_isThere_24 : decode cX11_isThere 24 = .ok (.goto (-21), 3) := by decide +kernel
theorem dX11_isThere_27 : decode cX11_isThere 27 = .ok (.iconst 0, 1) := by decide +kernel
theorem dX11_isThere_28 : decode cX11_isThere 28 = .ok (.ireturn, 1) := by decide +kernel
theorem dX11_isTold_0 : decode cX11_isTold 0 = .ok (.aload_n 0, 1) := by decide +kernel
theorem dX11_isTold_1 : decode cX11_isTold 1 = .ok (.getfield 13, 3) := by decide +kernel
theorem dX11_isTold_4 : decode cX11_isTold 4 = .ok (.bipush 10, 2) := by decide +kernel
theorem dX11_isTold_6 : decode cX11_isTold 6 = .ok (.aload_n 0, 1) := by decide +kernel
theorem dX11_isTold_7 : decode cX11_isTold 7 = .ok (.invokevirtual 80, 3) := by decide +kernel
theorem dX11_isTold_10 : decode cX11_isTold 10 = .ok (.iload_n 1, 1) := by decide +kernel
theorem dX11_isTold_11 : decode cX11_isTold 11 = .ok (.invokestatic 91, 3) := by decide +kernel
theorem dX11_isTold_14 : decode cX11_isTold 14 = .ok (.ireturn, 1) := by decide +kernel
theorem dX11_generate_0 : decode cX11_generate 0 = .ok (.aload_n 0, 1) := by decide +kernel
theorem dX11_generate_1 : decode cX11_generate 1 = .ok (.iload_n 1, 1) := by decide +kernel
theorem dX11_generate_2 : decode cX11_generate 2 = .ok (.invokevirtual 95, 3) := by decide +kernel
theorem dX11_generate_5 : decode cX11_generate 5 = .ok (.ifCond .eq 24, 3) := by decide +kernel
theorem dX11_generate_8 : decode cX11_generate 8 = .ok (.iload_n 1, 1) := by decide +kernel
theorem dX11_generate_9 : decode cX11_generate 9 = .ok (.ifCond .eq 20, 3) := by decide +kernel
theorem dX11_generate_12 : decode cX11_generate 12 = .ok (.aload_n 0, 1) := by decide +kernel
theorem dX11_generate_13 : decode cX11_generate 13 = .ok (.iload_n 1, 1) := by decide +kernel
theorem dX11_generate_14 : decode cX11_generate 14 = .ok (.invokevirtual 99, 3) := by decide +kernel
theorem dX11_generate_17 : decode cX11_generate 17 = .ok (.ifCond .ne 12, 3) := by decide +kernel
theorem dX11_generate_20 : decode cX11_generate 20 = .ok (.aload_n 0, 1) := by decide +kernel
theorem dX11_generate_21 : decode cX11_generate 21 = .ok (.invokevirtual 80, 3) := by decide +kernel
theorem dX11_generate_24 : decode cX11_generate 24 = .ok (.bipush 12, 2) := by decide +kernel
theorem dX11_generate_26 : decode cX11_generate 26 = .ok (.if_icmp .ne 5, 3) := by decide +kernel
theorem dX11_generate_29 : decode cX11_generate 29 = .ok (.iconst (-1), 1) := by decide +kernel
theorem dX11_generate_30 : decode cX11_generate 30 = .ok (.ireturn, 1) := by decide +kernel
theorem dX11_generate_31 : decode cX11_generate 31 = .ok (.aload_n 0, 1) := by decide +kernel
theorem dX11_generate_32 : decode cX11_generate 32 = .ok (.invokevirtual 102, 3) := by decide +kernel
theorem dX11_generate_35 : decode cX11_generate 35 = .ok (.aload_n 0, 1) := by decide +kernel
theorem dX11_generate_36 : decode cX11_generate 36 = .ok (.getfield 13, 3) := by decide +kernel
theorem dX11_generate_39 : decode cX11_generate 39 = .ok (.bipush 10, 2) := by decide +kernel
theorem dX11_generate_41 : decode cX11_generate 41 = .ok (.aload_n 0, 1) := by decide +kernel
theorem dX11_generate_42 : decode cX11_generate 42 = .ok (.invokevirtual 80, 3) := by decide +kernel
theorem dX11_generate_45 : decode cX11_generate 45 = .ok (.iadd, 1) := by decide +kernel
theorem dX11_generate_46 : decode cX11_generate 46 = .ok (.iload_n 1, 1) := by decide +kernel
theorem dX11_generate_47 : decode cX11_generate 47 = .ok (.iastore, 1) := by decide +kernel
theorem dX11_generate_48 : decode cX11_generate 48 = .ok (.aload_n 0, 1) := by decide +kernel
theorem dX11_generate_49 : decode cX11_generate 49 = .ok (.getfield 13, 3) := by decide +kernel
theorem dX11_generate_52 : decode cX11_generate 52 = .ok (.iconst 1, 1) := by decide +kernel
theorem dX11_generate_53 : decode cX11_generate 53 = .ok (.dup2, 1) := by decide +kernel
theorem dX11_generate_54 : decode cX11_generate 54 = .ok (.iaload, 1) := by decide +kernel
theorem dX11_generate_55 : decode cX11_generate 55 = .ok (.iconst 1, 1) := by decide +kernel
theorem dX11_generate_56 : decode cX11_generate 56 = .ok (.iadd, 1) := by decide +kernel
theorem dX11_generate_57 : decode cX11_generate 57 = .ok (.iastore, 1) := by decide +kernel
theorem dX11_generate_58 : decode cX11_generate 58 = .ok (.aload_n 0, 1) := by decide +kernel
theorem dX11_generate_59 : decode cX11_generate 59 = .ok (.invokevirtual 80, 3) := by decide +kernel
theorem dX11_generate_62 : decode cX11_generate 62 = .ok (.iconst 1, 1) := by decide +kernel
theorem dX11_generate_63 : decode cX11_generate 63 = .ok (.isub, 1) := by decide +kernel
theorem dX11_generate_64 : decode cX11_generate 64 = .ok (.ireturn, 1) := by decide +kernel
theorem dX11_takesOut_0 : decode cX11_takesOut 0 = .ok (.iload_n 1, 1) := by decide +kernel
theorem dX11_takesOut_1 : decode cX11_takesOut 1 = .ok (.istore_n 2, 1) := by decide +kernel
theorem dX11_takesOut_2 : decode cX11_takesOut 2 = .ok (.iload_n 2, 1) := by decide +kernel
theorem dX11_takesOut_3 : decode cX11_takesOut 3 = .ok (.iconst 1, 1) := by decide +kernel
theorem dX11_takesOut_4 : decode cX11_takesOut 4 = .ok (.iadd, 1) := by decide +kernel
theorem dX11_takesOut_5 : decode cX11_takesOut 5 = .ok (.aload_n 0, 1) := by decide +kernel
theorem dX11_takesOut_6 : decode cX11_takesOut 6 = .ok (.invokevirtual 80, 3) := by decide +kernel
theorem dX11_takesOut_9 : decode cX11_takesOut 9 = .ok (.if_icmp .ge 29, 3) := by decide +kernel
theorem dX11_takesOut_12 : decode cX11_takesOut 12 = .ok (.aload_n 0, 1) := by decide +kernel
theorem dX11_takesOut_13 : decode cX11_takesOut 13 = .ok (.getfield 13, 3) := by decide +kernel
theorem dX11_takesOut_16 : decode cX11_takesOut 16 = .ok (.bipush 10, 2) := by decide +kernel
theorem dX11_takesOut_18 : decode cX11_takesOut 18 = .ok (.iload_n 2, 1) := by decide +kernel
theorem dX11_takesOut_19 : decode cX11_takesOut 19 = .ok (.iadd, 1) := by decide +kernel
theorem dX11_takesOut_20 : decode cX11_takesOut 20 = .ok (.aload_n 0, 1) := by decide +kernel
theorem dX11_takesOut_21 : decode cX11_takesOut 21 = .ok (.getfield 13, 3) := by decide +kernel
theorem dX11_takesOut_24 : decode cX11_takesOut 24 = .ok (.bipush 10, 2) := by decide +kernel
theorem dX11_takesOut_26 : decode cX11_takesOut 26 = .ok (.iload_n 2, 1) := by decide +kernel
theorem dX11_takesOut_27 : decode cX11_takesOut 27 = .ok (.iadd, 1) := by decide +kernel
theorem dX11_takesOut_28 : decode cX11_takesOut 28 = .ok (.iconst 1, 1) := by decide +kernel
theorem dX11_takesOut_29 : decode cX11_takesOut 29 = .ok (.iadd, 1) := by decide +kernel
theorem dX11_takesOut_30 : decode cX11_takesOut 30 = .ok (.iaload, 1) := by decide +kernel
theorem dX11_takesOut_31 : decode cX11_takesOut 31 = .ok (.iastore, 1) := by decide +kernel
theorem dX11_takesOut_32 : decode cX11_takesOut 32 = .ok (.iinc 2 1, 3) := by decide +kernel
theorem dX11_takesOut_35 : decode cX11_takesOut 35 = .ok (.goto (-33), 3) := by decide +kernel
theorem dX11_takesOut_38 : decode cX11_takesOut 38 = .ok (.aload_n 0, 1) := by decide +kernel
theorem dX11_takesOut_39 : decode cX11_takesOut 39 = .ok (.getfield 13, 3) := by decide +kernel
theorem dX11_takesOut_42 : decode cX11_takesOut 42 = .ok (.iconst 1, 1) := by decide +kernel
theorem dX11_takesOut_43 : decode cX11_takesOut 43 = .ok (.dup2, 1) := by decide +kernel
theorem dX11_takesOut_44 : decode cX11_takesOut 44 = .ok (.iaload, 1) := by decide +kernel
theorem dX11_takesOut_45 : decode cX11_takesOut 45 = .ok (.iconst 1, 1) := by decide +kernel
theorem dX11_takesOut_46 : decode cX11_takesOut 46 = .ok (.isub, 1) := by decide +kernel
theorem dX11_takesOut_47 : decode cX11_takesOut 47 = .ok (.iastore, 1) := by decide +kernel
theorem dX11_takesOut_48 : decode cX11_takesOut 48 = .ok (.return_, 1) := by decide +kernel
theorem dX11_drop_0 : decode cX11_drop 0 = .ok (.aload_n 0, 1) := by decide +kernel
theorem dX11_drop_1 : decode cX11_drop 1 = .ok (.iload_n 1, 1) := by decide +kernel
theorem dX11_drop_2 : decode cX11_drop 2 = .ok (.invokevirtual 105, 3) := by decide +kernel
theorem dX11_drop_5 : decode cX11_drop 5 = .ok (.ifCond .ne 5, 3) := by decide +kernel
theorem dX11_drop_8 : decode cX11_drop 8 = .ok (.iconst 0, 1) := by decide +kernel
theorem dX11_drop_9 : decode cX11_drop 9 = .ok (.ireturn, 1) := by decide +kernel
theorem dX11_drop_10 : decode cX11_drop 10 = .ok (.aload_n 0, 1) := by decide +kernel
theorem dX11_drop_11 : decode cX11_drop 11 = .ok (.invokevirtual 102, 3) := by decide +kernel
theorem dX11_drop_14 : decode cX11_drop 14 = .ok (.aload_n 0, 1) := by decide +kernel
theorem dX11_drop_15 : decode cX11_drop 15 = .ok (.iload_n 1, 1) := by decide +kernel
theorem dX11_drop_16 : decode cX11_drop 16 = .ok (.invokevirtual 108, 3) := by decide +kernel
theorem dX11_drop_19 : decode cX11_drop 19 = .ok (.iconst 1, 1) := by decide +kernel
theorem dX11_drop_20 : decode cX11_drop 20 = .ok (.ireturn, 1) := by decide +kernel
theorem dX11_change_0 : decode cX11_change 0 = .ok (.aload_n 0, 1) := by decide +kernel
theorem dX11_change_1 : decode cX11_change 1 = .ok (.iload_n 1, 1) := by decide +kernel
theorem dX11_change_2 : decode cX11_change 2 = .ok (.invokevirtual 105, 3) := by decide +kernel
theorem dX11_change_5 : decode cX11_change 5 = .ok (.ifCond .eq 23, 3) := by decide +kernel
theorem dX11_change_8 : decode cX11_change 8 = .ok (.aload_n 0, 1) := by decide +kernel
theorem dX11_change_9 : decode cX11_change 9 = .ok (.iload_n 2, 1) := by decide +kernel
theorem dX11_change_10 : decode cX11_change 10 = .ok (.invokevirtual 95, 3) := by decide +kernel
theorem dX11_change_13 : decode cX11_change 13 = .ok (.ifCond .eq 15, 3) := by decide +kernel
theorem dX11_change_16 : decode cX11_change 16 = .ok (.iload_n 2, 1) := by decide +kernel
theorem dX11_change_17 : decode cX11_change 17 = .ok (.ifCond .eq 11, 3) := by decide +kernel
theorem dX11_change_20 : decode cX11_change 20 = .ok (.aload_n 0, 1) := by decide +kernel
theorem dX11_change_21 : decode cX11_change 21 = .ok (.iload_n 2, 1) := by decide +kernel
theorem dX11_change_22 : decode cX11_change 22 = .ok (.invokevirtual 99, 3) := by decide +kernel
theorem dX11_change_25 : decode cX11_change 25 = .ok (.ifCond .eq 5, 3) := by decide +kernel
theorem dX11_change_28 : decode cX11_change 28 = .ok (.iconst (-1), 1) := by decide +kernel
theorem dX11_change_29 : decode cX11_change 29 = .ok (.ireturn, 1) := by decide +kernel
theorem dX11_change_30 : decode cX11_change 30 = .ok (.aload_n 0, 1) := by decide +kernel
theorem dX11_change_31 : decode cX11_change 31 = .ok (.invokevirtual 102, 3) := by decide +kernel
theorem dX11_change_34 : decode cX11_change 34 = .ok (.aload_n 0, 1) := by decide +kernel
theorem dX11_change_35 : decode cX11_change 35 = .ok (.iload_n 1, 1) := by decide +kernel
theorem dX11_change_36 : decode cX11_change 36 = .ok (.invokevirtual 112, 3) := by decide +kernel
theorem dX11_change_39 : decode cX11_change 39 = .ok (.istore_n 3, 1) := by decide +kernel
theorem dX11_change_40 : decode cX11_change 40 = .ok (.aload_n 0, 1) := by decide +kernel
theorem dX11_change_41 : decode cX11_change 41 = .ok (.getfield 13, 3) := by decide +kernel
theorem dX11_change_44 : decode cX11_change 44 = .ok (.bipush 10, 2) := by decide +kernel
theorem dX11_change_46 : decode cX11_change 46 = .ok (.iload_n 1, 1) := by decide +kernel
theorem dX11_change_47 : decode cX11_change 47 = .ok (.iadd, 1) := by decide +kernel
theorem dX11_change_48 : decode cX11_change 48 = .ok (.iload_n 2, 1) := by decide +kernel
theorem dX11_change_49 : decode cX11_change 49 = .ok (.iastore, 1) := by decide +kernel
theorem dX11_change_50 : decode cX11_change 50 = .ok (.iload_n 3, 1) := by decide +kernel
theorem dX11_change_51 : decode cX11_change 51 = .ok (.ireturn, 1) := by decide +kernel
theorem dX11_weigh_0 : decode cX11_weigh 0 = .ok (.aload_n 0, 1) := by decide +kernel
theorem dX11_weigh_1 : decode cX11_weigh 1 = .ok (.iload_n 1, 1) := by decide +kernel
theorem dX11_weigh_2 : decode cX11_weigh 2 = .ok (.invokevirtual 116, 3) := by decide +kernel
theorem dX11_weigh_5 : decode cX11_weigh 5 = .ok (.ifCond .eq 25, 3) := by decide +kernel
theorem dX11_weigh_8 : decode cX11_weigh 8 = .ok (.iload_n 2, 1) := by decide +kernel
theorem dX11_weigh_9 : decode cX11_weigh 9 = .ok (.iconst 0, 1) := by decide +kernel
theorem dX11_weigh_10 : decode cX11_weigh 10 = .ok (.bipush 9, 2) := by decide +kernel
theorem dX11_weigh_12 : decode cX11_weigh 12 = .ok (.invokestatic 84, 3) := by decide +kernel
theorem dX11_weigh_15 : decode cX11_weigh 15 = .ok (.ifCond .eq 15, 3) := by decide +kernel
theorem dX11_weigh_18 : decode cX11_weigh 18 = .ok (.aload_n 0, 1) := by decide +kernel
theorem dX11_weigh_19 : decode cX11_weigh 19 = .ok (.getfield 13, 3) := by decide +kernel
theorem dX11_weigh_22 : decode cX11_weigh 22 = .ok (.iconst 3, 1) := by decide +kernel
theorem dX11_weigh_23 : decode cX11_weigh 23 = .ok (.iload_n 1, 1) := by decide +kernel
theorem dX11_weigh_24 : decode cX11_weigh 24 = .ok (.iadd, 1) := by decide +kernel
theorem dX11_weigh_25 : decode cX11_weigh 25 = .ok (.iaload, 1) := by decide +kernel
theorem dX11_weigh_26 : decode cX11_weigh 26 = .ok (.iload_n 2, 1) := by decide +kernel
theorem dX11_weigh_27 : decode cX11_weigh 27 = .ok (.if_icmp .ne 5, 3) := by decide +kernel
theorem dX11_weigh_30 : decode cX11_weigh 30 = .ok (.iconst (-1), 1) := by decide +kernel
theorem dX11_weigh_31 : decode cX11_weigh 31 = .ok (.ireturn, 1) := by decide +kernel
theorem dX11_weigh_32 : decode cX11_weigh 32 = .ok (.aload_n 0, 1) := by decide +kernel
theorem dX11_weigh_33 : decode cX11_weigh 33 = .ok (.invokevirtual 102, 3) := by decide +kernel
theorem dX11_weigh_36 : decode cX11_weigh 36 = .ok (.aload_n 0, 1) := by decide +kernel
theorem dX11_weigh_37 : decode cX11_weigh 37 = .ok (.getfield 13, 3) := by decide +kernel
theorem dX11_weigh_40 : decode cX11_weigh 40 = .ok (.iconst 3, 1) := by decide +kernel
theorem dX11_weigh_41 : decode cX11_weigh 41 = .ok (.iload_n 1, 1) := by decide +kernel
theorem dX11_weigh_42 : decode cX11_weigh 42 = .ok (.iadd, 1) := by decide +kernel
theorem dX11_weigh_43 : decode cX11_weigh 43 = .ok (.iaload, 1) := by decide +kernel
theorem dX11_weigh_44 : decode cX11_weigh 44 = .ok (.istore_n 3, 1) := by decide +kernel
theorem dX11_weigh_45 : decode cX11_weigh 45 = .ok (.aload_n 0, 1) := by decide +kernel
theorem dX11_weigh_46 : decode cX11_weigh 46 = .ok (.getfield 13, 3) := by decide +kernel
theorem dX11_weigh_49 : decode cX11_weigh 49 = .ok (.iconst 3, 1) := by decide +kernel
theorem dX11_weigh_50 : decode cX11_weigh 50 = .ok (.iload_n 1, 1) := by decide +kernel
theorem dX11_weigh_51 : decode cX11_weigh 51 = .ok (.iadd, 1) := by decide +kernel
theorem dX11_weigh_52 : decode cX11_weigh 52 = .ok (.iload_n 2, 1) := by decide +kernel
theorem dX11_weigh_53 : decode cX11_weigh 53 = .ok (.iastore, 1) := by decide +kernel
theorem dX11_weigh_54 : decode cX11_weigh 54 = .ok (.iload_n 3, 1) := by decide +kernel
theorem dX11_weigh_55 : decode cX11_weigh 55 = .ok (.ireturn, 1) := by decide +kernel
theorem dX11_unlike_0 : decode cX11_unlike 0 = .ok (.iconst 0, 1) := by decide +kernel
theorem dX11_unlike_1 : decode cX11_unlike 1 = .ok (.istore_n 1, 1) := by decide +kernel
theorem dX11_unlike_2 : decode cX11_unlike 2 = .ok (.iconst 0, 1) := by decide +kernel
theorem dX11_unlike_3 : decode cX11_unlike 3 = .ok (.istore_n 2, 1) := by decide +kernel
theorem dX11_unlike_4 : decode cX11_unlike 4 = .ok (.iload_n 2, 1) := by decide +kernel
theorem dX11_unlike_5 : decode cX11_unlike 5 = .ok (.aload_n 0, 1) := by decide +kernel
theorem dX11_unlike_6 : decode cX11_unlike 6 = .ok (.invokevirtual 80, 3) := by decide +kernel
theorem dX11_unlike_9 : decode cX11_unlike 9 = .ok (.if_icmp .ge 26, 3) := by decide +kernel
theorem dX11_unlike_12 : decode cX11_unlike 12 = .ok (.aload_n 0, 1) := by decide +kernel
theorem dX11_unlike_13 : decode cX11_unlike 13 = .ok (.getfield 23, 3) := by decide +kernel
theorem dX11_unlike_16 : decode cX11_unlike 16 = .ok (.iload_n 2, 1) := by decide +kernel
theorem dX11_unlike_17 : decode cX11_unlike 17 = .ok (.iaload, 1) := by decide +kernel
theorem dX11_unlike_18 : decode cX11_unlike 18 = .ok (.aload_n 0, 1) := by decide +kernel
theorem dX11_unlike_19 : decode cX11_unlike 19 = .ok (.iload_n 2, 1) := by decide +kernel
theorem dX11_unlike_20 : decode cX11_unlike 20 = .ok (.invokevirtual 112, 3) := by decide +kernel
theorem dX11_unlike_23 : decode cX11_unlike 23 = .ok (.if_icmp .eq 6, 3) := by decide +kernel
theorem dX11_unlike_26 : decode cX11_unlike 26 = .ok (.iinc 1 1, 3) := by decide +kernel
theorem dX11_unlike_29 : decode cX11_unlike 29 = .ok (.iinc 2 1, 3) := by decide +kernel
theorem dX11_unlike_32 : decode cX11_unlike 32 = .ok (.goto (-28), 3) := by decide +kernel
theorem dX11_unlike_35 : decode cX11_unlike 35 = .ok (.iload_n 1, 1) := by decide +kernel
theorem dX11_unlike_36 : decode cX11_unlike 36 = .ok (.ireturn, 1) := by decide +kernel
theorem dX11_becomes_0 : decode cX11_becomes 0 = .ok (.aload_n 0, 1) := by decide +kernel
theorem dX11_becomes_1 : decode cX11_becomes 1 = .ok (.invokevirtual 102, 3) := by decide +kernel
theorem dX11_becomes_4 : decode cX11_becomes 4 = .ok (.iconst 0, 1) := by decide +kernel
theorem dX11_becomes_5 : decode cX11_becomes 5 = .ok (.istore_n 1, 1) := by decide +kernel
theorem dX11_becomes_6 : decode cX11_becomes 6 = .ok (.iload_n 1, 1) := by decide +kernel
theorem dX11_becomes_7 : decode cX11_becomes 7 = .ok (.aload_n 0, 1) := by decide +kernel
theorem dX11_becomes_8 : decode cX11_becomes 8 = .ok (.getfield 119, 3) := by decide +kernel
theorem dX11_becomes_11 : decode cX11_becomes 11 = .ok (.if_icmp .ge 24, 3) := by decide +kernel
theorem dX11_becomes_14 : decode cX11_becomes 14 = .ok (.aload_n 0, 1) := by decide +kernel
theorem dX11_becomes_15 : decode cX11_becomes 15 = .ok (.getfield 13, 3) := by decide +kernel
theorem dX11_becomes_18 : decode cX11_becomes 18 = .ok (.bipush 10, 2) := by decide +kernel
theorem dX11_becomes_20 : decode cX11_becomes 20 = .ok (.iload_n 1, 1) := by decide +kernel
theorem dX11_becomes_21 : decode cX11_becomes 21 = .ok (.iadd, 1) := by decide +kernel
theorem dX11_becomes_22 : decode cX11_becomes 22 = .ok (.aload_n 0, 1) := by decide +kernel
theorem dX11_becomes_23 : decode cX11_becomes 23 = .ok (.getfield 23, 3) := by decide +kernel
theorem dX11_becomes_26 : decode cX11_becomes 26 = .ok (.iload_n 1, 1) := by decide +kernel
theorem dX11_becomes_27 : decode cX11_becomes 27 = .ok (.iaload, 1) := by decide +kernel
theorem dX11_becomes_28 : decode cX11_becomes 28 = .ok (.iastore, 1) := by decide +kernel
theorem dX11_becomes_29 : decode cX11_becomes 29 = .ok (.iinc 1 1, 3) := by decide +kernel
theorem dX11_becomes_32 : decode cX11_becomes 32 = .ok (.goto (-26), 3) := by decide +kernel
theorem dX11_becomes_35 : decode cX11_becomes 35 = .ok (.aload_n 0, 1) := by decide +kernel
theorem dX11_becomes_36 : decode cX11_becomes 36 = .ok (.getfield 13, 3) := by decide +kernel
theorem dX11_becomes_39 : decode cX11_becomes 39 = .ok (.iconst 1, 1) := by decide +kernel
theorem dX11_becomes_40 : decode cX11_becomes 40 = .ok (.aload_n 0, 1) := by decide +kernel
theorem dX11_becomes_41 : decode cX11_becomes 41 = .ok (.getfield 119, 3) := by decide +kernel
theorem dX11_becomes_44 : decode cX11_becomes 44 = .ok (.iastore, 1) := by decide +kernel
theorem dX11_becomes_45 : decode cX11_becomes 45 = .ok (.return_, 1) := by decide +kernel
theorem dX11_changes_0 : decode cX11_changes 0 = .ok (.aload_n 0, 1) := by decide +kernel
theorem dX11_changes_1 : decode cX11_changes 1 = .ok (.aload_n 0, 1) := by decide +kernel
theorem dX11_changes_2 : decode cX11_changes 2 = .ok (.invokevirtual 80, 3) := by decide +kernel
theorem dX11_changes_5 : decode cX11_changes 5 = .ok (.putfield 119, 3) := by decide +kernel
theorem dX11_changes_8 : decode cX11_changes 8 = .ok (.aload_n 0, 1) := by decide +kernel
theorem dX11_changes_9 : decode cX11_changes 9 = .ok (.invokevirtual 122, 3) := by decide +kernel
theorem dX11_changes_12 : decode cX11_changes 12 = .ok (.istore_n 1, 1) := by decide +kernel
theorem dX11_changes_13 : decode cX11_changes 13 = .ok (.iload_n 1, 1) := by decide +kernel
theorem dX11_changes_14 : decode cX11_changes 14 = .ok (.ifCond .ne 5, 3) := by decide +kernel
theorem dX11_changes_17 : decode cX11_changes 17 = .ok (.iconst (-1), 1) := by decide +kernel
theorem dX11_changes_18 : decode cX11_changes 18 = .ok (.ireturn, 1) := by decide +kernel
theorem dX11_changes_19 : decode cX11_changes 19 = .ok (.aload_n 0, 1) := by decide +kernel
theorem dX11_changes_20 : decode cX11_changes 20 = .ok (.invokevirtual 125, 3) := by decide +kernel
theorem dX11_changes_23 : decode cX11_changes 23 = .ok (.iload_n 1, 1) := by decide +kernel
theorem dX11_changes_24 : decode cX11_changes 24 = .ok (.ireturn, 1) := by decide +kernel
theorem dX11_swap_0 : decode cX11_swap 0 = .ok (.aload_n 0, 1) := by decide +kernel
theorem dX11_swap_1 : decode cX11_swap 1 = .ok (.iload_n 1, 1) := by decide +kernel
theorem dX11_swap_2 : decode cX11_swap 2 = .ok (.invokevirtual 116, 3) := by decide +kernel
theorem dX11_swap_5 : decode cX11_swap 5 = .ok (.ifCond .eq 16, 3) := by decide +kernel
theorem dX11_swap_8 : decode cX11_swap 8 = .ok (.aload_n 0, 1) := by decide +kernel
theorem dX11_swap_9 : decode cX11_swap 9 = .ok (.iload_n 2, 1) := by decide +kernel
theorem dX11_swap_10 : decode cX11_swap 10 = .ok (.invokevirtual 116, 3) := by decide +kernel
theorem dX11_swap_13 : decode cX11_swap 13 = .ok (.ifCond .eq 8, 3) := by decide +kernel
theorem dX11_swap_16 : decode cX11_swap 16 = .ok (.iload_n 1, 1) := by decide +kernel
theorem dX11_swap_17 : decode cX11_swap 17 = .ok (.iload_n 2, 1) := by decide +kernel
theorem dX11_swap_18 : decode cX11_swap 18 = .ok (.if_icmp .ne 5, 3) := by decide +kernel
theorem dX11_swap_21 : decode cX11_swap 21 = .ok (.iconst (-1), 1) := by decide +kernel
theorem dX11_swap_22 : decode cX11_swap 22 = .ok (.ireturn, 1) := by decide +kernel
theorem dX11_swap_23 : decode cX11_swap 23 = .ok (.iconst 0, 1) := by decide +kernel
theorem dX11_swap_24 : decode cX11_swap 24 = .ok (.istore_n 3, 1) := by decide +kernel
theorem dX11_swap_25 : decode cX11_swap 25 = .ok (.iload_n 3, 1) := by decide +kernel
theorem dX11_swap_26 : decode cX11_swap 26 = .ok (.aload_n 0, 1) := by decide +kernel
theorem dX11_swap_27 : decode cX11_swap 27 = .ok (.invokevirtual 80, 3) := by decide +kernel
theorem dX11_swap_30 : decode cX11_swap 30 = .ok (.if_icmp .ge 52, 3) := by decide +kernel
theorem dX11_swap_33 : decode cX11_swap 33 = .ok (.aload_n 0, 1) := by decide +kernel
theorem dX11_swap_34 : decode cX11_swap 34 = .ok (.iload_n 3, 1) := by decide +kernel
theorem dX11_swap_35 : decode cX11_swap 35 = .ok (.invokevirtual 112, 3) := by decide +kernel
theorem dX11_swap_38 : decode cX11_swap 38 = .ok (.istore 4, 2) := by decide +kernel
theorem dX11_swap_40 : decode cX11_swap 40 = .ok (.aload_n 0, 1) := by decide +kernel
theorem dX11_swap_41 : decode cX11_swap 41 = .ok (.getfield 23, 3) := by decide +kernel
theorem dX11_swap_44 : decode cX11_swap 44 = .ok (.iload_n 3, 1) := by decide +kernel
theorem dX11_swap_45 : decode cX11_swap 45 = .ok (.iload 4, 2) := by decide +kernel
theorem dX11_swap_47 : decode cX11_swap 47 = .ok (.iload_n 1, 1) := by decide +kernel
theorem dX11_swap_48 : decode cX11_swap 48 = .ok (.invokestatic 128, 3) := by decide +kernel
theorem dX11_swap_51 : decode cX11_swap 51 = .ok (.iload 4, 2) := by decide +kernel
theorem dX11_swap_53 : decode cX11_swap 53 = .ok (.iload_n 2, 1) := by decide +kernel
theorem dX11_swap_54 : decode cX11_swap 54 = .ok (.invokestatic 128, 3) := by decide +kernel
theorem dX11_swap_57 : decode cX11_swap 57 = .ok (.if_icmp .eq 16, 3) := by decide +kernel
theorem dX11_swap_60 : decode cX11_swap 60 = .ok (.iload 4, 2) := by decide +kernel
theorem dX11_swap_62 : decode cX11_swap 62 = .ok (.iconst 1, 1) := by decide +kernel
theorem dX11_swap_63 : decode cX11_swap 63 = .ok (.iload_n 1, 1) := by decide +kernel
theorem dX11_swap_64 : decode cX11_swap 64 = .ok (.ishl, 1) := by decide +kernel
theorem dX11_swap_65 : decode cX11_swap 65 = .ok (.iconst 1, 1) := by decide +kernel
theorem dX11_swap_66 : decode cX11_swap 66 = .ok (.iload_n 2, 1) := by decide +kernel
theorem dX11_swap_67 : decode cX11_swap 67 = .ok (.ishl, 1) := by decide +kernel
theorem dX11_swap_68 : decode cX11_swap 68 = .ok (.ior, 1) := by decide +kernel
theorem dX11_swap_69 : decode cX11_swap 69 = .ok (.ixor, 1) := by decide +kernel
theorem dX11_swap_70 : decode cX11_swap 70 = .ok (.goto 5, 3) := by decide +kernel
theorem dX11_swap_73 : decode cX11_swap 73 = .ok (.iload 4, 2) := by decide +kernel
theorem dX11_swap_75 : decode cX11_swap 75 = .ok (.iastore, 1) := by decide +kernel
theorem dX11_swap_76 : decode cX11_swap 76 = .ok (.iinc 3 1, 3) := by decide +kernel
theorem dX11_swap_79 : decode cX11_swap 79 = .ok (.goto (-54), 3) := by decide +kernel
theorem dX11_swap_82 : decode cX11_swap 82 = .ok (.aload_n 0, 1) := by decide +kernel
theorem dX11_swap_83 : decode cX11_swap 83 = .ok (.invokevirtual 132, 3) := by decide +kernel
theorem dX11_swap_86 : decode cX11_swap 86 = .ok (.ireturn, 1) := by decide +kernel
theorem dX11_turn_0 : decode cX11_turn 0 = .ok (.iconst 0, 1) := by decide +kernel
theorem dX11_turn_1 : decode cX11_turn 1 = .ok (.istore_n 1, 1) := by decide +kernel
theorem dX11_turn_2 : decode cX11_turn 2 = .ok (.iload_n 1, 1) := by decide +kernel
theorem dX11_turn_3 : decode cX11_turn 3 = .ok (.aload_n 0, 1) := by decide +kernel
theorem dX11_turn_4 : decode cX11_turn 4 = .ok (.invokevirtual 80, 3) := by decide +kernel
theorem dX11_turn_7 : decode cX11_turn 7 = .ok (.if_icmp .ge 40, 3) := by decide +kernel
theorem dX11_turn_10 : decode cX11_turn 10 = .ok (.aload_n 0, 1) := by decide +kernel
theorem dX11_turn_11 : decode cX11_turn 11 = .ok (.iload_n 1, 1) := by decide +kernel
theorem dX11_turn_12 : decode cX11_turn 12 = .ok (.invokevirtual 112, 3) := by decide +kernel
theorem dX11_turn_15 : decode cX11_turn 15 = .ok (.iconst 1, 1) := by decide +kernel
theorem dX11_turn_16 : decode cX11_turn 16 = .ok (.ishl, 1) := by decide +kernel
theorem dX11_turn_17 : decode cX11_turn 17 = .ok (.istore_n 2, 1) := by decide +kernel
theorem dX11_turn_18 : decode cX11_turn 18 = .ok (.aload_n 0, 1) := by decide +kernel
theorem dX11_turn_19 : decode cX11_turn 19 = .ok (.getfield 23, 3) := by decide +kernel
theorem dX11_turn_22 : decode cX11_turn 22 = .ok (.iload_n 1, 1) := by decide +kernel
theorem dX11_turn_23 : decode cX11_turn 23 = .ok (.iload_n 2, 1) := by decide +kernel
theorem dX11_turn_24 : decode cX11_turn 24 = .ok (.aload_n 0, 1) := by decide +kernel
theorem dX11_turn_25 : decode cX11_turn 25 = .ok (.invokevirtual 88, 3) := by decide +kernel
theorem dX11_turn_28 : decode cX11_turn 28 = .ok (.iand, 1) := by decide +kernel
theorem dX11_turn_29 : decode cX11_turn 29 = .ok (.iload_n 2, 1) := by decide +kernel
theorem dX11_turn_30 : decode cX11_turn 30 = .ok (.aload_n 0, 1) := by decide +kernel
theorem dX11_turn_31 : decode cX11_turn 31 = .ok (.getfield 13, 3) := by decide +kernel
theorem dX11_turn_34 : decode cX11_turn 34 = .ok (.iconst 0, 1) := by decide +kernel
theorem dX11_turn_35 : decode cX11_turn 35 = .ok (.iaload, 1) := by decide +kernel
theorem dX11_turn_36 : decode cX11_turn 36 = .ok (.ishr, 1) := by decide +kernel
theorem dX11_turn_37 : decode cX11_turn 37 = .ok (.iconst 1, 1) := by decide +kernel
theorem dX11_turn_38 : decode cX11_turn 38 = .ok (.iand, 1) := by decide +kernel
theorem dX11_turn_39 : decode cX11_turn 39 = .ok (.ior, 1) := by decide +kernel
theorem dX11_turn_40 : decode cX11_turn 40 = .ok (.iastore, 1) := by decide +kernel
theorem dX11_turn_41 : decode cX11_turn 41 = .ok (.iinc 1 1, 3) := by decide +kernel
theorem dX11_turn_44 : decode cX11_turn 44 = .ok (.goto (-42), 3) := by decide +kernel
theorem dX11_turn_47 : decode cX11_turn 47 = .ok (.aload_n 0, 1) := by decide +kernel
theorem dX11_turn_48 : decode cX11_turn 48 = .ok (.invokevirtual 132, 3) := by decide +kernel
theorem dX11_turn_51 : decode cX11_turn 51 = .ok (.ireturn, 1) := by decide +kernel
theorem dX11_without_0 : decode cX11_without 0 = .ok (.aload_n 0, 1) := by decide +kernel
theorem dX11_without_1 : decode cX11_without 1 = .ok (.iload_n 1, 1) := by decide +kernel
theorem dX11_without_2 : decode cX11_without 2 = .ok (.invokevirtual 116, 3) := by decide +kernel
theorem dX11_without_5 : decode cX11_without 5 = .ok (.ifCond .ne 5, 3) := by decide +kernel
theorem dX11_without_8 : decode cX11_without 8 = .ok (.iconst (-1), 1) := by decide +kernel
theorem dX11_without_9 : decode cX11_without 9 = .ok (.ireturn, 1) := by decide +kernel
theorem dX11_without_10 : decode cX11_without 10 = .ok (.iconst 0, 1) := by decide +kernel
theorem dX11_without_11 : decode cX11_without 11 = .ok (.istore_n 2, 1) := by decide +kernel
theorem dX11_without_12 : decode cX11_without 12 = .ok (.aload_n 0, 1) := by decide +kernel
theorem dX11_without_13 : decode cX11_without 13 = .ok (.iconst 0, 1) := by decide +kernel
theorem dX11_without_14 : decode cX11_without 14 = .ok (.putfield 119, 3) := by decide +kernel
theorem dX11_without_17 : decode cX11_without 17 = .ok (.iconst 0, 1) := by decide +kernel
theorem dX11_without_18 : decode cX11_without 18 = .ok (.istore_n 3, 1) := by decide +kernel
theorem dX11_without_19 : decode cX11_without 19 = .ok (.iload_n 3, 1) := by decide +kernel
theorem dX11_without_20 : decode cX11_without 20 = .ok (.aload_n 0, 1) := by decide +kernel
theorem dX11_without_21 : decode cX11_without 21 = .ok (.invokevirtual 80, 3) := by decide +kernel
theorem dX11_without_24 : decode cX11_without 24 = .ok (.if_icmp .ge 90, 3) := by decide +kernel
theorem dX11_without_27 : decode cX11_without 27 = .ok (.iload_n 2, 1) := by decide +kernel
theorem dX11_without_28 : decode cX11_without 28 = .ok (.ifCond .ne 15, 3) := by decide +kernel
theorem dX11_without_31 : decode cX11_without 31 = .ok (.aload_n 0, 1) := by decide +kernel
theorem dX11_without_32 : decode cX11_without 32 = .ok (.iload_n 3, 1) := by decide +kernel
theorem dX11_without_33 : decode cX11_without 33 = .ok (.invokevirtual 112, 3) := by decide +kernel
theorem dX11_without_36 : decode cX11_without 36 = .ok (.iload_n 1, 1) := by decide +kernel
theorem dX11_without_37 : decode cX11_without 37 = .ok (.invokestatic 128, 3) := by decide +kernel
theorem dX11_without_40 : decode cX11_without 40 = .ok (.ifCond .eq 7, 3) := by decide +kernel
theorem dX11_without_43 : decode cX11_without 43 = .ok (.iconst 1, 1) := by decide +kernel
theorem dX11_without_44 : decode cX11_without 44 = .ok (.goto 4, 3) := by decide +kernel
theorem dX11_without_47 : decode cX11_without 47 = .ok (.iconst 0, 1) := by decide +kernel
theorem dX11_without_48 : decode cX11_without 48 = .ok (.istore_n 2, 1) := by decide +kernel
theorem dX11_without_49 : decode cX11_without 49 = .ok (.aload_n 0, 1) := by decide +kernel
theorem dX11_without_50 : decode cX11_without 50 = .ok (.iload_n 3, 1) := by decide +kernel
theorem dX11_without_51 : decode cX11_without 51 = .ok (.invokevirtual 112, 3) := by decide +kernel
theorem dX11_without_54 : decode cX11_without 54 = .ok (.iconst 1, 1) := by decide +kernel
theorem dX11_without_55 : decode cX11_without 55 = .ok (.iload_n 1, 1) := by decide +kernel
theorem dX11_without_56 : decode cX11_without 56 = .ok (.ishl, 1) := by decide +kernel
theorem dX11_without_57 : decode cX11_without 57 = .ok (.iconst (-1), 1) := by decide +kernel
theorem dX11_without_58 : decode cX11_without 58 = .ok (.ixor, 1) := by decide +kernel
theorem dX11_without_59 : decode cX11_without 59 = .ok (.iand, 1) := by decide +kernel
theorem dX11_without_60 : decode cX11_without 60 = .ok (.istore 4, 2) := by decide +kernel
theorem dX11_without_62 : decode cX11_without 62 = .ok (.iload 4, 2) := by decide +kernel
theorem dX11_without_64 : decode cX11_without 64 = .ok (.ifCond .eq 44, 3) := by decide +kernel
theorem dX11_without_67 : decode cX11_without 67 = .ok (.aload_n 0, 1) := by decide +kernel
theorem dX11_without_68 : decode cX11_without 68 = .ok (.getfield 23, 3) := by decide +kernel
theorem dX11_without_71 : decode cX11_without 71 = .ok (.iconst 0, 1) := by decide +kernel
theorem dX11_without_72 : decode cX11_without 72 = .ok (.aload_n 0, 1) := by decide +kernel
theorem dX11_without_73 : decode cX11_without 73 = .ok (.getfield 119, 3) := by decide +kernel
theorem dX11_without_76 : decode cX11_without 76 = .ok (.iload 4, 2) := by decide +kernel
theorem dX11_without_78 : decode cX11_without 78 = .ok (.invokestatic 91, 3) := by decide +kernel
theorem dX11_without_81 : decode cX11_without 81 = .ok (.ifCond .eq 6, 3) := by decide +kernel
theorem dX11_without_84 : decode cX11_without 84 = .ok (.goto 24, 3) := by decide +kernel
theorem dX11_without_87 : decode cX11_without 87 = .ok (.aload_n 0, 1) := by decide +kernel
theorem dX11_without_88 : decode cX11_without 88 = .ok (.getfield 23, 3) := by decide +kernel
theorem dX11_without_91 : decode cX11_without 91 = .ok (.aload_n 0, 1) := by decide +kernel
theorem dX11_without_92 : decode cX11_without 92 = .ok (.getfield 119, 3) := by decide +kernel
theorem dX11_without_95 : decode cX11_without 95 = .ok (.iload 4, 2) := by decide +kernel
theorem dX11_without_97 : decode cX11_without 97 = .ok (.iastore, 1) := by decide +kernel
theorem dX11_without_98 : decode cX11_without 98 = .ok (.aload_n 0, 1) := by decide +kernel
theorem dX11_without_99 : decode cX11_without 99 = .ok (.dup, 1) := by decide +kernel
theorem dX11_without_100 : decode cX11_without 100 = .ok (.getfield 119, 3) := by decide +kernel
theorem dX11_without_103 : decode cX11_without 103 = .ok (.iconst 1, 1) := by decide +kernel
theorem dX11_without_104 : decode cX11_without 104 = .ok (.iadd, 1) := by decide +kernel
theorem dX11_without_105 : decode cX11_without 105 = .ok (.putfield 119, 3) := by decide +kernel
theorem dX11_without_108 : decode cX11_without 108 = .ok (.iinc 3 1, 3) := by decide +kernel
theorem dX11_without_111 : decode cX11_without 111 = .ok (.goto (-92), 3) := by decide +kernel
theorem dX11_without_114 : decode cX11_without 114 = .ok (.iload_n 2, 1) := by decide +kernel
theorem dX11_without_115 : decode cX11_without 115 = .ok (.ifCond .ne 5, 3) := by decide +kernel
theorem dX11_without_118 : decode cX11_without 118 = .ok (.iconst (-1), 1) := by decide +kernel
theorem dX11_without_119 : decode cX11_without 119 = .ok (.ireturn, 1) := by decide +kernel
theorem dX11_without_120 : decode cX11_without 120 = .ok (.aload_n 0, 1) := by decide +kernel
theorem dX11_without_121 : decode cX11_without 121 = .ok (.invokevirtual 125, 3) := by decide +kernel
theorem dX11_without_124 : decode cX11_without 124 = .ok (.aload_n 0, 1) := by decide +kernel
theorem dX11_without_125 : decode cX11_without 125 = .ok (.invokevirtual 80, 3) := by decide +kernel
theorem dX11_without_128 : decode cX11_without 128 = .ok (.ireturn, 1) := by decide +kernel
theorem dX11_lean_0 : decode cX11_lean 0 = .ok (.aload_n 0, 1) := by decide +kernel
theorem dX11_lean_1 : decode cX11_lean 1 = .ok (.invokevirtual 135, 3) := by decide +kernel
theorem dX11_lean_4 : decode cX11_lean 4 = .ok (.iconst 0, 1) := by decide +kernel
theorem dX11_lean_5 : decode cX11_lean 5 = .ok (.istore_n 1, 1) := by decide +kernel
theorem dX11_lean_6 : decode cX11_lean 6 = .ok (.aload_n 0, 1) := by decide +kernel
theorem dX11_lean_7 : decode cX11_lean 7 = .ok (.iconst 0, 1) := by decide +kernel
theorem dX11_lean_8 : decode cX11_lean 8 = .ok (.putfield 119, 3) := by decide +kernel
theorem dX11_lean_11 : decode cX11_lean 11 = .ok (.iconst 0, 1) := by decide +kernel
theorem dX11_lean_12 : decode cX11_lean 12 = .ok (.istore_n 2, 1) := by decide +kernel
theorem dX11_lean_13 : decode cX11_lean 13 = .ok (.iload_n 2, 1) := by decide +kernel
theorem dX11_lean_14 : decode cX11_lean 14 = .ok (.aload_n 0, 1) := by decide +kernel
theorem dX11_lean_15 : decode cX11_lean 15 = .ok (.invokevirtual 80, 3) := by decide +kernel
theorem dX11_lean_18 : decode cX11_lean 18 = .ok (.if_icmp .ge 51, 3) := by decide +kernel
theorem dX11_lean_21 : decode cX11_lean 21 = .ok (.aload_n 0, 1) := by decide +kernel
theorem dX11_lean_22 : decode cX11_lean 22 = .ok (.aload_n 0, 1) := by decide +kernel
theorem dX11_lean_23 : decode cX11_lean 23 = .ok (.iload_n 2, 1) := by decide +kernel
theorem dX11_lean_24 : decode cX11_lean 24 = .ok (.invokevirtual 112, 3) := by decide +kernel
theorem dX11_lean_27 : decode cX11_lean 27 = .ok (.invokevirtual 138, 3) := by decide +kernel
theorem dX11_lean_30 : decode cX11_lean 30 = .ok (.ifCond .ne 9, 3) := by decide +kernel
theorem dX11_lean_33 : decode cX11_lean 33 = .ok (.iinc 1 1, 3) := by decide +kernel
theorem dX11_lean_36 : decode cX11_lean 36 = .ok (.goto 27, 3) := by decide +kernel
theorem dX11_lean_39 : decode cX11_lean 39 = .ok (.aload_n 0, 1) := by decide +kernel
theorem dX11_lean_40 : decode cX11_lean 40 = .ok (.getfield 23, 3) := by decide +kernel
theorem dX11_lean_43 : decode cX11_lean 43 = .ok (.aload_n 0, 1) := by decide +kernel
theorem dX11_lean_44 : decode cX11_lean 44 = .ok (.getfield 119, 3) := by decide +kernel
theorem dX11_lean_47 : decode cX11_lean 47 = .ok (.aload_n 0, 1) := by decide +kernel
theorem dX11_lean_48 : decode cX11_lean 48 = .ok (.iload_n 2, 1) := by decide +kernel
theorem dX11_lean_49 : decode cX11_lean 49 = .ok (.invokevirtual 112, 3) := by decide +kernel
theorem dX11_lean_52 : decode cX11_lean 52 = .ok (.iastore, 1) := by decide +kernel
theorem dX11_lean_53 : decode cX11_lean 53 = .ok (.aload_n 0, 1) := by decide +kernel
theorem dX11_lean_54 : decode cX11_lean 54 = .ok (.dup, 1) := by decide +kernel
theorem dX11_lean_55 : decode cX11_lean 55 = .ok (.getfield 119, 3) := by decide +kernel
theorem dX11_lean_58 : decode cX11_lean 58 = .ok (.iconst 1, 1) := by decide +kernel
theorem dX11_lean_59 : decode cX11_lean 59 = .ok (.iadd, 1) := by decide +kernel
theorem dX11_lean_60 : decode cX11_lean 60 = .ok (.putfield 119, 3) := by decide +kernel
theorem dX11_lean_63 : decode cX11_lean 63 = .ok (.iinc 2 1, 3) := by decide +kernel
theorem dX11_lean_66 : decode cX11_lean 66 = .ok (.goto (-53), 3) := by decide +kernel
theorem dX11_lean_69 : decode cX11_lean 69 = .ok (.iload_n 1, 1) := by decide +kernel
theorem dX11_lean_70 : decode cX11_lean 70 = .ok (.ifCond .ne 5, 3) := by decide +kernel
theorem dX11_lean_73 : decode cX11_lean 73 = .ok (.iconst (-1), 1) := by decide +kernel
theorem dX11_lean_74 : decode cX11_lean 74 = .ok (.ireturn, 1) := by decide +kernel
theorem dX11_lean_75 : decode cX11_lean 75 = .ok (.aload_n 0, 1) := by decide +kernel
theorem dX11_lean_76 : decode cX11_lean 76 = .ok (.invokevirtual 125, 3) := by decide +kernel
theorem dX11_lean_79 : decode cX11_lean 79 = .ok (.iload_n 1, 1) := by decide +kernel
theorem dX11_lean_80 : decode cX11_lean 80 = .ok (.ireturn, 1) := by decide +kernel
theorem dX11_replaces_0 : decode cX11_replaces 0 = .ok (.aload_n 0, 1) := by decide +kernel
theorem dX11_replaces_1 : decode cX11_replaces 1 = .ok (.getfield 119, 3) := by decide +kernel
theorem dX11_replaces_4 : decode cX11_replaces 4 = .ok (.bipush 12, 2) := by decide +kernel
theorem dX11_replaces_6 : decode cX11_replaces 6 = .ok (.if_icmp .gt 21, 3) := by decide +kernel
theorem dX11_replaces_9 : decode cX11_replaces 9 = .ok (.aload_n 0, 1) := by decide +kernel
theorem dX11_replaces_10 : decode cX11_replaces 10 = .ok (.getfield 119, 3) := by decide +kernel
theorem dX11_replaces_13 : decode cX11_replaces 13 = .ok (.aload_n 0, 1) := by decide +kernel
theorem dX11_replaces_14 : decode cX11_replaces 14 = .ok (.invokevirtual 80, 3) := by decide +kernel
theorem dX11_replaces_17 : decode cX11_replaces 17 = .ok (.if_icmp .ne 12, 3) := by decide +kernel
theorem dX11_replaces_20 : decode cX11_replaces 20 = .ok (.aload_n 0, 1) := by decide +kernel
theorem dX11_replaces_21 : decode cX11_replaces 21 = .ok (.invokevirtual 122, 3) := by decide +kernel
theorem dX11_replaces_24 : decode cX11_replaces 24 = .ok (.ifCond .ne 5, 3) := by decide +kernel
theorem dX11_replaces_27 : decode cX11_replaces 27 = .ok (.iconst (-1), 1) := by decide +kernel
theorem dX11_replaces_28 : decode cX11_replaces 28 = .ok (.ireturn, 1) := by decide +kernel
theorem dX11_replaces_29 : decode cX11_replaces 29 = .ok (.aload_n 0, 1) := by decide +kernel
theorem dX11_replaces_30 : decode cX11_replaces 30 = .ok (.invokevirtual 125, 3) := by decide +kernel
theorem dX11_replaces_33 : decode cX11_replaces 33 = .ok (.aload_n 0, 1) := by decide +kernel
theorem dX11_replaces_34 : decode cX11_replaces 34 = .ok (.invokevirtual 80, 3) := by decide +kernel
theorem dX11_replaces_37 : decode cX11_replaces 37 = .ok (.ireturn, 1) := by decide +kernel
theorem dX11_basis_0 : decode cX11_basis 0 = .ok (.aload_n 0, 1) := by decide +kernel
theorem dX11_basis_1 : decode cX11_basis 1 = .ok (.invokevirtual 135, 3) := by decide +kernel
theorem dX11_basis_4 : decode cX11_basis 4 = .ok (.aload_n 0, 1) := by decide +kernel
theorem dX11_basis_5 : decode cX11_basis 5 = .ok (.iconst 0, 1) := by decide +kernel
theorem dX11_basis_6 : decode cX11_basis 6 = .ok (.putfield 119, 3) := by decide +kernel
theorem dX11_basis_9 : decode cX11_basis 9 = .ok (.iconst 0, 1) := by decide +kernel
theorem dX11_basis_10 : decode cX11_basis 10 = .ok (.istore_n 1, 1) := by decide +kernel
theorem dX11_basis_11 : decode cX11_basis 11 = .ok (.iload_n 1, 1) := by decide +kernel
theorem dX11_basis_12 : decode cX11_basis 12 = .ok (.aload_n 0, 1) := by decide +kernel
theorem dX11_basis_13 : decode cX11_basis 13 = .ok (.getfield 141, 3) := by decide +kernel
theorem dX11_basis_16 : decode cX11_basis 16 = .ok (.if_icmp .ge 50, 3) := by decide +kernel
theorem dX11_basis_19 : decode cX11_basis 19 = .ok (.aload_n 0, 1) := by decide +kernel
theorem dX11_basis_20 : decode cX11_basis 20 = .ok (.aload_n 0, 1) := by decide +kernel
theorem dX11_basis_21 : decode cX11_basis 21 = .ok (.getfield 30, 3) := by decide +kernel
theorem dX11_basis_24 : decode cX11_basis 24 = .ok (.iload_n 1, 1) := by decide +kernel
theorem dX11_basis_25 : decode cX11_basis 25 = .ok (.iaload, 1) := by decide +kernel
theorem dX11_basis_26 : decode cX11_basis 26 = .ok (.invokevirtual 138, 3) := by decide +kernel
theorem dX11_basis_29 : decode cX11_basis 29 = .ok (.ifCond .ne 6, 3) := by decide +kernel
theorem dX11_basis_32 : decode cX11_basis 32 = .ok (.goto 28, 3) := by decide +kernel
theorem dX11_basis_35 : decode cX11_basis 35 = .ok (.aload_n 0, 1) := by decide +kernel
theorem dX11_basis_36 : decode cX11_basis 36 = .ok (.getfield 23, 3) := by decide +kernel
theorem dX11_basis_39 : decode cX11_basis 39 = .ok (.aload_n 0, 1) := by decide +kernel
theorem dX11_basis_40 : decode cX11_basis 40 = .ok (.getfield 119, 3) := by decide +kernel
theorem dX11_basis_43 : decode cX11_basis 43 = .ok (.aload_n 0, 1) := by decide +kernel
theorem dX11_basis_44 : decode cX11_basis 44 = .ok (.getfield 30, 3) := by decide +kernel
theorem dX11_basis_47 : decode cX11_basis 47 = .ok (.iload_n 1, 1) := by decide +kernel
theorem dX11_basis_48 : decode cX11_basis 48 = .ok (.iaload, 1) := by decide +kernel
theorem dX11_basis_49 : decode cX11_basis 49 = .ok (.iastore, 1) := by decide +kernel
theorem dX11_basis_50 : decode cX11_basis 50 = .ok (.aload_n 0, 1) := by decide +kernel
theorem dX11_basis_51 : decode cX11_basis 51 = .ok (.dup, 1) := by decide +kernel
theorem dX11_basis_52 : decode cX11_basis 52 = .ok (.getfield 119, 3) := by decide +kernel
theorem dX11_basis_55 : decode cX11_basis 55 = .ok (.iconst 1, 1) := by decide +kernel
theorem dX11_basis_56 : decode cX11_basis 56 = .ok (.iadd, 1) := by decide +kernel
theorem dX11_basis_57 : decode cX11_basis 57 = .ok (.putfield 119, 3) := by decide +kernel
theorem dX11_basis_60 : decode cX11_basis 60 = .ok (.iinc 1 1, 3) := by decide +kernel
theorem dX11_basis_63 : decode cX11_basis 63 = .ok (.goto (-52), 3) := by decide +kernel
theorem dX11_basis_66 : decode cX11_basis 66 = .ok (.aload_n 0, 1) := by decide +kernel
theorem dX11_basis_67 : decode cX11_basis 67 = .ok (.invokevirtual 144, 3) := by decide +kernel
theorem dX11_basis_70 : decode cX11_basis 70 = .ok (.ireturn, 1) := by decide +kernel
theorem dX11_listMany_0 : decode cX11_listMany 0 = .ok (.aload_n 0, 1) := by decide +kernel
theorem dX11_listMany_1 : decode cX11_listMany 1 = .ok (.getfield 13, 3) := by decide +kernel
theorem dX11_listMany_4 : decode cX11_listMany 4 = .ok (.iconst 2, 1) := by decide +kernel
theorem dX11_listMany_5 : decode cX11_listMany 5 = .ok (.iaload, 1) := by decide +kernel
theorem dX11_listMany_6 : decode cX11_listMany 6 = .ok (.ireturn, 1) := by decide +kernel
theorem dX11_isListed_0 : decode cX11_isListed 0 = .ok (.aload_n 0, 1) := by decide +kernel
theorem dX11_isListed_1 : decode cX11_isListed 1 = .ok (.getfield 13, 3) := by decide +kernel
theorem dX11_isListed_4 : decode cX11_isListed 4 = .ok (.bipush 22, 2) := by decide +kernel
theorem dX11_isListed_6 : decode cX11_isListed 6 = .ok (.aload_n 0, 1) := by decide +kernel
theorem dX11_isListed_7 : decode cX11_isListed 7 = .ok (.invokevirtual 147, 3) := by decide +kernel
theorem dX11_isListed_10 : decode cX11_isListed 10 = .ok (.iload_n 1, 1) := by decide +kernel
theorem dX11_isListed_11 : decode cX11_isListed 11 = .ok (.invokestatic 91, 3) := by decide +kernel
theorem dX11_isListed_14 : decode cX11_isListed 14 = .ok (.ireturn, 1) := by decide +kernel
theorem dX11_list_0 : decode cX11_list 0 = .ok (.aload_n 0, 1) := by decide +kernel
theorem dX11_list_1 : decode cX11_list 1 = .ok (.iload_n 1, 1) := by decide +kernel
theorem dX11_list_2 : decode cX11_list 2 = .ok (.invokevirtual 95, 3) := by decide +kernel
theorem dX11_list_5 : decode cX11_list 5 = .ok (.ifCond .eq 24, 3) := by decide +kernel
theorem dX11_list_8 : decode cX11_list 8 = .ok (.iload_n 1, 1) := by decide +kernel
theorem dX11_list_9 : decode cX11_list 9 = .ok (.ifCond .eq 20, 3) := by decide +kernel
theorem dX11_list_12 : decode cX11_list 12 = .ok (.aload_n 0, 1) := by decide +kernel
theorem dX11_list_13 : decode cX11_list 13 = .ok (.iload_n 1, 1) := by decide +kernel
theorem dX11_list_14 : decode cX11_list 14 = .ok (.invokevirtual 150, 3) := by decide +kernel
theorem dX11_list_17 : decode cX11_list 17 = .ok (.ifCond .ne 12, 3) := by decide +kernel
theorem dX11_list_20 : decode cX11_list 20 = .ok (.aload_n 0, 1) := by decide +kernel
theorem dX11_list_21 : decode cX11_list 21 = .ok (.invokevirtual 147, 3) := by decide +kernel
theorem dX11_list_24 : decode cX11_list 24 = .ok (.bipush 20, 2) := by decide +kernel
theorem dX11_list_26 : decode cX11_list 26 = .ok (.if_icmp .ne 5, 3) := by decide +kernel
theorem dX11_list_29 : decode cX11_list 29 = .ok (.iconst (-1), 1) := by decide +kernel
theorem dX11_list_30 : decode cX11_list 30 = .ok (.ireturn, 1) := by decide +kernel
theorem dX11_list_31 : decode cX11_list 31 = .ok (.aload_n 0, 1) := by decide +kernel
theorem dX11_list_32 : decode cX11_list 32 = .ok (.invokevirtual 102, 3) := by decide +kernel
theorem dX11_list_35 : decode cX11_list 35 = .ok (.aload_n 0, 1) := by decide +kernel
theorem dX11_list_36 : decode cX11_list 36 = .ok (.getfield 13, 3) := by decide +kernel
theorem dX11_list_39 : decode cX11_list 39 = .ok (.bipush 22, 2) := by decide +kernel
theorem dX11_list_41 : decode cX11_list 41 = .ok (.aload_n 0, 1) := by decide +kernel
theorem dX11_list_42 : decode cX11_list 42 = .ok (.invokevirtual 147, 3) := by decide +kernel
theorem dX11_list_45 : decode cX11_list 45 = .ok (.iadd, 1) := by decide +kernel
theorem dX11_list_46 : decode cX11_list 46 = .ok (.iload_n 1, 1) := by decide +kernel
theorem dX11_list_47 : decode cX11_list 47 = .ok (.iastore, 1) := by decide +kernel
theorem dX11_list_48 : decode cX11_list 48 = .ok (.aload_n 0, 1) := by decide +kernel
theorem dX11_list_49 : decode cX11_list 49 = .ok (.getfield 13, 3) := by decide +kernel
theorem dX11_list_52 : decode cX11_list 52 = .ok (.iconst 2, 1) := by decide +kernel
theorem dX11_list_53 : decode cX11_list 53 = .ok (.dup2, 1) := by decide +kernel
theorem dX11_list_54 : decode cX11_list 54 = .ok (.iaload, 1) := by decide +kernel
theorem dX11_list_55 : decode cX11_list 55 = .ok (.iconst 1, 1) := by decide +kernel
theorem dX11_list_56 : decode cX11_list 56 = .ok (.iadd, 1) := by decide +kernel
theorem dX11_list_57 : decode cX11_list 57 = .ok (.iastore, 1) := by decide +kernel
theorem dX11_list_58 : decode cX11_list 58 = .ok (.aload_n 0, 1) := by decide +kernel
theorem dX11_list_59 : decode cX11_list 59 = .ok (.invokevirtual 147, 3) := by decide +kernel
theorem dX11_list_62 : decode cX11_list 62 = .ok (.ireturn, 1) := by decide +kernel
theorem dX11_strike_0 : decode cX11_strike 0 = .ok (.iload_n 1, 1) := by decide +kernel
theorem dX11_strike_1 : decode cX11_strike 1 = .ok (.iconst 0, 1) := by decide +kernel
theorem dX11_strike_2 : decode cX11_strike 2 = .ok (.aload_n 0, 1) := by decide +kernel
theorem dX11_strike_3 : decode cX11_strike 3 = .ok (.invokevirtual 147, 3) := by decide +kernel
theorem dX11_strike_6 : decode cX11_strike 6 = .ok (.iconst 1, 1) := by decide +kernel
theorem dX11_strike_7 : decode cX11_strike 7 = .ok (.isub, 1) := by decide +kernel
theorem dX11_strike_8 : decode cX11_strike 8 = .ok (.invokestatic 84, 3) := by decide +kernel
theorem dX11_strike_11 : decode cX11_strike 11 = .ok (.ifCond .ne 5, 3) := by decide +kernel
theorem dX11_strike_14 : decode cX11_strike 14 = .ok (.iconst (-1), 1) := by decide +kernel
theorem dX11_strike_15 : decode cX11_strike 15 = .ok (.ireturn, 1) := by decide +kernel
theorem dX11_strike_16 : decode cX11_strike 16 = .ok (.aload_n 0, 1) := by decide +kernel
theorem dX11_strike_17 : decode cX11_strike 17 = .ok (.invokevirtual 102, 3) := by decide +kernel
theorem dX11_strike_20 : decode cX11_strike 20 = .ok (.iload_n 1, 1) := by decide +kernel
theorem dX11_strike_21 : decode cX11_strike 21 = .ok (.istore_n 2, 1) := by decide +kernel
theorem dX11_strike_22 : decode cX11_strike 22 = .ok (.iload_n 2, 1) := by decide +kernel
theorem dX11_strike_23 : decode cX11_strike 23 = .ok (.iconst 1, 1) := by decide +kernel
theorem dX11_strike_24 : decode cX11_strike 24 = .ok (.iadd, 1) := by decide +kernel
theorem dX11_strike_25 : decode cX11_strike 25 = .ok (.aload_n 0, 1) := by decide +kernel
theorem dX11_strike_26 : decode cX11_strike 26 = .ok (.invokevirtual 147, 3) := by decide +kernel
theorem dX11_strike_29 : decode cX11_strike 29 = .ok (.if_icmp .ge 29, 3) := by decide +kernel
theorem dX11_strike_32 : decode cX11_strike 32 = .ok (.aload_n 0, 1) := by decide +kernel
theorem dX11_strike_33 : decode cX11_strike 33 = .ok (.getfield 13, 3) := by decide +kernel
theorem dX11_strike_36 : decode cX11_strike 36 = .ok (.bipush 22, 2) := by decide +kernel
theorem dX11_strike_38 : decode cX11_strike 38 = .ok (.iload_n 2, 1) := by decide +kernel
theorem dX11_strike_39 : decode cX11_strike 39 = .ok (.iadd, 1) := by decide +kernel
theorem dX11_strike_40 : decode cX11_strike 40 = .ok (.aload_n 0, 1) := by decide +kernel
theorem dX11_strike_41 : decode cX11_strike 41 = .ok (.getfield 13, 3) := by decide +kernel
theorem dX11_strike_44 : decode cX11_strike 44 = .ok (.bipush 22, 2) := by decide +kernel
theorem dX11_strike_46 : decode cX11_strike 46 = .ok (.iload_n 2, 1) := by decide +kernel
theorem dX11_strike_47 : decode cX11_strike 47 = .ok (.iadd, 1) := by decide +kernel
theorem dX11_strike_48 : decode cX11_strike 48 = .ok (.iconst 1, 1) := by decide +kernel
theorem dX11_strike_49 : decode cX11_strike 49 = .ok (.iadd, 1) := by decide +kernel
theorem dX11_strike_50 : decode cX11_strike 50 = .ok (.iaload, 1) := by decide +kernel
theorem dX11_strike_51 : decode cX11_strike 51 = .ok (.iastore, 1) := by decide +kernel
theorem dX11_strike_52 : decode cX11_strike 52 = .ok (.iinc 2 1, 3) := by decide +kernel
theorem dX11_strike_55 : decode cX11_strike 55 = .ok (.goto (-33), 3) := by decide +kernel
theorem dX11_strike_58 : decode cX11_strike 58 = .ok (.aload_n 0, 1) := by decide +kernel
theorem dX11_strike_59 : decode cX11_strike 59 = .ok (.getfield 13, 3) := by decide +kernel
theorem dX11_strike_62 : decode cX11_strike 62 = .ok (.iconst 2, 1) := by decide +kernel
theorem dX11_strike_63 : decode cX11_strike 63 = .ok (.dup2, 1) := by decide +kernel
theorem dX11_strike_64 : decode cX11_strike 64 = .ok (.iaload, 1) := by decide +kernel
theorem dX11_strike_65 : decode cX11_strike 65 = .ok (.iconst 1, 1) := by decide +kernel
theorem dX11_strike_66 : decode cX11_strike 66 = .ok (.isub, 1) := by decide +kernel
theorem dX11_strike_67 : decode cX11_strike 67 = .ok (.iastore, 1) := by decide +kernel
theorem dX11_strike_68 : decode cX11_strike 68 = .ok (.aload_n 0, 1) := by decide +kernel
theorem dX11_strike_69 : decode cX11_strike 69 = .ok (.invokevirtual 147, 3) := by decide +kernel
theorem dX11_strike_72 : decode cX11_strike 72 = .ok (.ireturn, 1) := by decide +kernel
theorem dX11_adopt_0 : decode cX11_adopt 0 = .ok (.aload_n 0, 1) := by decide +kernel
theorem dX11_adopt_1 : decode cX11_adopt 1 = .ok (.invokevirtual 147, 3) := by decide +kernel
theorem dX11_adopt_4 : decode cX11_adopt 4 = .ok (.ifCond .ne 5, 3) := by decide +kernel
theorem dX11_adopt_7 : decode cX11_adopt 7 = .ok (.iconst (-1), 1) := by decide +kernel
theorem dX11_adopt_8 : decode cX11_adopt 8 = .ok (.ireturn, 1) := by decide +kernel
theorem dX11_adopt_9 : decode cX11_adopt 9 = .ok (.aload_n 0, 1) := by decide +kernel
theorem dX11_adopt_10 : decode cX11_adopt 10 = .ok (.aload_n 0, 1) := by decide +kernel
theorem dX11_adopt_11 : decode cX11_adopt 11 = .ok (.invokevirtual 147, 3) := by decide +kernel
theorem dX11_adopt_14 : decode cX11_adopt 14 = .ok (.putfield 119, 3) := by decide +kernel
theorem dX11_adopt_17 : decode cX11_adopt 17 = .ok (.iconst 0, 1) := by decide +kernel
theorem dX11_adopt_18 : decode cX11_adopt 18 = .ok (.istore_n 1, 1) := by decide +kernel
theorem dX11_adopt_19 : decode cX11_adopt 19 = .ok (.iload_n 1, 1) := by decide +kernel
theorem dX11_adopt_20 : decode cX11_adopt 20 = .ok (.aload_n 0, 1) := by decide +kernel
theorem dX11_adopt_21 : decode cX11_adopt 21 = .ok (.getfield 119, 3) := by decide +kernel
theorem dX11_adopt_24 : decode cX11_adopt 24 = .ok (.if_icmp .ge 24, 3) := by decide +kernel
theorem dX11_adopt_27 : decode cX11_adopt 27 = .ok (.aload_n 0, 1) := by decide +kernel
theorem dX11_adopt_28 : decode cX11_adopt 28 = .ok (.getfield 23, 3) := by decide +kernel
theorem dX11_adopt_31 : decode cX11_adopt 31 = .ok (.iload_n 1, 1) := by decide +kernel
theorem dX11_adopt_32 : decode cX11_adopt 32 = .ok (.aload_n 0, 1) := by decide +kernel
theorem dX11_adopt_33 : decode cX11_adopt 33 = .ok (.getfield 13, 3) := by decide +kernel
theorem dX11_adopt_36 : decode cX11_adopt 36 = .ok (.bipush 22, 2) := by decide +kernel
theorem dX11_adopt_38 : decode cX11_adopt 38 = .ok (.iload_n 1, 1) := by decide +kernel
theorem dX11_adopt_39 : decode cX11_adopt 39 = .ok (.iadd, 1) := by decide +kernel
theorem dX11_adopt_40 : decode cX11_adopt 40 = .ok (.iaload, 1) := by decide +kernel
theorem dX11_adopt_41 : decode cX11_adopt 41 = .ok (.iastore, 1) := by decide +kernel
theorem dX11_adopt_42 : decode cX11_adopt 42 = .ok (.iinc 1 1, 3) := by decide +kernel
theorem dX11_adopt_45 : decode cX11_adopt 45 = .ok (.goto (-26), 3) := by decide +kernel
theorem dX11_adopt_48 : decode cX11_adopt 48 = .ok (.aload_n 0, 1) := by decide +kernel
theorem dX11_adopt_49 : decode cX11_adopt 49 = .ok (.invokevirtual 144, 3) := by decide +kernel
theorem dX11_adopt_52 : decode cX11_adopt 52 = .ok (.ireturn, 1) := by decide +kernel
theorem dX11_undo_0 : decode cX11_undo 0 = .ok (.aload_n 0, 1) := by decide +kernel
theorem dX11_undo_1 : decode cX11_undo 1 = .ok (.getfield 77, 3) := by decide +kernel
theorem dX11_undo_4 : decode cX11_undo 4 = .ok (.ifCond .ne 5, 3) := by decide +kernel
theorem dX11_undo_7 : decode cX11_undo 7 = .ok (.iconst (-1), 1) := by decide +kernel
theorem dX11_undo_8 : decode cX11_undo 8 = .ok (.ireturn, 1) := by decide +kernel
theorem dX11_undo_9 : decode cX11_undo 9 = .ok (.aload_n 0, 1) := by decide +kernel
theorem dX11_undo_10 : decode cX11_undo 10 = .ok (.dup, 1) := by decide +kernel
theorem dX11_undo_11 : decode cX11_undo 11 = .ok (.getfield 77, 3) := by decide +kernel
theorem dX11_undo_14 : decode cX11_undo 14 = .ok (.iconst 1, 1) := by decide +kernel
theorem dX11_undo_15 : decode cX11_undo 15 = .ok (.isub, 1) := by decide +kernel
theorem dX11_undo_16 : decode cX11_undo 16 = .ok (.putfield 77, 3) := by decide +kernel
theorem dX11_undo_19 : decode cX11_undo 19 = .ok (.iconst 0, 1) := by decide +kernel
theorem dX11_undo_20 : decode cX11_undo 20 = .ok (.istore_n 1, 1) := by decide +kernel
theorem dX11_undo_21 : decode cX11_undo 21 = .ok (.iload_n 1, 1) := by decide +kernel
theorem dX11_undo_22 : decode cX11_undo 22 = .ok (.bipush 42, 2) := by decide +kernel
theorem dX11_undo_24 : decode cX11_undo 24 = .ok (.if_icmp .ge 29, 3) := by decide +kernel
theorem dX11_undo_27 : decode cX11_undo 27 = .ok (.aload_n 0, 1) := by decide +kernel
theorem dX11_undo_28 : decode cX11_undo 28 = .ok (.getfield 13, 3) := by decide +kernel
theorem dX11_undo_31 : decode cX11_undo 31 = .ok (.iload_n 1, 1) := by decide +kernel
theorem dX11_undo_32 : decode cX11_undo 32 = .ok (.aload_n 0, 1) := by decide +kernel
theorem dX11_undo_33 : decode cX11_undo 33 = .ok (.getfield 20, 3) := by decide +kernel
theorem dX11_undo_36 : decode cX11_undo 36 = .ok (.bipush 42, 2) := by decide +kernel
theorem dX11_undo_38 : decode cX11_undo 38 = .ok (.aload_n 0, 1) := by decide +kernel
theorem dX11_undo_39 : decode cX11_undo 39 = .ok (.getfield 77, 3) := by decide +kernel
theorem dX11_undo_42 : decode cX11_undo 42 = .ok (.imul, 1) := by decide +kernel
theorem dX11_undo_43 : decode cX11_undo 43 = .ok (.iload_n 1, 1) := by decide +kernel
theorem dX11_undo_44 : decode cX11_undo 44 = .ok (.iadd, 1) := by decide +kernel
theorem dX11_undo_45 : decode cX11_undo 45 = .ok (.iaload, 1) := by decide +kernel
theorem dX11_undo_46 : decode cX11_undo 46 = .ok (.iastore, 1) := by decide +kernel
theorem dX11_undo_47 : decode cX11_undo 47 = .ok (.iinc 1 1, 3) := by decide +kernel
theorem dX11_undo_50 : decode cX11_undo 50 = .ok (.goto (-29), 3) := by decide +kernel
theorem dX11_undo_53 : decode cX11_undo 53 = .ok (.aload_n 0, 1) := by decide +kernel
theorem dX11_undo_54 : decode cX11_undo 54 = .ok (.getfield 77, 3) := by decide +kernel
theorem dX11_undo_57 : decode cX11_undo 57 = .ok (.ireturn, 1) := by decide +kernel
theorem dX11_spans_0 : decode cX11_spans 0 = .ok (.iconst 0, 1) := by decide +kernel
theorem dX11_spans_1 : decode cX11_spans 1 = .ok (.istore 4, 2) := by decide +kernel
theorem dX11_spans_3 : decode cX11_spans 3 = .ok (.iload 4, 2) := by decide +kernel
theorem dX11_spans_5 : decode cX11_spans 5 = .ok (.sipush 128, 3) := by decide +kernel
theorem dX11_spans_8 : decode cX11_spans 8 = .ok (.if_icmp .ge 23, 3) := by decide +kernel
theorem dX11_spans_11 : decode cX11_spans 11 = .ok (.aload_n 1, 1) := by decide +kernel
theorem dX11_spans_12 : decode cX11_spans 12 = .ok (.iload 4, 2) := by decide +kernel
theorem dX11_spans_14 : decode cX11_spans 14 = .ok (.iload 4, 2) := by decide +kernel
theorem dX11_spans_16 : decode cX11_spans 16 = .ok (.ifCond .ne 7, 3) := by decide +kernel
theorem dX11_spans_19 : decode cX11_spans 19 = .ok (.iconst 1, 1) := by decide +kernel
theorem dX11_spans_20 : decode cX11_spans 20 = .ok (.goto 4, 3) := by decide +kernel
theorem dX11_spans_23 : decode cX11_spans 23 = .ok (.iconst 0, 1) := by decide +kernel
theorem dX11_spans_24 : decode cX11_spans 24 = .ok (.bastore, 1) := by decide +kernel
theorem dX11_spans_25 : decode cX11_spans 25 = .ok (.iinc 4 1, 3) := by decide +kernel
theorem dX11_spans_28 : decode cX11_spans 28 = .ok (.goto (-25), 3) := by decide +kernel
theorem dX11_spans_31 : decode cX11_spans 31 = .ok (.iconst 0, 1) := by decide +kernel
theorem dX11_spans_32 : decode cX11_spans 32 = .ok (.istore 4, 2) := by decide +kernel
theorem dX11_spans_34 : decode cX11_spans 34 = .ok (.iload 4, 2) := by decide +kernel
theorem dX11_spans_36 : decode cX11_spans 36 = .ok (.aload_n 0, 1) := by decide +kernel
theorem dX11_spans_37 : decode cX11_spans 37 = .ok (.invokevirtual 80, 3) := by decide +kernel
theorem dX11_spans_40 : decode cX11_spans 40 = .ok (.if_icmp .gt 71, 3) := by decide +kernel
theorem dX11_spans_43 : decode cX11_spans 43 = .ok (.iload 4, 2) := by decide +kernel
theorem dX11_spans_45 : decode cX11_spans 45 = .ok (.iload_n 2, 1) := by decide +kernel
theorem dX11_spans_46 : decode cX11_spans 46 = .ok (.if_icmp .ne 6, 3) := by decide +kernel
theorem dX11_spans_49 : decode cX11_spans 49 = .ok (.goto 56, 3) := by decide +kernel
theorem dX11_spans_52 : decode cX11_spans 52 = .ok (.iload 4, 2) := by decide +kernel
theorem dX11_spans_54 : decode cX11_spans 54 = .ok (.aload_n 0, 1) := by decide +kernel
theorem dX11_spans_55 : decode cX11_spans 55 = .ok (.invokevirtual 80, 3) := by decide +kernel
theorem dX11_spans_58 : decode cX11_spans 58 = .ok (.if_icmp .ge 12, 3) := by decide +kernel
theorem dX11_spans_61 : decode cX11_spans 61 = .ok (.aload_n 0, 1) := by decide +kernel
theorem dX11_spans_62 : decode cX11_spans 62 = .ok (.iload 4, 2) := by decide +kernel
theorem dX11_spans_64 : decode cX11_spans 64 = .ok (.invokevirtual 112, 3) := by decide +kernel
theorem dX11_spans_67 : decode cX11_spans 67 = .ok (.goto 4, 3) := by decide +kernel
theorem dX11_spans_70 : decode cX11_spans 70 = .ok (.iload_n 3, 1) := by decide +kernel
theorem dX11_spans_71 : decode cX11_spans 71 = .ok (.istore 5, 2) := by decide +kernel
theorem dX11_spans_73 : decode cX11_spans 73 = .ok (.iconst 0, 1) := by decide +kernel
theorem dX11_spans_74 : decode cX11_spans 74 = .ok (.istore 6, 2) := by decide +kernel
theorem dX11_spans_76 : decode cX11_spans 76 = .ok (.iload 6, 2) := by decide +kernel
theorem dX11_spans_78 : decode cX11_spans 78 = .ok (.sipush 128, 3) := by decide +kernel
theorem dX11_spans_81 : decode cX11_spans 81 = .ok (.if_icmp .ge 24, 3) := by decide +kernel
theorem dX11_spans_84 : decode cX11_spans 84 = .ok (.aload_n 1, 1) := by decide +kernel
theorem dX11_spans_85 : decode cX11_spans 85 = .ok (.iload 6, 2) := by decide +kernel
theorem dX11_spans_87 : decode cX11_spans 87 = .ok (.baload, 1) := by decide +kernel
theorem dX11_spans_88 : decode cX11_spans 88 = .ok (.ifCond .eq 11, 3) := by decide +kernel
theorem dX11_spans_91 : decode cX11_spans 91 = .ok (.aload_n 1, 1) := by decide +kernel
theorem dX11_spans_92 : decode cX11_spans 92 = .ok (.iload 6, 2) := by decide +kernel
theorem dX11_spans_94 : decode cX11_spans 94 = .ok (.iload 5, 2) := by decide +kernel
theorem dX11_spans_96 : decode cX11_spans 96 = .ok (.ior, 1) := by decide +kernel
theorem dX11_spans_97 : decode cX11_spans 97 = .ok (.iconst 1, 1) := by decide +kernel
theorem dX11_spans_98 : decode cX11_spans 98 = .ok (.bastore, 1) := by decide +kernel
theorem dX11_spans_99 : decode cX11_spans 99 = .ok (.iinc 6 1, 3) := by decide +kernel
theorem dX11_spans_102 : decode cX11_spans 102 = .ok (.goto (-26), 3) := by decide +kernel
theorem dX11_spans_105 : decode cX11_spans 105 = .ok (.iinc 4 1, 3) := by decide +kernel
theorem dX11_spans_108 : decode cX11_spans 108 = .ok (.goto (-74), 3) := by decide +kernel
theorem dX11_spans_111 : decode cX11_spans 111 = .ok (.return_, 1) := by decide +kernel
theorem dX11_manyOf_0 : decode cX11_manyOf 0 = .ok (.iconst 0, 1) := by decide +kernel
theorem dX11_manyOf_1 : decode cX11_manyOf 1 = .ok (.istore_n 1, 1) := by decide +kernel
theorem dX11_manyOf_2 : decode cX11_manyOf 2 = .ok (.iconst 0, 1) := by decide +kernel
theorem dX11_manyOf_3 : decode cX11_manyOf 3 = .ok (.istore_n 2, 1) := by decide +kernel
theorem dX11_manyOf_4 : decode cX11_manyOf 4 = .ok (.iload_n 2, 1) := by decide +kernel
theorem dX11_manyOf_5 : decode cX11_manyOf 5 = .ok (.sipush 128, 3) := by decide +kernel
theorem dX11_manyOf_8 : decode cX11_manyOf 8 = .ok (.if_icmp .ge 18, 3) := by decide +kernel
theorem dX11_manyOf_11 : decode cX11_manyOf 11 = .ok (.aload_n 0, 1) := by decide +kernel
theorem dX11_manyOf_12 : decode cX11_manyOf 12 = .ok (.iload_n 2, 1) := by decide +kernel
theorem dX11_manyOf_13 : decode cX11_manyOf 13 = .ok (.baload, 1) := by decide +kernel
theorem dX11_manyOf_14 : decode cX11_manyOf 14 = .ok (.ifCond .eq 6, 3) := by decide +kernel
theorem dX11_manyOf_17 : decode cX11_manyOf 17 = .ok (.iinc 1 1, 3) := by decide +kernel
theorem dX11_manyOf_20 : decode cX11_manyOf 20 = .ok (.iinc 2 1, 3) := by decide +kernel
theorem dX11_manyOf_23 : decode cX11_manyOf 23 = .ok (.goto (-19), 3) := by decide +kernel
theorem dX11_manyOf_26 : decode cX11_manyOf 26 = .ok (.iload_n 1, 1) := by decide +kernel
theorem dX11_manyOf_27 : decode cX11_manyOf 27 = .ok (.ireturn, 1) := by decide +kernel
theorem dX11_lays_0 : decode cX11_lays 0 = .ok (.aload_n 0, 1) := by decide +kernel
theorem dX11_lays_1 : decode cX11_lays 1 = .ok (.aload_n 0, 1) := by decide +kernel
theorem dX11_lays_2 : decode cX11_lays 2 = .ok (.getfield 26, 3) := by decide +kernel
theorem dX11_lays_5 : decode cX11_lays 5 = .ok (.iconst (-1), 1) := by decide +kernel
theorem dX11_lays_6 : decode cX11_lays 6 = .ok (.iconst 0, 1) := by decide +kernel
theorem dX11_lays_7 : decode cX11_lays 7 = .ok (.invokevirtual 153, 3) := by decide +kernel
theorem dX11_lays_10 : decode cX11_lays 10 = .ok (.aload_n 0, 1) := by decide +kernel
theorem dX11_lays_11 : decode cX11_lays 11 = .ok (.iconst 0, 1) := by decide +kernel
theorem dX11_lays_12 : decode cX11_lays 12 = .ok (.putfield 141, 3) := by decide +kernel
theorem dX11_lays_15 : decode cX11_lays 15 = .ok (.iconst 0, 1) := by decide +kernel
theorem dX11_lays_16 : decode cX11_lays 16 = .ok (.istore_n 1, 1) := by decide +kernel
theorem dX11_lays_17 : decode cX11_lays 17 = .ok (.iload_n 1, 1) := by decide +kernel
theorem dX11_lays_18 : decode cX11_lays 18 = .ok (.bipush 7, 2) := by decide +kernel
theorem dX11_lays_20 : decode cX11_lays 20 = .ok (.if_icmp .gt 74, 3) := by decide +kernel
theorem dX11_lays_23 : decode cX11_lays 23 = .ok (.iconst 0, 1) := by decide +kernel
theorem dX11_lays_24 : decode cX11_lays 24 = .ok (.istore_n 2, 1) := by decide +kernel
theorem dX11_lays_25 : decode cX11_lays 25 = .ok (.iload_n 2, 1) := by decide +kernel
theorem dX11_lays_26 : decode cX11_lays 26 = .ok (.sipush 128, 3) := by decide +kernel
theorem dX11_lays_29 : decode cX11_lays 29 = .ok (.if_icmp .ge 59, 3) := by decide +kernel
theorem dX11_lays_32 : decode cX11_lays 32 = .ok (.aload_n 0, 1) := by decide +kernel
theorem dX11_lays_33 : decode cX11_lays 33 = .ok (.getfield 26, 3) := by decide +kernel
theorem dX11_lays_36 : decode cX11_lays 36 = .ok (.iload_n 2, 1) := by decide +kernel
theorem dX11_lays_37 : decode cX11_lays 37 = .ok (.baload, 1) := by decide +kernel
theorem dX11_lays_38 : decode cX11_lays 38 = .ok (.ifCond .eq 44, 3) := by decide +kernel
theorem dX11_lays_41 : decode cX11_lays 41 = .ok (.iload_n 2, 1) := by decide +kernel
theorem dX11_lays_42 : decode cX11_lays 42 = .ok (.invokestatic 157, 3) := by decide +kernel
theorem dX11_lays_45 : decode cX11_lays 45 = .ok (.iload_n 1, 1) := by decide +kernel
theorem dX11_lays_46 : decode cX11_lays 46 = .ok (.if_icmp .eq 6, 3) := by decide +kernel
theorem dX11_lays_49 : decode cX11_lays 49 = .ok (.goto 33, 3) := by decide +kernel
theorem dX11_lays_52 : decode cX11_lays 52 = .ok (.aload_n 0, 1) := by decide +kernel
theorem dX11_lays_53 : decode cX11_lays 53 = .ok (.getfield 33, 3) := by decide +kernel
theorem dX11_lays_56 : decode cX11_lays 56 = .ok (.iload_n 2, 1) := by decide +kernel
theorem dX11_lays_57 : decode cX11_lays 57 = .ok (.aload_n 0, 1) := by decide +kernel
theorem dX11_lays_58 : decode cX11_lays 58 = .ok (.getfield 141, 3) := by decide +kernel
theorem dX11_lays_61 : decode cX11_lays 61 = .ok (.iastore, 1) := by decide +kernel
theorem dX11_lays_62 : decode cX11_lays 62 = .ok (.aload_n 0, 1) := by decide +kernel
theorem dX11_lays_63 : decode cX11_lays 63 = .ok (.getfield 30, 3) := by decide +kernel
theorem dX11_lays_66 : decode cX11_lays 66 = .ok (.aload_n 0, 1) := by decide +kernel
theorem dX11_lays_67 : decode cX11_lays 67 = .ok (.getfield 141, 3) := by decide +kernel
theorem dX11_lays_70 : decode cX11_lays 70 = .ok (.iload_n 2, 1) := by decide +kernel
theorem dX11_lays_71 : decode cX11_lays 71 = .ok (.iastore, 1) := by decide +kernel
theorem dX11_lays_72 : decode cX11_lays 72 = .ok (.aload_n 0, 1) := by decide +kernel
theorem dX11_lays_73 : decode cX11_lays 73 = .ok (.dup, 1) := by decide +kernel
theorem dX11_lays_74 : decode cX11_lays 74 = .ok (.getfield 141, 3) := by decide +kernel
theorem dX11_lays_77 : decode cX11_lays 77 = .ok (.iconst 1, 1) := by decide +kernel
theorem dX11_lays_78 : decode cX11_lays 78 = .ok (.iadd, 1) := by decide +kernel
theorem dX11_lays_79 : decode cX11_lays 79 = .ok (.putfield 141, 3) := by decide +kernel
theorem dX11_lays_82 : decode cX11_lays 82 = .ok (.iinc 2 1, 3) := by decide +kernel
theorem dX11_lays_85 : decode cX11_lays 85 = .ok (.goto (-60), 3) := by decide +kernel
theorem dX11_lays_88 : decode cX11_lays 88 = .ok (.iinc 1 1, 3) := by decide +kernel
theorem dX11_lays_91 : decode cX11_lays 91 = .ok (.goto (-74), 3) := by decide +kernel
theorem dX11_lays_94 : decode cX11_lays 94 = .ok (.return_, 1) := by decide +kernel
theorem dX11_isMember_0 : decode cX11_isMember 0 = .ok (.iload_n 1, 1) := by decide +kernel
theorem dX11_isMember_1 : decode cX11_isMember 1 = .ok (.iconst 0, 1) := by decide +kernel
theorem dX11_isMember_2 : decode cX11_isMember 2 = .ok (.aload_n 0, 1) := by decide +kernel
theorem dX11_isMember_3 : decode cX11_isMember 3 = .ok (.getfield 141, 3) := by decide +kernel
theorem dX11_isMember_6 : decode cX11_isMember 6 = .ok (.iconst 1, 1) := by decide +kernel
theorem dX11_isMember_7 : decode cX11_isMember 7 = .ok (.isub, 1) := by decide +kernel
theorem dX11_isMember_8 : decode cX11_isMember 8 = .ok (.invokestatic 84, 3) := by decide +kernel
theorem dX11_isMember_11 : decode cX11_isMember 11 = .ok (.ireturn, 1) := by decide +kernel
theorem dX11_top_0 : decode cX11_top 0 = .ok (.aload_n 0, 1) := by decide +kernel
theorem dX11_top_1 : decode cX11_top 1 = .ok (.getfield 30, 3) := by decide +kernel
theorem dX11_top_4 : decode cX11_top 4 = .ok (.aload_n 0, 1) := by decide +kernel
theorem dX11_top_5 : decode cX11_top 5 = .ok (.getfield 141, 3) := by decide +kernel
theorem dX11_top_8 : decode cX11_top 8 = .ok (.iconst 1, 1) := by decide +kernel
theorem dX11_top_9 : decode cX11_top 9 = .ok (.isub, 1) := by decide +kernel
theorem dX11_top_10 : decode cX11_top 10 = .ok (.iaload, 1) := by decide +kernel
theorem dX11_top_11 : decode cX11_top 11 = .ok (.ireturn, 1) := by decide +kernel
theorem dX11_innerOf_0 : decode cX11_innerOf 0 = .ok (.iconst 0, 1) := by decide +kernel
theorem dX11_innerOf_1 : decode cX11_innerOf 1 = .ok (.istore_n 3, 1) := by decide +kernel
theorem dX11_innerOf_2 : decode cX11_innerOf 2 = .ok (.iconst 0, 1) := by decide +kernel
theorem dX11_innerOf_3 : decode cX11_innerOf 3 = .ok (.istore 4, 2) := by decide +kernel
theorem dX11_innerOf_5 : decode cX11_innerOf 5 = .ok (.iload 4, 2) := by decide +kernel
theorem dX11_innerOf_7 : decode cX11_innerOf 7 = .ok (.aload_n 0, 1) := by decide +kernel
theorem dX11_innerOf_8 : decode cX11_innerOf 8 = .ok (.getfield 141, 3) := by decide +kernel
theorem dX11_innerOf_11 : decode cX11_innerOf 11 = .ok (.if_icmp .ge 48, 3) := by decide +kernel
theorem dX11_innerOf_14 : decode cX11_innerOf 14 = .ok (.aload_n 0, 1) := by decide +kernel
theorem dX11_innerOf_15 : decode cX11_innerOf 15 = .ok (.getfield 30, 3) := by decide +kernel
theorem dX11_innerOf_18 : decode cX11_innerOf 18 = .ok (.iload 4, 2) := by decide +kernel
theorem dX11_innerOf_20 : decode cX11_innerOf 20 = .ok (.iaload, 1) := by decide +kernel
theorem dX11_innerOf_21 : decode cX11_innerOf 21 = .ok (.iload_n 1, 1) := by decide +kernel
theorem dX11_innerOf_22 : decode cX11_innerOf 22 = .ok (.invokestatic 160, 3) := by decide +kernel
theorem dX11_innerOf_25 : decode cX11_innerOf 25 = .ok (.ifCond .eq 28, 3) := by decide +kernel
theorem dX11_innerOf_28 : decode cX11_innerOf 28 = .ok (.iload_n 2, 1) := by decide +kernel
theorem dX11_innerOf_29 : decode cX11_innerOf 29 = .ok (.ifCond .eq 14, 3) := by decide +kernel
theorem dX11_innerOf_32 : decode cX11_innerOf 32 = .ok (.aload_n 0, 1) := by decide +kernel
theorem dX11_innerOf_33 : decode cX11_innerOf 33 = .ok (.getfield 30, 3) := by decide +kernel
theorem dX11_innerOf_36 : decode cX11_innerOf 36 = .ok (.iload 4, 2) := by decide +kernel
theorem dX11_innerOf_38 : decode cX11_innerOf 38 = .ok (.iaload, 1) := by decide +kernel
theorem dX11_innerOf_39 : decode cX11_innerOf 39 = .ok (.iload_n 1, 1) := by decide +kernel
theorem dX11_innerOf_40 : decode cX11_innerOf 40 = .ok (.if_icmp .eq 13, 3) := by decide +kernel
theorem dX11_innerOf_43 : decode cX11_innerOf 43 = .ok (.iload_n 3, 1) := by decide +kernel
theorem dX11_innerOf_44 : decode cX11_innerOf 44 = .ok (.aload_n 0, 1) := by decide +kernel
theorem dX11_innerOf_45 : decode cX11_innerOf 45 = .ok (.getfield 30, 3) := by decide +kernel
theorem dX11_innerOf_48 : decode cX11_innerOf 48 = .ok (.iload 4, 2) := by decide +kernel
theorem dX11_innerOf_50 : decode cX11_innerOf 50 = .ok (.iaload, 1) := by decide +kernel
theorem dX11_innerOf_51 : decode cX11_innerOf 51 = .ok (.ior, 1) := by decide +kernel
theorem dX11_innerOf_52 : decode cX11_innerOf 52 = .ok (.istore_n 3, 1) := by decide +kernel
theorem dX11_innerOf_53 : decode cX11_innerOf 53 = .ok (.iinc 4 1, 3) := by decide +kernel
theorem dX11_innerOf_56 : decode cX11_innerOf 56 = .ok (.goto (-51), 3) := by decide +kernel
theorem dX11_innerOf_59 : decode cX11_innerOf 59 = .ok (.iload_n 3, 1) := by decide +kernel
theorem dX11_innerOf_60 : decode cX11_innerOf 60 = .ok (.ireturn, 1) := by decide +kernel
theorem dX11_isBased_0 : decode cX11_isBased 0 = .ok (.iload_n 1, 1) := by decide +kernel
theorem dX11_isBased_1 : decode cX11_isBased 1 = .ok (.ifCond .eq 26, 3) := by decide +kernel
theorem dX11_isBased_4 : decode cX11_isBased 4 = .ok (.aload_n 0, 1) := by decide +kernel
theorem dX11_isBased_5 : decode cX11_isBased 5 = .ok (.getfield 26, 3) := by decide +kernel
theorem dX11_isBased_8 : decode cX11_isBased 8 = .ok (.iload_n 1, 1) := by decide +kernel
theorem dX11_isBased_9 : decode cX11_isBased 9 = .ok (.baload, 1) := by decide +kernel
theorem dX11_isBased_10 : decode cX11_isBased 10 = .ok (.ifCond .eq 17, 3) := by decide +kernel
theorem dX11_isBased_13 : decode cX11_isBased 13 = .ok (.aload_n 0, 1) := by decide +kernel
theorem dX11_isBased_14 : decode cX11_isBased 14 = .ok (.iload_n 1, 1) := by decide +kernel
theorem dX11_isBased_15 : decode cX11_isBased 15 = .ok (.iconst 1, 1) := by decide +kernel
theorem dX11_isBased_16 : decode cX11_isBased 16 = .ok (.invokevirtual 163, 3) := by decide +kernel
theorem dX11_isBased_19 : decode cX11_isBased 19 = .ok (.iload_n 1, 1) := by decide +kernel
theorem dX11_isBased_20 : decode cX11_isBased 20 = .ok (.if_icmp .eq 7, 3) := by decide +kernel
theorem dX11_isBased_23 : decode cX11_isBased 23 = .ok (.iconst 1, 1) := by decide +kernel
theorem dX11_isBased_24 : decode cX11_isBased 24 = .ok (.goto 4, 3) := by decide +kernel
theorem dX11_isBased_27 : decode cX11_isBased 27 = .ok (.iconst 0, 1) := by decide +kernel
theorem dX11_isBased_28 : decode cX11_isBased 28 = .ok (.ireturn, 1) := by decide +kernel
theorem dX11_frequencyIn_0 : decode cX11_frequencyIn 0 = .ok (.iconst 0, 1) := by decide +kernel
theorem dX11_frequencyIn_1 : decode cX11_frequencyIn 1 = .ok (.istore_n 2, 1) := by decide +kernel
theorem dX11_frequencyIn_2 : decode cX11_frequencyIn 2 = .ok (.iconst 0, 1) := by decide +kernel
theorem dX11_frequencyIn_3 : decode cX11_frequencyIn 3 = .ok (.istore_n 3, 1) := by decide +kernel
theorem dX11_frequencyIn_4 : decode cX11_frequencyIn 4 = .ok (.iload_n 3, 1) := by decide +kernel
theorem dX11_frequencyIn_5 : decode cX11_frequencyIn 5 = .ok (.sipush 128, 3) := by decide +kernel
theorem dX11_frequencyIn_8 : decode cX11_frequencyIn 8 = .ok (.if_icmp .ge 26, 3) := by decide +kernel
theorem dX11_frequencyIn_11 : decode cX11_frequencyIn 11 = .ok (.aload_n 0, 1) := by decide +kernel
theorem dX11_frequencyIn_12 : decode cX11_frequencyIn 12 = .ok (.iload_n 3, 1) := by decide +kernel
theorem dX11_frequencyIn_13 : decode cX11_frequencyIn 13 = .ok (.baload, 1) := by decide +kernel
theorem dX11_frequencyIn_14 : decode cX11_frequencyIn 14 = .ok (.ifCond .eq 14, 3) := by decide +kernel
theorem dX11_frequencyIn_17 : decode cX11_frequencyIn 17 = .ok (.iload_n 3, 1) := by decide +kernel
theorem dX11_frequencyIn_18 : decode cX11_frequencyIn 18 = .ok (.iload_n 1, 1) := by decide +kernel
theorem dX11_frequencyIn_19 : decode cX11_frequencyIn 19 = .ok (.invokestatic 128, 3) := by decide +kernel
theorem dX11_frequencyIn_22 : decode cX11_frequencyIn 22 = .ok (.ifCond .eq 6, 3) := by decide +kernel
theorem dX11_frequencyIn_25 : decode cX11_frequencyIn 25 = .ok (.iinc 2 1, 3) := by decide +kernel
theorem dX11_frequencyIn_28 : decode cX11_frequencyIn 28 = .ok (.iinc 3 1, 3) := by decide +kernel
theorem dX11_frequencyIn_31 : decode cX11_frequencyIn 31 = .ok (.goto (-27), 3) := by decide +kernel
theorem dX11_frequencyIn_34 : decode cX11_frequencyIn 34 = .ok (.iload_n 2, 1) := by decide +kernel
theorem dX11_frequencyIn_35 : decode cX11_frequencyIn 35 = .ok (.ireturn, 1) := by decide +kernel
theorem dX11_frequentIn_0 : decode cX11_frequentIn 0 = .ok (.aload_n 1, 1) := by decide +kernel
theorem dX11_frequentIn_1 : decode cX11_frequentIn 1 = .ok (.invokestatic 167, 3) := by decide +kernel
theorem dX11_frequentIn_4 : decode cX11_frequentIn 4 = .ok (.istore_n 2, 1) := by decide +kernel
theorem dX11_frequentIn_5 : decode cX11_frequentIn 5 = .ok (.iconst 0, 1) := by decide +kernel
theorem dX11_frequentIn_6 : decode cX11_frequentIn 6 = .ok (.istore_n 3, 1) := by decide +kernel
theorem dX11_frequentIn_7 : decode cX11_frequentIn 7 = .ok (.iconst 0, 1) := by decide +kernel
theorem dX11_frequentIn_8 : decode cX11_frequentIn 8 = .ok (.istore 4, 2) := by decide +kernel
theorem dX11_frequentIn_10 : decode cX11_frequentIn 10 = .ok (.iload 4, 2) := by decide +kernel
theorem dX11_frequentIn_12 : decode cX11_frequentIn 12 = .ok (.aload_n 0, 1) := by decide +kernel
theorem dX11_frequentIn_13 : decode cX11_frequentIn 13 = .ok (.getfield 13, 3) := by decide +kernel
theorem dX11_frequentIn_16 : decode cX11_frequentIn 16 = .ok (.iconst 0, 1) := by decide +kernel
theorem dX11_frequentIn_17 : decode cX11_frequentIn 17 = .ok (.iaload, 1) := by decide +kernel
theorem dX11_frequentIn_18 : decode cX11_frequentIn 18 = .ok (.if_icmp .ge 28, 3) := by decide +kernel
theorem dX11_frequentIn_21 : decode cX11_frequentIn 21 = .ok (.iconst 2, 1) := by decide +kernel
theorem dX11_frequentIn_22 : decode cX11_frequentIn 22 = .ok (.aload_n 1, 1) := by decide +kernel
theorem dX11_frequentIn_23 : decode cX11_frequentIn 23 = .ok (.iload 4, 2) := by decide +kernel
theorem dX11_frequentIn_25 : decode cX11_frequentIn 25 = .ok (.invokestatic 171, 3) := by decide +kernel
theorem dX11_frequentIn_28 : decode cX11_frequentIn 28 = .ok (.imul, 1) := by decide +kernel
theorem dX11_frequentIn_29 : decode cX11_frequentIn 29 = .ok (.iload_n 2, 1) := by decide +kernel
theorem dX11_frequentIn_30 : decode cX11_frequentIn 30 = .ok (.if_icmp .lt 10, 3) := by decide +kernel
theorem dX11_frequentIn_33 : decode cX11_frequentIn 33 = .ok (.iload_n 3, 1) := by decide +kernel
theorem dX11_frequentIn_34 : decode cX11_frequentIn 34 = .ok (.iconst 1, 1) := by decide +kernel
theorem dX11_frequentIn_35 : decode cX11_frequentIn 35 = .ok (.iload 4, 2) := by decide +kernel
theorem dX11_frequentIn_37 : decode cX11_frequentIn 37 = .ok (.ishl, 1) := by decide +kernel
theorem dX11_frequentIn_38 : decode cX11_frequentIn 38 = .ok (.ior, 1) := by decide +kernel
theorem dX11_frequentIn_39 : decode cX11_frequentIn 39 = .ok (.istore_n 3, 1) := by decide +kernel
theorem dX11_frequentIn_40 : decode cX11_frequentIn 40 = .ok (.iinc 4 1, 3) := by decide +kernel
theorem dX11_frequentIn_43 : decode cX11_frequentIn 43 = .ok (.goto (-33), 3) := by decide +kernel
theorem dX11_frequentIn_46 : decode cX11_frequentIn 46 = .ok (.iload_n 3, 1) := by decide +kernel
theorem dX11_frequentIn_47 : decode cX11_frequentIn 47 = .ok (.ireturn, 1) := by decide +kernel
theorem dX11_massOf_0 : decode cX11_massOf 0 = .ok (.iconst 0, 1) := by decide +kernel
theorem dX11_massOf_1 : decode cX11_massOf 1 = .ok (.istore_n 2, 1) := by decide +kernel
theorem dX11_massOf_2 : decode cX11_massOf 2 = .ok (.iconst 0, 1) := by decide +kernel
theorem dX11_massOf_3 : decode cX11_massOf 3 = .ok (.istore_n 3, 1) := by decide +kernel
theorem dX11_massOf_4 : decode cX11_massOf 4 = .ok (.iload_n 3, 1) := by decide +kernel
theorem dX11_massOf_5 : decode cX11_massOf 5 = .ok (.aload_n 0, 1) := by decide +kernel
theorem dX11_massOf_6 : decode cX11_massOf 6 = .ok (.getfield 13, 3) := by decide +kernel
theorem dX11_massOf_9 : decode cX11_massOf 9 = .ok (.iconst 0, 1) := by decide +kernel
theorem dX11_massOf_10 : decode cX11_massOf 10 = .ok (.iaload, 1) := by decide +kernel
theorem dX11_massOf_11 : decode cX11_massOf 11 = .ok (.if_icmp .ge 28, 3) := by decide +kernel
theorem dX11_massOf_14 : decode cX11_massOf 14 = .ok (.iload_n 1, 1) := by decide +kernel
theorem dX11_massOf_15 : decode cX11_massOf 15 = .ok (.iload_n 3, 1) := by decide +kernel
theorem dX11_massOf_16 : decode cX11_massOf 16 = .ok (.invokestatic 128, 3) := by decide +kernel
theorem dX11_massOf_19 : decode cX11_massOf 19 = .ok (.ifCond .eq 14, 3) := by decide +kernel
theorem dX11_massOf_22 : decode cX11_massOf 22 = .ok (.iload_n 2, 1) := by decide +kernel
theorem dX11_massOf_23 : decode cX11_massOf 23 = .ok (.aload_n 0, 1) := by decide +kernel
theorem dX11_massOf_24 : decode cX11_massOf 24 = .ok (.getfield 13, 3) := by decide +kernel
theorem dX11_massOf_27 : decode cX11_massOf 27 = .ok (.iconst 3, 1) := by decide +kernel
theorem dX11_massOf_28 : decode cX11_massOf 28 = .ok (.iload_n 3, 1) := by decide +kernel
theorem dX11_massOf_29 : decode cX11_massOf 29 = .ok (.iadd, 1) := by decide +kernel
theorem dX11_massOf_30 : decode cX11_massOf 30 = .ok (.iaload, 1) := by decide +kernel
theorem dX11_massOf_31 : decode cX11_massOf 31 = .ok (.iadd, 1) := by decide +kernel
theorem dX11_massOf_32 : decode cX11_massOf 32 = .ok (.istore_n 2, 1) := by decide +kernel
theorem dX11_massOf_33 : decode cX11_massOf 33 = .ok (.iinc 3 1, 3) := by decide +kernel
theorem dX11_massOf_36 : decode cX11_massOf 36 = .ok (.goto (-32), 3) := by decide +kernel
theorem dX11_massOf_39 : decode cX11_massOf 39 = .ok (.iload_n 2, 1) := by decide +kernel
theorem dX11_massOf_40 : decode cX11_massOf 40 = .ok (.ireturn, 1) := by decide +kernel
theorem dX11_isCovered_0 : decode cX11_isCovered 0 = .ok (.iload_n 1, 1) := by decide +kernel
theorem dX11_isCovered_1 : decode cX11_isCovered 1 = .ok (.iload_n 2, 1) := by decide +kernel
theorem dX11_isCovered_2 : decode cX11_isCovered 2 = .ok (.if_icmp .eq 11, 3) := by decide +kernel
theorem dX11_isCovered_5 : decode cX11_isCovered 5 = .ok (.iload_n 2, 1) := by decide +kernel
theorem dX11_isCovered_6 : decode cX11_isCovered 6 = .ok (.iload_n 1, 1) := by decide +kernel
theorem dX11_isCovered_7 : decode cX11_isCovered 7 = .ok (.invokestatic 160, 3) := by decide +kernel
theorem dX11_isCovered_10 : decode cX11_isCovered 10 = .ok (.ifCond .ne 5, 3) := by decide +kernel
theorem dX11_isCovered_13 : decode cX11_isCovered 13 = .ok (.iconst 0, 1) := by decide +kernel
theorem dX11_isCovered_14 : decode cX11_isCovered 14 = .ok (.ireturn, 1) := by decide +kernel
theorem dX11_isCovered_15 : decode cX11_isCovered 15 = .ok (.iconst 0, 1) := by decide +kernel
theorem dX11_isCovered_16 : decode cX11_isCovered 16 = .ok (.istore_n 3, 1) := by decide +kernel
theorem dX11_isCovered_17 : decode cX11_isCovered 17 = .ok (.iload_n 3, 1) := by decide +kernel
theorem dX11_isCovered_18 : decode cX11_isCovered 18 = .ok (.aload_n 0, 1) := by decide +kernel
theorem dX11_isCovered_19 : decode cX11_isCovered 19 = .ok (.getfield 141, 3) := by decide +kernel
theorem dX11_isCovered_22 : decode cX11_isCovered 22 = .ok (.if_icmp .ge 49, 3) := by decide +kernel
theorem dX11_isCovered_25 : decode cX11_isCovered 25 = .ok (.aload_n 0, 1) := by decide +kernel
theorem dX11_isCovered_26 : decode cX11_isCovered 26 = .ok (.getfield 30, 3) := by decide +kernel
theorem dX11_isCovered_29 : decode cX11_isCovered 29 = .ok (.iload_n 3, 1) := by decide +kernel
theorem dX11_isCovered_30 : decode cX11_isCovered 30 = .ok (.iaload, 1) := by decide +kernel
theorem dX11_isCovered_31 : decode cX11_isCovered 31 = .ok (.istore 4, 2) := by decide +kernel
theorem dX11_isCovered_33 : decode cX11_isCovered 33 = .ok (.iload 4, 2) := by decide +kernel
theorem dX11_isCovered_35 : decode cX11_isCovered 35 = .ok (.iload_n 1, 1) := by decide +kernel
theorem dX11_isCovered_36 : decode cX11_isCovered 36 = .ok (.if_icmp .eq 29, 3) := by decide +kernel
theorem dX11_isCovered_39 : decode cX11_isCovered 39 = .ok (.iload 4, 2) := by decide +kernel
theorem dX11_isCovered_41 : decode cX11_isCovered 41 = .ok (.iload_n 2, 1) := by decide +kernel
theorem dX11_isCovered_42 : decode cX11_isCovered 42 = .ok (.if_icmp .eq 23, 3) := by decide +kernel
theorem dX11_isCovered_45 : decode cX11_isCovered 45 = .ok (.iload_n 2, 1) := by decide +kernel
theorem dX11_isCovered_46 : decode cX11_isCovered 46 = .ok (.iload 4, 2) := by decide +kernel
theorem dX11_isCovered_48 : decode cX11_isCovered 48 = .ok (.invokestatic 160, 3) := by decide +kernel
theorem dX11_isCovered_51 : decode cX11_isCovered 51 = .ok (.ifCond .eq 14, 3) := by decide +kernel
theorem dX11_isCovered_54 : decode cX11_isCovered 54 = .ok (.iload 4, 2) := by decide +kernel
theorem dX11_isCovered_56 : decode cX11_isCovered 56 = .ok (.iload_n 1, 1) := by decide +kernel
theorem dX11_isCovered_57 : decode cX11_isCovered 57 = .ok (.invokestatic 160, 3) := by decide +kernel
theorem dX11_isCovered_60 : decode cX11_isCovered 60 = .ok (.ifCond .eq 5, 3) := by decide +kernel
theorem dX11_isCovered_63 : decode cX11_isCovered 63 = .ok (.iconst 0, 1) := by decide +kernel
theorem dX11_isCovered_64 : decode cX11_isCovered 64 = .ok (.ireturn, 1) := by decide +kernel
theorem dX11_isCovered_65 : decode cX11_isCovered 65 = .ok (.iinc 3 1, 3) := by decide +kernel
theorem dX11_isCovered_68 : decode cX11_isCovered 68 = .ok (.goto (-51), 3) := by decide +kernel
theorem dX11_isCovered_71 : decode cX11_isCovered 71 = .ok (.iconst 1, 1) := by decide +kernel
theorem dX11_isCovered_72 : decode cX11_isCovered 72 = .ok (.ireturn, 1) := by decide +kernel
theorem dX11_degreeOf_0 : decode cX11_degreeOf 0 = .ok (.iconst 0, 1) := by decide +kernel
theorem dX11_degreeOf_1 : decode cX11_degreeOf 1 = .ok (.istore_n 3, 1) := by decide +kernel
theorem dX11_degreeOf_2 : decode cX11_degreeOf 2 = .ok (.iconst 0, 1) := by decide +kernel
theorem dX11_degreeOf_3 : decode cX11_degreeOf 3 = .ok (.istore 4, 2) := by decide +kernel
theorem dX11_degreeOf_5 : decode cX11_degreeOf 5 = .ok (.iload 4, 2) := by decide +kernel
theorem dX11_degreeOf_7 : decode cX11_degreeOf 7 = .ok (.aload_n 0, 1) := by decide +kernel
theorem dX11_degreeOf_8 : decode cX11_degreeOf 8 = .ok (.getfield 141, 3) := by decide +kernel
theorem dX11_degreeOf_11 : decode cX11_degreeOf 11 = .ok (.if_icmp .ge 49, 3) := by decide +kernel
theorem dX11_degreeOf_14 : decode cX11_degreeOf 14 = .ok (.iload_n 2, 1) := by decide +kernel
theorem dX11_degreeOf_15 : decode cX11_degreeOf 15 = .ok (.ifCond .eq 21, 3) := by decide +kernel
theorem dX11_degreeOf_18 : decode cX11_degreeOf 18 = .ok (.aload_n 0, 1) := by decide +kernel
theorem dX11_degreeOf_19 : decode cX11_degreeOf 19 = .ok (.aload_n 0, 1) := by decide +kernel
theorem dX11_degreeOf_20 : decode cX11_degreeOf 20 = .ok (.getfield 30, 3) := by decide +kernel
theorem dX11_degreeOf_23 : decode cX11_degreeOf 23 = .ok (.iload 4, 2) := by decide +kernel
theorem dX11_degreeOf_25 : decode cX11_degreeOf 25 = .ok (.iaload, 1) := by decide +kernel
theorem dX11_degreeOf_26 : decode cX11_degreeOf 26 = .ok (.iload_n 1, 1) := by decide +kernel
theorem dX11_degreeOf_27 : decode cX11_degreeOf 27 = .ok (.invokevirtual 175, 3) := by decide +kernel
theorem dX11_degreeOf_30 : decode cX11_degreeOf 30 = .ok (.ifCond .eq 24, 3) := by decide +kernel
theorem dX11_degreeOf_33 : decode cX11_degreeOf 33 = .ok (.goto 18, 3) := by decide +kernel
theorem dX11_degreeOf_36 : decode cX11_degreeOf 36 = .ok (.aload_n 0, 1) := by decide +kernel
theorem dX11_degreeOf_37 : decode cX11_degreeOf 37 = .ok (.iload_n 1, 1) := by decide +kernel
theorem dX11_degreeOf_38 : decode cX11_degreeOf 38 = .ok (.aload_n 0, 1) := by decide +kernel
theorem dX11_degreeOf_39 : decode cX11_degreeOf 39 = .ok (.getfield 30, 3) := by decide +kernel
theorem dX11_degreeOf_42 : decode cX11_degreeOf 42 = .ok (.iload 4, 2) := by decide +kernel
theorem dX11_degreeOf_44 : decode cX11_degreeOf 44 = .ok (.iaload, 1) := by decide +kernel
theorem dX11_degreeOf_45 : decode cX11_degreeOf 45 = .ok (.invokevirtual 175, 3) := by decide +kernel
theorem dX11_degreeOf_48 : decode cX11_degreeOf 48 = .ok (.ifCond .eq 6, 3) := by decide +kernel
theorem dX11_degreeOf_51 : decode cX11_degreeOf 51 = .ok (.iinc 3 1, 3) := by decide +kernel
theorem dX11_degreeOf_54 : decode cX11_degreeOf 54 = .ok (.iinc 4 1, 3) := by decide +kernel
theorem dX11_degreeOf_57 : decode cX11_degreeOf 57 = .ok (.goto (-52), 3) := by decide +kernel
theorem dX11_degreeOf_60 : decode cX11_degreeOf 60 = .ok (.iload_n 3, 1) := by decide +kernel
theorem dX11_degreeOf_61 : decode cX11_degreeOf 61 = .ok (.ireturn, 1) := by decide +kernel
theorem dX11_generator_0 : decode cX11_generator 0 = .ok (.aload_n 0, 1) := by decide +kernel
theorem dX11_generator_1 : decode cX11_generator 1 = .ok (.iload_n 1, 1) := by decide +kernel
theorem dX11_generator_2 : decode cX11_generator 2 = .ok (.invokevirtual 105, 3) := by decide +kernel
theorem dX11_generator_5 : decode cX11_generator 5 = .ok (.ifCond .eq 12, 3) := by decide +kernel
theorem dX11_generator_8 : decode cX11_generator 8 = .ok (.iload_n 2, 1) := by decide +kernel
theorem dX11_generator_9 : decode cX11_generator 9 = .ok (.iconst 0, 1) := by decide +kernel
theorem dX11_generator_10 : decode cX11_generator 10 = .ok (.iconst 2, 1) := by decide +kernel
theorem dX11_generator_11 : decode cX11_generator 11 = .ok (.invokestatic 84, 3) := by decide +kernel
theorem dX11_generator_14 : decode cX11_generator 14 = .ok (.ifCond .ne 5, 3) := by decide +kernel
theorem dX11_generator_17 : decode cX11_generator 17 = .ok (.iconst (-1), 1) := by decide +kernel
theorem dX11_generator_18 : decode cX11_generator 18 = .ok (.ireturn, 1) := by decide +kernel
theorem dX11_generator_19 : decode cX11_generator 19 = .ok (.aload_n 0, 1) := by decide +kernel
theorem dX11_generator_20 : decode cX11_generator 20 = .ok (.iload_n 1, 1) := by decide +kernel
theorem dX11_generator_21 : decode cX11_generator 21 = .ok (.invokevirtual 112, 3) := by decide +kernel
theorem dX11_generator_24 : decode cX11_generator 24 = .ok (.istore_n 3, 1) := by decide +kernel
theorem dX11_generator_25 : decode cX11_generator 25 = .ok (.aload_n 0, 1) := by decide +kernel
theorem dX11_generator_26 : decode cX11_generator 26 = .ok (.invokevirtual 135, 3) := by decide +kernel
theorem dX11_generator_29 : decode cX11_generator 29 = .ok (.iload_n 2, 1) := by decide +kernel
theorem dX11_generator_30 : decode cX11_generator 30 = .ok (.ifCond .ne 7, 3) := by decide +kernel
theorem dX11_generator_33 : decode cX11_generator 33 = .ok (.iload_n 3, 1) := by decide +kernel
theorem dX11_generator_34 : decode cX11_generator 34 = .ok (.goto 30, 3) := by decide +kernel
theorem dX11_generator_37 : decode cX11_generator 37 = .ok (.iload_n 2, 1) := by decide +kernel
theorem dX11_generator_38 : decode cX11_generator 38 = .ok (.iconst 1, 1) := by decide +kernel
theorem dX11_generator_39 : decode cX11_generator 39 = .ok (.if_icmp .ne 19, 3) := by decide +kernel
theorem dX11_generator_42 : decode cX11_generator 42 = .ok (.aload_n 0, 1) := by decide +kernel
theorem dX11_generator_43 : decode cX11_generator 43 = .ok (.iload_n 3, 1) := by decide +kernel
theorem dX11_generator_44 : decode cX11_generator 44 = .ok (.invokevirtual 138, 3) := by decide +kernel
theorem dX11_generator_47 : decode cX11_generator 47 = .ok (.ifCond .eq 7, 3) := by decide +kernel
theorem dX11_generator_50 : decode cX11_generator 50 = .ok (.iconst 0, 1) := by decide +kernel
theorem dX11_generator_51 : decode cX11_generator 51 = .ok (.goto 13, 3) := by decide +kernel
theorem dX11_generator_54 : decode cX11_generator 54 = .ok (.iconst 1, 1) := by decide +kernel
theorem dX11_generator_55 : decode cX11_generator 55 = .ok (.goto 9, 3) := by decide +kernel
theorem dX11_generator_58 : decode cX11_generator 58 = .ok (.aload_n 0, 1) := by decide +kernel
theorem dX11_generator_59 : decode cX11_generator 59 = .ok (.getfield 33, 3) := by decide +kernel
theorem dX11_generator_62 : decode cX11_generator 62 = .ok (.iload_n 3, 1) := by decide +kernel
theorem dX11_generator_63 : decode cX11_generator 63 = .ok (.iaload, 1) := by decide +kernel
theorem dX11_generator_64 : decode cX11_generator 64 = .ok (.ireturn, 1) := by decide +kernel
theorem dX11_member_0 : decode cX11_member 0 = .ok (.aload_n 0, 1) := by decide +kernel
theorem dX11_member_1 : decode cX11_member 1 = .ok (.invokevirtual 135, 3) := by decide +kernel
theorem dX11_member_4 : decode cX11_member 4 = .ok (.aload_n 0, 1) := by decide +kernel
theorem dX11_member_5 : decode cX11_member 5 = .ok (.iload_n 1, 1) := by decide +kernel
theorem dX11_member_6 : decode cX11_member 6 = .ok (.invokevirtual 178, 3) := by decide +kernel
theorem dX11_member_9 : decode cX11_member 9 = .ok (.ifCond .eq 12, 3) := by decide +kernel
theorem dX11_member_12 : decode cX11_member 12 = .ok (.aload_n 0, 1) := by decide +kernel
theorem dX11_member_13 : decode cX11_member 13 = .ok (.getfield 30, 3) := by decide +kernel
theorem dX11_member_16 : decode cX11_member 16 = .ok (.iload_n 1, 1) := by decide +kernel
theorem dX11_member_17 : decode cX11_member 17 = .ok (.iaload, 1) := by decide +kernel
theorem dX11_member_18 : decode cX11_member 18 = .ok (.goto 4, 3) := by decide +kernel
theorem dX11_member_21 : decode cX11_member 21 = .ok (.iconst (-1), 1) := by decide +kernel
theorem dX11_member_22 : decode cX11_member 22 = .ok (.ireturn, 1) := by decide +kernel
theorem dX11_place_0 : decode cX11_place 0 = .ok (.aload_n 0, 1) := by decide +kernel
theorem dX11_place_1 : decode cX11_place 1 = .ok (.iload_n 1, 1) := by decide +kernel
theorem dX11_place_2 : decode cX11_place 2 = .ok (.invokevirtual 95, 3) := by decide +kernel
theorem dX11_place_5 : decode cX11_place 5 = .ok (.ifCond .ne 5, 3) := by decide +kernel
theorem dX11_place_8 : decode cX11_place 8 = .ok (.iconst (-1), 1) := by decide +kernel
theorem dX11_place_9 : decode cX11_place 9 = .ok (.ireturn, 1) := by decide +kernel
theorem dX11_place_10 : decode cX11_place 10 = .ok (.aload_n 0, 1) := by decide +kernel
theorem dX11_place_11 : decode cX11_place 11 = .ok (.invokevirtual 135, 3) := by decide +kernel
theorem dX11_place_14 : decode cX11_place 14 = .ok (.aload_n 0, 1) := by decide +kernel
theorem dX11_place_15 : decode cX11_place 15 = .ok (.getfield 26, 3) := by decide +kernel
theorem dX11_place_18 : decode cX11_place 18 = .ok (.iload_n 1, 1) := by decide +kernel
theorem dX11_place_19 : decode cX11_place 19 = .ok (.baload, 1) := by decide +kernel
theorem dX11_place_20 : decode cX11_place 20 = .ok (.ifCond .eq 12, 3) := by decide +kernel
theorem dX11_place_23 : decode cX11_place 23 = .ok (.aload_n 0, 1) := by decide +kernel
theorem dX11_place_24 : decode cX11_place 24 = .ok (.getfield 33, 3) := by decide +kernel
theorem dX11_place_27 : decode cX11_place 27 = .ok (.iload_n 1, 1) := by decide +kernel
theorem dX11_place_28 : decode cX11_place 28 = .ok (.iaload, 1) := by decide +kernel
theorem dX11_place_29 : decode cX11_place 29 = .ok (.goto 5, 3) := by decide +kernel
theorem dX11_place_32 : decode cX11_place 32 = .ok (.bipush (-2), 2) := by decide +kernel
theorem dX11_place_34 : decode cX11_place 34 = .ok (.ireturn, 1) := by decide +kernel
theorem dX11_based_0 : decode cX11_based 0 = .ok (.aload_n 0, 1) := by decide +kernel
theorem dX11_based_1 : decode cX11_based 1 = .ok (.invokevirtual 135, 3) := by decide +kernel
theorem dX11_based_4 : decode cX11_based 4 = .ok (.iload_n 1, 1) := by decide +kernel
theorem dX11_based_5 : decode cX11_based 5 = .ok (.istore_n 2, 1) := by decide +kernel
theorem dX11_based_6 : decode cX11_based 6 = .ok (.iconst 0, 1) := by decide +kernel
theorem dX11_based_7 : decode cX11_based 7 = .ok (.istore_n 3, 1) := by decide +kernel
theorem dX11_based_8 : decode cX11_based 8 = .ok (.iload_n 3, 1) := by decide +kernel
theorem dX11_based_9 : decode cX11_based 9 = .ok (.aload_n 0, 1) := by decide +kernel
theorem dX11_based_10 : decode cX11_based 10 = .ok (.getfield 141, 3) := by decide +kernel
theorem dX11_based_13 : decode cX11_based 13 = .ok (.if_icmp .ge 43, 3) := by decide +kernel
theorem dX11_based_16 : decode cX11_based 16 = .ok (.iload_n 2, 1) := by decide +kernel
theorem dX11_based_17 : decode cX11_based 17 = .ok (.ifCond .lt 39, 3) := by decide +kernel
theorem dX11_based_20 : decode cX11_based 20 = .ok (.aload_n 0, 1) := by decide +kernel
theorem dX11_based_21 : decode cX11_based 21 = .ok (.aload_n 0, 1) := by decide +kernel
theorem dX11_based_22 : decode cX11_based 22 = .ok (.getfield 30, 3) := by decide +kernel
theorem dX11_based_25 : decode cX11_based 25 = .ok (.iload_n 3, 1) := by decide +kernel
theorem dX11_based_26 : decode cX11_based 26 = .ok (.iaload, 1) := by decide +kernel
theorem dX11_based_27 : decode cX11_based 27 = .ok (.invokevirtual 138, 3) := by decide +kernel
theorem dX11_based_30 : decode cX11_based 30 = .ok (.ifCond .ne 6, 3) := by decide +kernel
theorem dX11_based_33 : decode cX11_based 33 = .ok (.goto 17, 3) := by decide +kernel
theorem dX11_based_36 : decode cX11_based 36 = .ok (.iload_n 2, 1) := by decide +kernel
theorem dX11_based_37 : decode cX11_based 37 = .ok (.ifCond .ne 10, 3) := by decide +kernel
theorem dX11_based_40 : decode cX11_based 40 = .ok (.aload_n 0, 1) := by decide +kernel
theorem dX11_based_41 : decode cX11_based 41 = .ok (.getfield 30, 3) := by decide +kernel
theorem dX11_based_44 : decode cX11_based 44 = .ok (.iload_n 3, 1) := by decide +kernel
theorem dX11_based_45 : decode cX11_based 45 = .ok (.iaload, 1) := by decide +kernel
theorem dX11_based_46 : decode cX11_based 46 = .ok (.ireturn, 1) := by decide +kernel
theorem dX11_based_47 : decode cX11_based 47 = .ok (.iinc 2 (-1), 3) := by decide +kernel
theorem dX11_based_50 : decode cX11_based 50 = .ok (.iinc 3 1, 3) := by decide +kernel
theorem dX11_based_53 : decode cX11_based 53 = .ok (.goto (-45), 3) := by decide +kernel
theorem dX11_based_56 : decode cX11_based 56 = .ok (.iconst (-1), 1) := by decide +kernel
theorem dX11_based_57 : decode cX11_based 57 = .ok (.ireturn, 1) := by decide +kernel
theorem dX11_together_0 : decode cX11_together 0 = .ok (.iconst 0, 1) := by decide +kernel
theorem dX11_together_1 : decode cX11_together 1 = .ok (.istore_n 3, 1) := by decide +kernel
theorem dX11_together_2 : decode cX11_together 2 = .ok (.iconst 0, 1) := by decide +kernel
theorem dX11_together_3 : decode cX11_together 3 = .ok (.istore 4, 2) := by decide +kernel
theorem dX11_together_5 : decode cX11_together 5 = .ok (.iload 4, 2) := by decide +kernel
theorem dX11_together_7 : decode cX11_together 7 = .ok (.aload_n 0, 1) := by decide +kernel
theorem dX11_together_8 : decode cX11_together 8 = .ok (.getfield 141, 3) := by decide +kernel
theorem dX11_together_11 : decode cX11_together 11 = .ok (.if_icmp .ge 40, 3) := by decide +kernel
theorem dX11_together_14 : decode cX11_together 14 = .ok (.aload_n 0, 1) := by decide +kernel
theorem dX11_together_15 : decode cX11_together 15 = .ok (.getfield 30, 3) := by decide +kernel
theorem dX11_together_18 : decode cX11_together 18 = .ok (.iload 4, 2) := by decide +kernel
theorem dX11_together_20 : decode cX11_together 20 = .ok (.iaload, 1) := by decide +kernel
theorem dX11_together_21 : decode cX11_together 21 = .ok (.iload_n 1, 1) := by decide +kernel
theorem dX11_together_22 : decode cX11_together 22 = .ok (.invokestatic 128, 3) := by decide +kernel
theorem dX11_together_25 : decode cX11_together 25 = .ok (.ifCond .eq 20, 3) := by decide +kernel
theorem dX11_together_28 : decode cX11_together 28 = .ok (.aload_n 0, 1) := by decide +kernel
theorem dX11_together_29 : decode cX11_together 29 = .ok (.getfield 30, 3) := by decide +kernel
theorem dX11_together_32 : decode cX11_together 32 = .ok (.iload 4, 2) := by decide +kernel
theorem dX11_together_34 : decode cX11_together 34 = .ok (.iaload, 1) := by decide +kernel
theorem dX11_together_35 : decode cX11_together 35 = .ok (.iload_n 2, 1) := by decide +kernel
theorem dX11_together_36 : decode cX11_together 36 = .ok (.invokestatic 128, 3) := by decide +kernel
theorem dX11_together_39 : decode cX11_together 39 = .ok (.ifCond .eq 6, 3) := by decide +kernel
theorem dX11_together_42 : decode cX11_together 42 = .ok (.iinc 3 1, 3) := by decide +kernel
theorem dX11_together_45 : decode cX11_together 45 = .ok (.iinc 4 1, 3) := by decide +kernel
theorem dX11_together_48 : decode cX11_together 48 = .ok (.goto (-43), 3) := by decide +kernel
theorem dX11_together_51 : decode cX11_together 51 = .ok (.iload_n 3, 1) := by decide +kernel
theorem dX11_together_52 : decode cX11_together 52 = .ok (.ireturn, 1) := by decide +kernel
theorem dX11_twinOf_0 : decode cX11_twinOf 0 = .ok (.aload_n 0, 1) := by decide +kernel
theorem dX11_twinOf_1 : decode cX11_twinOf 1 = .ok (.invokevirtual 181, 3) := by decide +kernel
theorem dX11_twinOf_4 : decode cX11_twinOf 4 = .ok (.iload_n 1, 1) := by decide +kernel
theorem dX11_twinOf_5 : decode cX11_twinOf 5 = .ok (.invokestatic 128, 3) := by decide +kernel
theorem dX11_twinOf_8 : decode cX11_twinOf 8 = .ok (.ifCond .ne 6, 3) := by decide +kernel
theorem dX11_twinOf_11 : decode cX11_twinOf 11 = .ok (.bipush (-2), 2) := by decide +kernel
theorem dX11_twinOf_13 : decode cX11_twinOf 13 = .ok (.ireturn, 1) := by decide +kernel
theorem dX11_twinOf_14 : decode cX11_twinOf 14 = .ok (.iconst 0, 1) := by decide +kernel
theorem dX11_twinOf_15 : decode cX11_twinOf 15 = .ok (.istore_n 2, 1) := by decide +kernel
theorem dX11_twinOf_16 : decode cX11_twinOf 16 = .ok (.iload_n 2, 1) := by decide +kernel
theorem dX11_twinOf_17 : decode cX11_twinOf 17 = .ok (.aload_n 0, 1) := by decide +kernel
theorem dX11_twinOf_18 : decode cX11_twinOf 18 = .ok (.getfield 13, 3) := by decide +kernel
theorem dX11_twinOf_21 : decode cX11_twinOf 21 = .ok (.iconst 0, 1) := by decide +kernel
theorem dX11_twinOf_22 : decode cX11_twinOf 22 = .ok (.iaload, 1) := by decide +kernel
theorem dX11_twinOf_23 : decode cX11_twinOf 23 = .ok (.if_icmp .ge 43, 3) := by decide +kernel
theorem dX11_twinOf_26 : decode cX11_twinOf 26 = .ok (.aload_n 0, 1) := by decide +kernel
theorem dX11_twinOf_27 : decode cX11_twinOf 27 = .ok (.iload_n 1, 1) := by decide +kernel
theorem dX11_twinOf_28 : decode cX11_twinOf 28 = .ok (.iload_n 2, 1) := by decide +kernel
theorem dX11_twinOf_29 : decode cX11_twinOf 29 = .ok (.invokevirtual 184, 3) := by decide +kernel
theorem dX11_twinOf_32 : decode cX11_twinOf 32 = .ok (.istore_n 3, 1) := by decide +kernel
theorem dX11_twinOf_33 : decode cX11_twinOf 33 = .ok (.iload_n 2, 1) := by decide +kernel
theorem dX11_twinOf_34 : decode cX11_twinOf 34 = .ok (.iload_n 1, 1) := by decide +kernel
theorem dX11_twinOf_35 : decode cX11_twinOf 35 = .ok (.if_icmp .eq 25, 3) := by decide +kernel
theorem dX11_twinOf_38 : decode cX11_twinOf 38 = .ok (.iload_n 3, 1) := by decide +kernel
theorem dX11_twinOf_39 : decode cX11_twinOf 39 = .ok (.aload_n 0, 1) := by decide +kernel
theorem dX11_twinOf_40 : decode cX11_twinOf 40 = .ok (.iload_n 1, 1) := by decide +kernel
theorem dX11_twinOf_41 : decode cX11_twinOf 41 = .ok (.iload_n 1, 1) := by decide +kernel
theorem dX11_twinOf_42 : decode cX11_twinOf 42 = .ok (.invokevirtual 184, 3) := by decide +kernel
theorem dX11_twinOf_45 : decode cX11_twinOf 45 = .ok (.if_icmp .ne 15, 3) := by decide +kernel
theorem dX11_twinOf_48 : decode cX11_twinOf 48 = .ok (.iload_n 3, 1) := by decide +kernel
theorem dX11_twinOf_49 : decode cX11_twinOf 49 = .ok (.aload_n 0, 1) := by decide +kernel
theorem dX11_twinOf_50 : decode cX11_twinOf 50 = .ok (.iload_n 2, 1) := by decide +kernel
theorem dX11_twinOf_51 : decode cX11_twinOf 51 = .ok (.iload_n 2, 1) := by decide +kernel
theorem dX11_twinOf_52 : decode cX11_twinOf 52 = .ok (.invokevirtual 184, 3) := by decide +kernel
theorem dX11_twinOf_55 : decode cX11_twinOf 55 = .ok (.if_icmp .ne 5, 3) := by decide +kernel
theorem dX11_twinOf_58 : decode cX11_twinOf 58 = .ok (.iload_n 2, 1) := by decide +kernel
theorem dX11_twinOf_59 : decode cX11_twinOf 59 = .ok (.ireturn, 1) := by decide +kernel
theorem dX11_twinOf_60 : decode cX11_twinOf 60 = .ok (.iinc 2 1, 3) := by decide +kernel
theorem dX11_twinOf_63 : decode cX11_twinOf 63 = .ok (.goto (-47), 3) := by decide +kernel
theorem dX11_twinOf_66 : decode cX11_twinOf 66 = .ok (.bipush (-2), 2) := by decide +kernel
theorem dX11_twinOf_68 : decode cX11_twinOf 68 = .ok (.ireturn, 1) := by decide +kernel
theorem dX11_leastWith_0 : decode cX11_leastWith 0 = .ok (.iconst 0, 1) := by decide +kernel
theorem dX11_leastWith_1 : decode cX11_leastWith 1 = .ok (.istore_n 2, 1) := by decide +kernel
theorem dX11_leastWith_2 : decode cX11_leastWith 2 = .ok (.iload_n 2, 1) := by decide +kernel
theorem dX11_leastWith_3 : decode cX11_leastWith 3 = .ok (.aload_n 0, 1) := by decide +kernel
theorem dX11_leastWith_4 : decode cX11_leastWith 4 = .ok (.getfield 141, 3) := by decide +kernel
theorem dX11_leastWith_7 : decode cX11_leastWith 7 = .ok (.if_icmp .ge 32, 3) := by decide +kernel
theorem dX11_leastWith_10 : decode cX11_leastWith 10 = .ok (.aload_n 0, 1) := by decide +kernel
theorem dX11_leastWith_11 : decode cX11_leastWith 11 = .ok (.getfield 30, 3) := by decide +kernel
theorem dX11_leastWith_14 : decode cX11_leastWith 14 = .ok (.iload_n 2, 1) := by decide +kernel
theorem dX11_leastWith_15 : decode cX11_leastWith 15 = .ok (.iaload, 1) := by decide +kernel
theorem dX11_leastWith_16 : decode cX11_leastWith 16 = .ok (.iload_n 1, 1) := by decide +kernel
theorem dX11_leastWith_17 : decode cX11_leastWith 17 = .ok (.invokestatic 128, 3) := by decide +kernel
theorem dX11_leastWith_20 : decode cX11_leastWith 20 = .ok (.ifCond .eq 13, 3) := by decide +kernel
theorem dX11_leastWith_23 : decode cX11_leastWith 23 = .ok (.aload_n 0, 1) := by decide +kernel
theorem dX11_leastWith_24 : decode cX11_leastWith 24 = .ok (.getfield 30, 3) := by decide +kernel
theorem dX11_leastWith_27 : decode cX11_leastWith 27 = .ok (.iload_n 2, 1) := by decide +kernel
theorem dX11_leastWith_28 : decode cX11_leastWith 28 = .ok (.iaload, 1) := by decide +kernel
theorem dX11_leastWith_29 : decode cX11_leastWith 29 = .ok (.invokestatic 157, 3) := by decide +kernel
theorem dX11_leastWith_32 : decode cX11_leastWith 32 = .ok (.ireturn, 1) := by decide +kernel
theorem dX11_leastWith_33 : decode cX11_leastWith 33 = .ok (.iinc 2 1, 3) := by decide +kernel
theorem dX11_leastWith_36 : decode cX11_leastWith 36 = .ok (.goto (-34), 3) := by decide +kernel
theorem dX11_leastWith_39 : decode cX11_leastWith 39 = .ok (.bipush (-2), 2) := by decide +kernel
theorem dX11_leastWith_41 : decode cX11_leastWith 41 = .ok (.ireturn, 1) := by decide +kernel
theorem dX11_point_0 : decode cX11_point 0 = .ok (.aload_n 0, 1) := by decide +kernel
theorem dX11_point_1 : decode cX11_point 1 = .ok (.iload_n 1, 1) := by decide +kernel
theorem dX11_point_2 : decode cX11_point 2 = .ok (.invokevirtual 116, 3) := by decide +kernel
theorem dX11_point_5 : decode cX11_point 5 = .ok (.ifCond .eq 12, 3) := by decide +kernel
theorem dX11_point_8 : decode cX11_point 8 = .ok (.iload_n 2, 1) := by decide +kernel
theorem dX11_point_9 : decode cX11_point 9 = .ok (.iconst 0, 1) := by decide +kernel
theorem dX11_point_10 : decode cX11_point 10 = .ok (.iconst 5, 1) := by decide +kernel
theorem dX11_point_11 : decode cX11_point 11 = .ok (.invokestatic 84, 3) := by decide +kernel
theorem dX11_point_14 : decode cX11_point 14 = .ok (.ifCond .ne 5, 3) := by decide +kernel
theorem dX11_point_17 : decode cX11_point 17 = .ok (.iconst (-1), 1) := by decide +kernel
theorem dX11_point_18 : decode cX11_point 18 = .ok (.ireturn, 1) := by decide +kernel
theorem dX11_point_19 : decode cX11_point 19 = .ok (.aload_n 0, 1) := by decide +kernel
theorem dX11_point_20 : decode cX11_point 20 = .ok (.invokevirtual 135, 3) := by decide +kernel
theorem dX11_point_23 : decode cX11_point 23 = .ok (.iload_n 2, 1) := by decide +kernel
theorem dX11_point_24 : decode cX11_point 24 = .ok (.tableswitch 111 0 4 #[36, 45, 58, 67, 105], 36) := by decide +kernel
theorem dX11_point_60 : decode cX11_point 60 = .ok (.aload_n 0, 1) := by decide +kernel
theorem dX11_point_61 : decode cX11_point 61 = .ok (.getfield 26, 3) := by decide +kernel
theorem dX11_point_64 : decode cX11_point 64 = .ok (.iload_n 1, 1) := by decide +kernel
theorem dX11_point_65 : decode cX11_point 65 = .ok (.invokestatic 171, 3) := by decide +kernel
theorem dX11_point_68 : decode cX11_point 68 = .ok (.ireturn, 1) := by decide +kernel
theorem dX11_point_69 : decode cX11_point 69 = .ok (.aload_n 0, 1) := by decide +kernel
theorem dX11_point_70 : decode cX11_point 70 = .ok (.aload_n 0, 1) := by decide +kernel
theorem dX11_point_71 : decode cX11_point 71 = .ok (.getfield 26, 3) := by decide +kernel
theorem dX11_point_74 : decode cX11_point 74 = .ok (.invokevirtual 188, 3) := by decide +kernel
theorem dX11_point_77 : decode cX11_point 77 = .ok (.iload_n 1, 1) := by decide +kernel
theorem dX11_point_78 : decode cX11_point 78 = .ok (.ishr, 1) := by decide +kernel
theorem dX11_point_79 : decode cX11_point 79 = .ok (.iconst 1, 1) := by decide +kernel
theorem dX11_point_80 : decode cX11_point 80 = .ok (.iand, 1) := by decide +kernel
theorem dX11_point_81 : decode cX11_point 81 = .ok (.ireturn, 1) := by decide +kernel
theorem dX11_point_82 : decode cX11_point 82 = .ok (.aload_n 0, 1) := by decide +kernel
theorem dX11_point_83 : decode cX11_point 83 = .ok (.getfield 13, 3) := by decide +kernel
theorem dX11_point_86 : decode cX11_point 86 = .ok (.iconst 3, 1) := by decide +kernel
theorem dX11_point_87 : decode cX11_point 87 = .ok (.iload_n 1, 1) := by decide +kernel
theorem dX11_point_88 : decode cX11_point 88 = .ok (.iadd, 1) := by decide +kernel
theorem dX11_point_89 : decode cX11_point 89 = .ok (.iaload, 1) := by decide +kernel
theorem dX11_point_90 : decode cX11_point 90 = .ok (.ireturn, 1) := by decide +kernel
theorem dX11_point_91 : decode cX11_point 91 = .ok (.iconst 0, 1) := by decide +kernel
theorem dX11_point_92 : decode cX11_point 92 = .ok (.istore_n 3, 1) := by decide +kernel
theorem dX11_point_93 : decode cX11_point 93 = .ok (.iconst 0, 1) := by decide +kernel
theorem dX11_point_94 : decode cX11_point 94 = .ok (.istore 4, 2) := by decide +kernel
theorem dX11_point_96 : decode cX11_point 96 = .ok (.iload 4, 2) := by decide +kernel
theorem dX11_point_98 : decode cX11_point 98 = .ok (.aload_n 0, 1) := by decide +kernel
theorem dX11_point_99 : decode cX11_point 99 = .ok (.invokevirtual 80, 3) := by decide +kernel
theorem dX11_point_102 : decode cX11_point 102 = .ok (.if_icmp .ge 25, 3) := by decide +kernel
theorem dX11_point_105 : decode cX11_point 105 = .ok (.aload_n 0, 1) := by decide +kernel
theorem dX11_point_106 : decode cX11_point 106 = .ok (.iload 4, 2) := by decide +kernel
theorem dX11_point_108 : decode cX11_point 108 = .ok (.invokevirtual 112, 3) := by decide +kernel
theorem dX11_point_111 : decode cX11_point 111 = .ok (.iload_n 1, 1) := by decide +kernel
theorem dX11_point_112 : decode cX11_point 112 = .ok (.invokestatic 128, 3) := by decide +kernel
theorem dX11_point_115 : decode cX11_point 115 = .ok (.ifCond .eq 6, 3) := by decide +kernel
theorem dX11_point_118 : decode cX11_point 118 = .ok (.iinc 3 1, 3) := by decide +kernel
theorem dX11_point_121 : decode cX11_point 121 = .ok (.iinc 4 1, 3) := by decide +kernel
theorem dX11_point_124 : decode cX11_point 124 = .ok (.goto (-28), 3) := by decide +kernel
theorem dX11_point_127 : decode cX11_point 127 = .ok (.iload_n 3, 1) := by decide +kernel
theorem dX11_point_128 : decode cX11_point 128 = .ok (.ireturn, 1) := by decide +kernel
theorem dX11_point_129 : decode cX11_point 129 = .ok (.aload_n 0, 1) := by decide +kernel
theorem dX11_point_130 : decode cX11_point 130 = .ok (.iload_n 1, 1) := by decide +kernel
theorem dX11_point_131 : decode cX11_point 131 = .ok (.invokevirtual 191, 3) := by decide +kernel
theorem dX11_point_134 : decode cX11_point 134 = .ok (.ireturn, 1) := by decide +kernel
theorem dX11_point_135 : decode cX11_point 135 = .ok (.aload_n 0, 1) := by decide +kernel
theorem dX11_point_136 : decode cX11_point 136 = .ok (.iload_n 1, 1) := by decide +kernel
theorem dX11_point_137 : decode cX11_point 137 = .ok (.invokevirtual 194, 3) := by decide +kernel
theorem dX11_point_140 : decode cX11_point 140 = .ok (.ireturn, 1) := by decide +kernel
theorem dX11_measures_0 : decode cX11_measures 0 = .ok (.iconst 0, 1) := by decide +kernel
theorem dX11_measures_1 : decode cX11_measures 1 = .ok (.istore_n 2, 1) := by decide +kernel
theorem dX11_measures_2 : decode cX11_measures 2 = .ok (.iload_n 2, 1) := by decide +kernel
theorem dX11_measures_3 : decode cX11_measures 3 = .ok (.aload_n 0, 1) := by decide +kernel
theorem dX11_measures_4 : decode cX11_measures 4 = .ok (.getfield 141, 3) := by decide +kernel
theorem dX11_measures_7 : decode cX11_measures 7 = .ok (.if_icmp .ge 136, 3) := by decide +kernel
theorem dX11_measures_10 : decode cX11_measures 10 = .ok (.iload_n 1, 1) := by decide +kernel
theorem dX11_measures_11 : decode cX11_measures 11 = .ok (.ifCond .eq 14, 3) := by decide +kernel
theorem dX11_measures_14 : decode cX11_measures 14 = .ok (.aload_n 0, 1) := by decide +kernel
theorem dX11_measures_15 : decode cX11_measures 15 = .ok (.getfield 141, 3) := by decide +kernel
theorem dX11_measures_18 : decode cX11_measures 18 = .ok (.iconst 1, 1) := by decide +kernel
theorem dX11_measures_19 : decode cX11_measures 19 = .ok (.isub, 1) := by decide +kernel
theorem dX11_measures_20 : decode cX11_measures 20 = .ok (.iload_n 2, 1) := by decide +kernel
theorem dX11_measures_21 : decode cX11_measures 21 = .ok (.isub, 1) := by decide +kernel
theorem dX11_measures_22 : decode cX11_measures 22 = .ok (.goto 4, 3) := by decide +kernel
theorem dX11_measures_25 : decode cX11_measures 25 = .ok (.iload_n 2, 1) := by decide +kernel
theorem dX11_measures_26 : decode cX11_measures 26 = .ok (.istore_n 3, 1) := by decide +kernel
theorem dX11_measures_27 : decode cX11_measures 27 = .ok (.aload_n 0, 1) := by decide +kernel
theorem dX11_measures_28 : decode cX11_measures 28 = .ok (.getfield 39, 3) := by decide +kernel
theorem dX11_measures_31 : decode cX11_measures 31 = .ok (.iload_n 3, 1) := by decide +kernel
theorem dX11_measures_32 : decode cX11_measures 32 = .ok (.iconst 0, 1) := by decide +kernel
theorem dX11_measures_33 : decode cX11_measures 33 = .ok (.iastore, 1) := by decide +kernel
theorem dX11_measures_34 : decode cX11_measures 34 = .ok (.iconst 0, 1) := by decide +kernel
theorem dX11_measures_35 : decode cX11_measures 35 = .ok (.istore 4, 2) := by decide +kernel
theorem dX11_measures_37 : decode cX11_measures 37 = .ok (.iload 4, 2) := by decide +kernel
theorem dX11_measures_39 : decode cX11_measures 39 = .ok (.aload_n 0, 1) := by decide +kernel
theorem dX11_measures_40 : decode cX11_measures 40 = .ok (.getfield 141, 3) := by decide +kernel
theorem dX11_measures_43 : decode cX11_measures 43 = .ok (.if_icmp .ge 94, 3) := by decide +kernel
theorem dX11_measures_46 : decode cX11_measures 46 = .ok (.iload_n 1, 1) := by decide +kernel
theorem dX11_measures_47 : decode cX11_measures 47 = .ok (.ifCond .eq 22, 3) := by decide +kernel
theorem dX11_measures_50 : decode cX11_measures 50 = .ok (.aload_n 0, 1) := by decide +kernel
theorem dX11_measures_51 : decode cX11_measures 51 = .ok (.getfield 30, 3) := by decide +kernel
theorem dX11_measures_54 : decode cX11_measures 54 = .ok (.iload_n 3, 1) := by decide +kernel
theorem dX11_measures_55 : decode cX11_measures 55 = .ok (.iaload, 1) := by decide +kernel
theorem dX11_measures_56 : decode cX11_measures 56 = .ok (.aload_n 0, 1) := by decide +kernel
theorem dX11_measures_57 : decode cX11_measures 57 = .ok (.getfield 30, 3) := by decide +kernel
theorem dX11_measures_60 : decode cX11_measures 60 = .ok (.iload 4, 2) := by decide +kernel
theorem dX11_measures_62 : decode cX11_measures 62 = .ok (.iaload, 1) := by decide +kernel
theorem dX11_measures_63 : decode cX11_measures 63 = .ok (.invokestatic 160, 3) := by decide +kernel
theorem dX11_measures_66 : decode cX11_measures 66 = .ok (.goto 19, 3) := by decide +kernel
theorem dX11_measures_69 : decode cX11_measures 69 = .ok (.aload_n 0, 1) := by decide +kernel
theorem dX11_measures_70 : decode cX11_measures 70 = .ok (.getfield 30, 3) := by decide +kernel
theorem dX11_measures_73 : decode cX11_measures 73 = .ok (.iload 4, 2) := by decide +kernel
theorem dX11_measures_75 : decode cX11_measures 75 = .ok (.iaload, 1) := by decide +kernel
theorem dX11_measures_76 : decode cX11_measures 76 = .ok (.aload_n 0, 1) := by decide +kernel
theorem dX11_measures_77 : decode cX11_measures 77 = .ok (.getfield 30, 3) := by decide +kernel
theorem dX11_measures_80 : decode cX11_measures 80 = .ok (.iload_n 3, 1) := by decide +kernel
theorem dX11_measures_81 : decode cX11_measures 81 = .ok (.iaload, 1) := by decide +kernel
theorem dX11_measures_82 : decode cX11_measures 82 = .ok (.invokestatic 160, 3) := by decide +kernel
theorem dX11_measures_85 : decode cX11_measures 85 = .ok (.istore 5, 2) := by decide +kernel
theorem dX11_measures_87 : decode cX11_measures 87 = .ok (.iload 4, 2) := by decide +kernel
theorem dX11_measures_89 : decode cX11_measures 89 = .ok (.iload_n 3, 1) := by decide +kernel
theorem dX11_measures_90 : decode cX11_measures 90 = .ok (.if_icmp .eq 41, 3) := by decide +kernel
theorem dX11_measures_93 : decode cX11_measures 93 = .ok (.iload 5, 2) := by decide +kernel
theorem dX11_measures_95 : decode cX11_measures 95 = .ok (.ifCond .eq 36, 3) := by decide +kernel
theorem dX11_measures_98 : decode cX11_measures 98 = .ok (.aload_n 0, 1) := by decide +kernel
theorem dX11_measures_99 : decode cX11_measures 99 = .ok (.getfield 39, 3) := by decide +kernel
theorem dX11_measures_102 : decode cX11_measures 102 = .ok (.iload 4, 2) := by decide +kernel
theorem dX11_measures_104 : decode cX11_measures 104 = .ok (.iaload, 1) := by decide +kernel
theorem dX11_measures_105 : decode cX11_measures 105 = .ok (.iconst 1, 1) := by decide +kernel
theorem dX11_measures_106 : decode cX11_measures 106 = .ok (.iadd, 1) := by decide +kernel
theorem dX11_measures_107 : decode cX11_measures 107 = .ok (.aload_n 0, 1) := by decide +kernel
theorem dX11_measures_108 : decode cX11_measures 108 = .ok (.getfield 39, 3) := by decide +kernel
theorem dX11_measures_111 : decode cX11_measures 111 = .ok (.iload_n 3, 1) := by decide +kernel
theorem dX11_measures_112 : decode cX11_measures 112 = .ok (.iaload, 1) := by decide +kernel
theorem dX11_measures_113 : decode cX11_measures 113 = .ok (.if_icmp .le 18, 3) := by decide +kernel
theorem dX11_measures_116 : decode cX11_measures 116 = .ok (.aload_n 0, 1) := by decide +kernel
theorem dX11_measures_117 : decode cX11_measures 117 = .ok (.getfield 39, 3) := by decide +kernel
theorem dX11_measures_120 : decode cX11_measures 120 = .ok (.iload_n 3, 1) := by decide +kernel
theorem dX11_measures_121 : decode cX11_measures 121 = .ok (.aload_n 0, 1) := by decide +kernel
theorem dX11_measures_122 : decode cX11_measures 122 = .ok (.getfield 39, 3) := by decide +kernel
theorem dX11_measures_125 : decode cX11_measures 125 = .ok (.iload 4, 2) := by decide +kernel
theorem dX11_measures_127 : decode cX11_measures 127 = .ok (.iaload, 1) := by decide +kernel
theorem dX11_measures_128 : decode cX11_measures 128 = .ok (.iconst 1, 1) := by decide +kernel
theorem dX11_measures_129 : decode cX11_measures 129 = .ok (.iadd, 1) := by decide +kernel
theorem dX11_measures_130 : decode cX11_measures 130 = .ok (.iastore, 1) := by decide +kernel
theorem dX11_measures_131 : decode cX11_measures 131 = .ok (.iinc 4 1, 3) := by decide +kernel
theorem dX11_measures_134 : decode cX11_measures 134 = .ok (.goto (-97), 3) := by decide +kernel
theorem dX11_measures_137 : decode cX11_measures 137 = .ok (.iinc 2 1, 3) := by decide +kernel
theorem dX11_measures_140 : decode cX11_measures 140 = .ok (.goto (-138), 3) := by decide +kernel
theorem dX11_measures_143 : decode cX11_measures 143 = .ok (.return_, 1) := by decide +kernel
theorem dX11_couples_0 : decode cX11_couples 0 = .ok (.iconst 0, 1) := by decide +kernel
theorem dX11_couples_1 : decode cX11_couples 1 = .ok (.istore_n 2, 1) := by decide +kernel
theorem dX11_couples_2 : decode cX11_couples 2 = .ok (.iload_n 2, 1) := by decide +kernel
theorem dX11_couples_3 : decode cX11_couples 3 = .ok (.aload_n 0, 1) := by decide +kernel
theorem dX11_couples_4 : decode cX11_couples 4 = .ok (.getfield 141, 3) := by decide +kernel
theorem dX11_couples_7 : decode cX11_couples 7 = .ok (.if_icmp .ge 16, 3) := by decide +kernel
theorem dX11_couples_10 : decode cX11_couples 10 = .ok (.aload_n 0, 1) := by decide +kernel
theorem dX11_couples_11 : decode cX11_couples 11 = .ok (.getfield 48, 3) := by decide +kernel
theorem dX11_couples_14 : decode cX11_couples 14 = .ok (.iload_n 2, 1) := by decide +kernel
theorem dX11_couples_15 : decode cX11_couples 15 = .ok (.iconst (-1), 1) := by decide +kernel
theorem dX11_couples_16 : decode cX11_couples 16 = .ok (.iastore, 1) := by decide +kernel
theorem dX11_couples_17 : decode cX11_couples 17 = .ok (.iinc 2 1, 3) := by decide +kernel
theorem dX11_couples_20 : decode cX11_couples 20 = .ok (.goto (-18), 3) := by decide +kernel
theorem dX11_couples_23 : decode cX11_couples 23 = .ok (.iconst 0, 1) := by decide +kernel
theorem dX11_couples_24 : decode cX11_couples 24 = .ok (.istore_n 2, 1) := by decide +kernel
theorem dX11_couples_25 : decode cX11_couples 25 = .ok (.iconst 1, 1) := by decide +kernel
theorem dX11_couples_26 : decode cX11_couples 26 = .ok (.istore_n 3, 1) := by decide +kernel
theorem dX11_couples_27 : decode cX11_couples 27 = .ok (.aload_n 0, 1) := by decide +kernel
theorem dX11_couples_28 : decode cX11_couples 28 = .ok (.getfield 51, 3) := by decide +kernel
theorem dX11_couples_31 : decode cX11_couples 31 = .ok (.iconst 0, 1) := by decide +kernel
theorem dX11_couples_32 : decode cX11_couples 32 = .ok (.iload_n 1, 1) := by decide +kernel
theorem dX11_couples_33 : decode cX11_couples 33 = .ok (.iastore, 1) := by decide +kernel
theorem dX11_couples_34 : decode cX11_couples 34 = .ok (.iload_n 2, 1) := by decide +kernel
theorem dX11_couples_35 : decode cX11_couples 35 = .ok (.iload_n 3, 1) := by decide +kernel
theorem dX11_couples_36 : decode cX11_couples 36 = .ok (.if_icmp .ge 120, 3) := by decide +kernel
theorem dX11_couples_39 : decode cX11_couples 39 = .ok (.aload_n 0, 1) := by decide +kernel
theorem dX11_couples_40 : decode cX11_couples 40 = .ok (.getfield 51, 3) := by decide +kernel
theorem dX11_couples_43 : decode cX11_couples 43 = .ok (.iload_n 2, 1) := by decide +kernel
theorem dX11_couples_44 : decode cX11_couples 44 = .ok (.iaload, 1) := by decide +kernel
theorem dX11_couples_45 : decode cX11_couples 45 = .ok (.istore 4, 2) := by decide +kernel
theorem dX11_couples_47 : decode cX11_couples 47 = .ok (.iinc 2 1, 3) := by decide +kernel
theorem dX11_couples_50 : decode cX11_couples 50 = .ok (.iconst 0, 1) := by decide +kernel
theorem dX11_couples_51 : decode cX11_couples 51 = .ok (.istore 5, 2) := by decide +kernel
theorem dX11_couples_53 : decode cX11_couples 53 = .ok (.iload 5, 2) := by decide +kernel
theorem dX11_couples_55 : decode cX11_couples 55 = .ok (.aload_n 0, 1) := by decide +kernel
theorem dX11_couples_56 : decode cX11_couples 56 = .ok (.getfield 141, 3) := by decide +kernel
theorem dX11_couples_59 : decode cX11_couples 59 = .ok (.if_icmp .ge 94, 3) := by decide +kernel
theorem dX11_couples_62 : decode cX11_couples 62 = .ok (.iload 4, 2) := by decide +kernel
theorem dX11_couples_64 : decode cX11_couples 64 = .ok (.iload 5, 2) := by decide +kernel
theorem dX11_couples_66 : decode cX11_couples 66 = .ok (.if_icmp .eq 81, 3) := by decide +kernel
theorem dX11_couples_69 : decode cX11_couples 69 = .ok (.aload_n 0, 1) := by decide +kernel
theorem dX11_couples_70 : decode cX11_couples 70 = .ok (.getfield 48, 3) := by decide +kernel
theorem dX11_couples_73 : decode cX11_couples 73 = .ok (.iload 5, 2) := by decide +kernel
theorem dX11_couples_75 : decode cX11_couples 75 = .ok (.iaload, 1) := by decide +kernel
theorem dX11_couples_76 : decode cX11_couples 76 = .ok (.iconst (-1), 1) := by decide +kernel
theorem dX11_couples_77 : decode cX11_couples 77 = .ok (.if_icmp .ne 70, 3) := by decide +kernel
theorem dX11_couples_80 : decode cX11_couples 80 = .ok (.aload_n 0, 1) := by decide +kernel
theorem dX11_couples_81 : decode cX11_couples 81 = .ok (.getfield 30, 3) := by decide +kernel
theorem dX11_couples_84 : decode cX11_couples 84 = .ok (.iload 4, 2) := by decide +kernel
theorem dX11_couples_86 : decode cX11_couples 86 = .ok (.iaload, 1) := by decide +kernel
theorem dX11_couples_87 : decode cX11_couples 87 = .ok (.aload_n 0, 1) := by decide +kernel
theorem dX11_couples_88 : decode cX11_couples 88 = .ok (.getfield 30, 3) := by decide +kernel
theorem dX11_couples_91 : decode cX11_couples 91 = .ok (.iload 5, 2) := by decide +kernel
theorem dX11_couples_93 : decode cX11_couples 93 = .ok (.iaload, 1) := by decide +kernel
theorem dX11_couples_94 : decode cX11_couples 94 = .ok (.invokestatic 160, 3) := by decide +kernel
theorem dX11_couples_97 : decode cX11_couples 97 = .ok (.ifCond .ne 6, 3) := by decide +kernel
theorem dX11_couples_100 : decode cX11_couples 100 = .ok (.goto 47, 3) := by decide +kernel
theorem dX11_couples_103 : decode cX11_couples 103 = .ok (.aload_n 0, 1) := by decide +kernel
theorem dX11_couples_104 : decode cX11_couples 104 = .ok (.getfield 48, 3) := by decide +kernel
theorem dX11_couples_107 : decode cX11_couples 107 = .ok (.iload 5, 2) := by decide +kernel
theorem dX11_couples_109 : decode cX11_couples 109 = .ok (.iload 4, 2) := by decide +kernel
theorem dX11_couples_111 : decode cX11_couples 111 = .ok (.iastore, 1) := by decide +kernel
theorem dX11_couples_112 : decode cX11_couples 112 = .ok (.aload_n 0, 1) := by decide +kernel
theorem dX11_couples_113 : decode cX11_couples 113 = .ok (.getfield 45, 3) := by decide +kernel
theorem dX11_couples_116 : decode cX11_couples 116 = .ok (.iload 5, 2) := by decide +kernel
theorem dX11_couples_118 : decode cX11_couples 118 = .ok (.iaload, 1) := by decide +kernel
theorem dX11_couples_119 : decode cX11_couples 119 = .ok (.iconst (-1), 1) := by decide +kernel
theorem dX11_couples_120 : decode cX11_couples 120 = .ok (.if_icmp .ne 11, 3) := by decide +kernel
theorem dX11_couples_123 : decode cX11_couples 123 = .ok (.aload_n 0, 1) := by decide +kernel
theorem dX11_couples_124 : decode cX11_couples 124 = .ok (.iload 5, 2) := by decide +kernel
theorem dX11_couples_126 : decode cX11_couples 126 = .ok (.invokevirtual 197, 3) := by decide +kernel
theorem dX11_couples_129 : decode cX11_couples 129 = .ok (.iconst 1, 1) := by decide +kernel
theorem dX11_couples_130 : decode cX11_couples 130 = .ok (.ireturn, 1) := by decide +kernel
theorem dX11_couples_131 : decode cX11_couples 131 = .ok (.aload_n 0, 1) := by decide +kernel
theorem dX11_couples_132 : decode cX11_couples 132 = .ok (.getfield 51, 3) := by decide +kernel
theorem dX11_couples_135 : decode cX11_couples 135 = .ok (.iload_n 3, 1) := by decide +kernel
theorem dX11_couples_136 : decode cX11_couples 136 = .ok (.aload_n 0, 1) := by decide +kernel
theorem dX11_couples_137 : decode cX11_couples 137 = .ok (.getfield 45, 3) := by decide +kernel
theorem dX11_couples_140 : decode cX11_couples 140 = .ok (.iload 5, 2) := by decide +kernel
theorem dX11_couples_142 : decode cX11_couples 142 = .ok (.iaload, 1) := by decide +kernel
theorem dX11_couples_143 : decode cX11_couples 143 = .ok (.iastore, 1) := by decide +kernel
theorem dX11_couples_144 : decode cX11_couples 144 = .ok (.iinc 3 1, 3) := by decide +kernel
theorem dX11_couples_147 : decode cX11_couples 147 = .ok (.iinc 5 1, 3) := by decide +kernel
theorem dX11_couples_150 : decode cX11_couples 150 = .ok (.goto (-97), 3) := by decide +kernel
theorem dX11_couples_153 : decode cX11_couples 153 = .ok (.goto (-119), 3) := by decide +kernel
theorem dX11_couples_156 : decode cX11_couples 156 = .ok (.iconst 0, 1) := by decide +kernel
theorem dX11_couples_157 : decode cX11_couples 157 = .ok (.ireturn, 1) := by decide +kernel
theorem dX11_turnsOver_0 : decode cX11_turnsOver 0 = .ok (.iload_n 1, 1) := by decide +kernel
theorem dX11_turnsOver_1 : decode cX11_turnsOver 1 = .ok (.istore_n 2, 1) := by decide +kernel
theorem dX11_turnsOver_2 : decode cX11_turnsOver 2 = .ok (.iload_n 2, 1) := by decide +kernel
theorem dX11_turnsOver_3 : decode cX11_turnsOver 3 = .ok (.iconst (-1), 1) := by decide +kernel
theorem dX11_turnsOver_4 : decode cX11_turnsOver 4 = .ok (.if_icmp .eq 38, 3) := by decide +kernel
theorem dX11_turnsOver_7 : decode cX11_turnsOver 7 = .ok (.aload_n 0, 1) := by decide +kernel
theorem dX11_turnsOver_8 : decode cX11_turnsOver 8 = .ok (.getfield 48, 3) := by decide +kernel
theorem dX11_turnsOver_11 : decode cX11_turnsOver 11 = .ok (.iload_n 2, 1) := by decide +kernel
theorem dX11_turnsOver_12 : decode cX11_turnsOver 12 = .ok (.iaload, 1) := by decide +kernel
theorem dX11_turnsOver_13 : decode cX11_turnsOver 13 = .ok (.istore_n 3, 1) := by decide +kernel
theorem dX11_turnsOver_14 : decode cX11_turnsOver 14 = .ok (.aload_n 0, 1) := by decide +kernel
theorem dX11_turnsOver_15 : decode cX11_turnsOver 15 = .ok (.getfield 42, 3) := by decide +kernel
theorem dX11_turnsOver_18 : decode cX11_turnsOver 18 = .ok (.iload_n 3, 1) := by decide +kernel
theorem dX11_turnsOver_19 : decode cX11_turnsOver 19 = .ok (.iaload, 1) := by decide +kernel
theorem dX11_turnsOver_20 : decode cX11_turnsOver 20 = .ok (.istore 4, 2) := by decide +kernel
theorem dX11_turnsOver_22 : decode cX11_turnsOver 22 = .ok (.aload_n 0, 1) := by decide +kernel
theorem dX11_turnsOver_23 : decode cX11_turnsOver 23 = .ok (.getfield 42, 3) := by decide +kernel
theorem dX11_turnsOver_26 : decode cX11_turnsOver 26 = .ok (.iload_n 3, 1) := by decide +kernel
theorem dX11_turnsOver_27 : decode cX11_turnsOver 27 = .ok (.iload_n 2, 1) := by decide +kernel
theorem dX11_turnsOver_28 : decode cX11_turnsOver 28 = .ok (.iastore, 1) := by decide +kernel
theorem dX11_turnsOver_29 : decode cX11_turnsOver 29 = .ok (.aload_n 0, 1) := by decide +kernel
theorem dX11_turnsOver_30 : decode cX11_turnsOver 30 = .ok (.getfield 45, 3) := by decide +kernel
theorem dX11_turnsOver_33 : decode cX11_turnsOver 33 = .ok (.iload_n 2, 1) := by decide +kernel
theorem dX11_turnsOver_34 : decode cX11_turnsOver 34 = .ok (.iload_n 3, 1) := by decide +kernel
theorem dX11_turnsOver_35 : decode cX11_turnsOver 35 = .ok (.iastore, 1) := by decide +kernel
theorem dX11_turnsOver_36 : decode cX11_turnsOver 36 = .ok (.iload 4, 2) := by decide +kernel
theorem dX11_turnsOver_38 : decode cX11_turnsOver 38 = .ok (.istore_n 2, 1) := by decide +kernel
theorem dX11_turnsOver_39 : decode cX11_turnsOver 39 = .ok (.goto (-37), 3) := by decide +kernel
theorem dX11_turnsOver_42 : decode cX11_turnsOver 42 = .ok (.return_, 1) := by decide +kernel
theorem dX11_spread_0 : decode cX11_spread 0 = .ok (.iconst 0, 1) := by decide +kernel
theorem dX11_spread_1 : decode cX11_spread 1 = .ok (.istore_n 1, 1) := by decide +kernel
theorem dX11_spread_2 : decode cX11_spread 2 = .ok (.iload_n 1, 1) := by decide +kernel
theorem dX11_spread_3 : decode cX11_spread 3 = .ok (.aload_n 0, 1) := by decide +kernel
theorem dX11_spread_4 : decode cX11_spread 4 = .ok (.getfield 141, 3) := by decide +kernel
theorem dX11_spread_7 : decode cX11_spread 7 = .ok (.if_icmp .ge 23, 3) := by decide +kernel
theorem dX11_spread_10 : decode cX11_spread 10 = .ok (.aload_n 0, 1) := by decide +kernel
theorem dX11_spread_11 : decode cX11_spread 11 = .ok (.getfield 42, 3) := by decide +kernel
theorem dX11_spread_14 : decode cX11_spread 14 = .ok (.iload_n 1, 1) := by decide +kernel
theorem dX11_spread_15 : decode cX11_spread 15 = .ok (.iconst (-1), 1) := by decide +kernel
theorem dX11_spread_16 : decode cX11_spread 16 = .ok (.iastore, 1) := by decide +kernel
theorem dX11_spread_17 : decode cX11_spread 17 = .ok (.aload_n 0, 1) := by decide +kernel
theorem dX11_spread_18 : decode cX11_spread 18 = .ok (.getfield 45, 3) := by decide +kernel
theorem dX11_spread_21 : decode cX11_spread 21 = .ok (.iload_n 1, 1) := by decide +kernel
theorem dX11_spread_22 : decode cX11_spread 22 = .ok (.iconst (-1), 1) := by decide +kernel
theorem dX11_spread_23 : decode cX11_spread 23 = .ok (.iastore, 1) := by decide +kernel
theorem dX11_spread_24 : decode cX11_spread 24 = .ok (.iinc 1 1, 3) := by decide +kernel
theorem dX11_spread_27 : decode cX11_spread 27 = .ok (.goto (-25), 3) := by decide +kernel
theorem dX11_spread_30 : decode cX11_spread 30 = .ok (.aload_n 0, 1) := by decide +kernel
theorem dX11_spread_31 : decode cX11_spread 31 = .ok (.getfield 141, 3) := by decide +kernel
theorem dX11_spread_34 : decode cX11_spread 34 = .ok (.istore_n 1, 1) := by decide +kernel
theorem dX11_spread_35 : decode cX11_spread 35 = .ok (.iconst 0, 1) := by decide +kernel
theorem dX11_spread_36 : decode cX11_spread 36 = .ok (.istore_n 2, 1) := by decide +kernel
theorem dX11_spread_37 : decode cX11_spread 37 = .ok (.iload_n 2, 1) := by decide +kernel
theorem dX11_spread_38 : decode cX11_spread 38 = .ok (.aload_n 0, 1) := by decide +kernel
theorem dX11_spread_39 : decode cX11_spread 39 = .ok (.getfield 141, 3) := by decide +kernel
theorem dX11_spread_42 : decode cX11_spread 42 = .ok (.if_icmp .ge 20, 3) := by decide +kernel
theorem dX11_spread_45 : decode cX11_spread 45 = .ok (.aload_n 0, 1) := by decide +kernel
theorem dX11_spread_46 : decode cX11_spread 46 = .ok (.iload_n 2, 1) := by decide +kernel
theorem dX11_spread_47 : decode cX11_spread 47 = .ok (.invokevirtual 200, 3) := by decide +kernel
theorem dX11_spread_50 : decode cX11_spread 50 = .ok (.ifCond .eq 6, 3) := by decide +kernel
theorem dX11_spread_53 : decode cX11_spread 53 = .ok (.iinc 1 (-1), 3) := by decide +kernel
theorem dX11_spread_56 : decode cX11_spread 56 = .ok (.iinc 2 1, 3) := by decide +kernel
theorem dX11_spread_59 : decode cX11_spread 59 = .ok (.goto (-22), 3) := by decide +kernel
theorem dX11_spread_62 : decode cX11_spread 62 = .ok (.iload_n 1, 1) := by decide +kernel
theorem dX11_spread_63 : decode cX11_spread 63 = .ok (.ireturn, 1) := by decide +kernel
theorem dX11_traces_0 : decode cX11_traces 0 = .ok (.iconst 0, 1) := by decide +kernel
theorem dX11_traces_1 : decode cX11_traces 1 = .ok (.istore_n 2, 1) := by decide +kernel
theorem dX11_traces_2 : decode cX11_traces 2 = .ok (.iload_n 2, 1) := by decide +kernel
theorem dX11_traces_3 : decode cX11_traces 3 = .ok (.sipush 128, 3) := by decide +kernel
theorem dX11_traces_6 : decode cX11_traces 6 = .ok (.if_icmp .ge 16, 3) := by decide +kernel
theorem dX11_traces_9 : decode cX11_traces 9 = .ok (.aload_n 0, 1) := by decide +kernel
theorem dX11_traces_10 : decode cX11_traces 10 = .ok (.getfield 54, 3) := by decide +kernel
theorem dX11_traces_13 : decode cX11_traces 13 = .ok (.iload_n 2, 1) := by decide +kernel
theorem dX11_traces_14 : decode cX11_traces 14 = .ok (.iconst 0, 1) := by decide +kernel
theorem dX11_traces_15 : decode cX11_traces 15 = .ok (.bastore, 1) := by decide +kernel
theorem dX11_traces_16 : decode cX11_traces 16 = .ok (.iinc 2 1, 3) := by decide +kernel
theorem dX11_traces_19 : decode cX11_traces 19 = .ok (.goto (-17), 3) := by decide +kernel
theorem dX11_traces_22 : decode cX11_traces 22 = .ok (.iconst 0, 1) := by decide +kernel
theorem dX11_traces_23 : decode cX11_traces 23 = .ok (.istore_n 2, 1) := by decide +kernel
theorem dX11_traces_24 : decode cX11_traces 24 = .ok (.iload_n 2, 1) := by decide +kernel
theorem dX11_traces_25 : decode cX11_traces 25 = .ok (.aload_n 0, 1) := by decide +kernel
theorem dX11_traces_26 : decode cX11_traces 26 = .ok (.getfield 141, 3) := by decide +kernel
theorem dX11_traces_29 : decode cX11_traces 29 = .ok (.if_icmp .ge 23, 3) := by decide +kernel
theorem dX11_traces_32 : decode cX11_traces 32 = .ok (.aload_n 0, 1) := by decide +kernel
theorem dX11_traces_33 : decode cX11_traces 33 = .ok (.getfield 54, 3) := by decide +kernel
theorem dX11_traces_36 : decode cX11_traces 36 = .ok (.aload_n 0, 1) := by decide +kernel
theorem dX11_traces_37 : decode cX11_traces 37 = .ok (.getfield 30, 3) := by decide +kernel
theorem dX11_traces_40 : decode cX11_traces 40 = .ok (.iload_n 2, 1) := by decide +kernel
theorem dX11_traces_41 : decode cX11_traces 41 = .ok (.iaload, 1) := by decide +kernel
theorem dX11_traces_42 : decode cX11_traces 42 = .ok (.iload_n 1, 1) := by decide +kernel
theorem dX11_traces_43 : decode cX11_traces 43 = .ok (.iand, 1) := by decide +kernel
theorem dX11_traces_44 : decode cX11_traces 44 = .ok (.iconst 1, 1) := by decide +kernel
theorem dX11_traces_45 : decode cX11_traces 45 = .ok (.bastore, 1) := by decide +kernel
theorem dX11_traces_46 : decode cX11_traces 46 = .ok (.iinc 2 1, 3) := by decide +kernel
theorem dX11_traces_49 : decode cX11_traces 49 = .ok (.goto (-25), 3) := by decide +kernel
theorem dX11_traces_52 : decode cX11_traces 52 = .ok (.aload_n 0, 1) := by decide +kernel
theorem dX11_traces_53 : decode cX11_traces 53 = .ok (.getfield 54, 3) := by decide +kernel
theorem dX11_traces_56 : decode cX11_traces 56 = .ok (.invokestatic 167, 3) := by decide +kernel
theorem dX11_traces_59 : decode cX11_traces 59 = .ok (.ireturn, 1) := by decide +kernel
theorem dX11_isShattered_0 : decode cX11_isShattered 0 = .ok (.aload_n 0, 1) := by decide +kernel
theorem dX11_isShattered_1 : decode cX11_isShattered 1 = .ok (.iload_n 1, 1) := by decide +kernel
theorem dX11_isShattered_2 : decode cX11_isShattered 2 = .ok (.invokevirtual 203, 3) := by decide +kernel
theorem dX11_isShattered_5 : decode cX11_isShattered 5 = .ok (.iconst 1, 1) := by decide +kernel
theorem dX11_isShattered_6 : decode cX11_isShattered 6 = .ok (.iload_n 1, 1) := by decide +kernel
theorem dX11_isShattered_7 : decode cX11_isShattered 7 = .ok (.invokestatic 157, 3) := by decide +kernel
theorem dX11_isShattered_10 : decode cX11_isShattered 10 = .ok (.ishl, 1) := by decide +kernel
theorem dX11_isShattered_11 : decode cX11_isShattered 11 = .ok (.if_icmp .ne 7, 3) := by decide +kernel
theorem dX11_isShattered_14 : decode cX11_isShattered 14 = .ok (.iconst 1, 1) := by decide +kernel
theorem dX11_isShattered_15 : decode cX11_isShattered 15 = .ok (.goto 4, 3) := by decide +kernel
theorem dX11_isShattered_18 : decode cX11_isShattered 18 = .ok (.iconst 0, 1) := by decide +kernel
theorem dX11_isShattered_19 : decode cX11_isShattered 19 = .ok (.ireturn, 1) := by decide +kernel
theorem dX11_depth_0 : decode cX11_depth 0 = .ok (.iconst 0, 1) := by decide +kernel
theorem dX11_depth_1 : decode cX11_depth 1 = .ok (.istore_n 1, 1) := by decide +kernel
theorem dX11_depth_2 : decode cX11_depth 2 = .ok (.iconst 0, 1) := by decide +kernel
theorem dX11_depth_3 : decode cX11_depth 3 = .ok (.istore_n 2, 1) := by decide +kernel
theorem dX11_depth_4 : decode cX11_depth 4 = .ok (.iload_n 2, 1) := by decide +kernel
theorem dX11_depth_5 : decode cX11_depth 5 = .ok (.aload_n 0, 1) := by decide +kernel
theorem dX11_depth_6 : decode cX11_depth 6 = .ok (.invokevirtual 88, 3) := by decide +kernel
theorem dX11_depth_9 : decode cX11_depth 9 = .ok (.if_icmp .gt 30, 3) := by decide +kernel
theorem dX11_depth_12 : decode cX11_depth 12 = .ok (.iload_n 2, 1) := by decide +kernel
theorem dX11_depth_13 : decode cX11_depth 13 = .ok (.invokestatic 157, 3) := by decide +kernel
theorem dX11_depth_16 : decode cX11_depth 16 = .ok (.iload_n 1, 1) := by decide +kernel
theorem dX11_depth_17 : decode cX11_depth 17 = .ok (.if_icmp .le 16, 3) := by decide +kernel
theorem dX11_depth_20 : decode cX11_depth 20 = .ok (.aload_n 0, 1) := by decide +kernel
theorem dX11_depth_21 : decode cX11_depth 21 = .ok (.iload_n 2, 1) := by decide +kernel
theorem dX11_depth_22 : decode cX11_depth 22 = .ok (.invokevirtual 206, 3) := by decide +kernel
theorem dX11_depth_25 : decode cX11_depth 25 = .ok (.ifCond .eq 8, 3) := by decide +kernel
theorem dX11_depth_28 : decode cX11_depth 28 = .ok (.iload_n 2, 1) := by decide +kernel
theorem dX11_depth_29 : decode cX11_depth 29 = .ok (.invokestatic 157, 3) := by decide +kernel
theorem dX11_depth_32 : decode cX11_depth 32 = .ok (.istore_n 1, 1) := by decide +kernel
theorem dX11_depth_33 : decode cX11_depth 33 = .ok (.iinc 2 1, 3) := by decide +kernel
theorem dX11_depth_36 : decode cX11_depth 36 = .ok (.goto (-32), 3) := by decide +kernel
theorem dX11_depth_39 : decode cX11_depth 39 = .ok (.iload_n 1, 1) := by decide +kernel
theorem dX11_depth_40 : decode cX11_depth 40 = .ok (.ireturn, 1) := by decide +kernel
theorem dX11_coverMany_0 : decode cX11_coverMany 0 = .ok (.iconst 0, 1) := by decide +kernel
theorem dX11_coverMany_1 : decode cX11_coverMany 1 = .ok (.istore_n 1, 1) := by decide +kernel
theorem dX11_coverMany_2 : decode cX11_coverMany 2 = .ok (.iconst 0, 1) := by decide +kernel
theorem dX11_coverMany_3 : decode cX11_coverMany 3 = .ok (.istore_n 2, 1) := by decide +kernel
theorem dX11_coverMany_4 : decode cX11_coverMany 4 = .ok (.iload_n 2, 1) := by decide +kernel
theorem dX11_coverMany_5 : decode cX11_coverMany 5 = .ok (.aload_n 0, 1) := by decide +kernel
theorem dX11_coverMany_6 : decode cX11_coverMany 6 = .ok (.getfield 141, 3) := by decide +kernel
theorem dX11_coverMany_9 : decode cX11_coverMany 9 = .ok (.if_icmp .ge 23, 3) := by decide +kernel
theorem dX11_coverMany_12 : decode cX11_coverMany 12 = .ok (.iload_n 1, 1) := by decide +kernel
theorem dX11_coverMany_13 : decode cX11_coverMany 13 = .ok (.aload_n 0, 1) := by decide +kernel
theorem dX11_coverMany_14 : decode cX11_coverMany 14 = .ok (.aload_n 0, 1) := by decide +kernel
theorem dX11_coverMany_15 : decode cX11_coverMany 15 = .ok (.getfield 30, 3) := by decide +kernel
theorem dX11_coverMany_18 : decode cX11_coverMany 18 = .ok (.iload_n 2, 1) := by decide +kernel
theorem dX11_coverMany_19 : decode cX11_coverMany 19 = .ok (.iaload, 1) := by decide +kernel
theorem dX11_coverMany_20 : decode cX11_coverMany 20 = .ok (.iconst 1, 1) := by decide +kernel
theorem dX11_coverMany_21 : decode cX11_coverMany 21 = .ok (.invokevirtual 209, 3) := by decide +kernel
theorem dX11_coverMany_24 : decode cX11_coverMany 24 = .ok (.iadd, 1) := by decide +kernel
theorem dX11_coverMany_25 : decode cX11_coverMany 25 = .ok (.istore_n 1, 1) := by decide +kernel
theorem dX11_coverMany_26 : decode cX11_coverMany 26 = .ok (.iinc 2 1, 3) := by decide +kernel
theorem dX11_coverMany_29 : decode cX11_coverMany 29 = .ok (.goto (-25), 3) := by decide +kernel
theorem dX11_coverMany_32 : decode cX11_coverMany 32 = .ok (.iload_n 1, 1) := by decide +kernel
theorem dX11_coverMany_33 : decode cX11_coverMany 33 = .ok (.ireturn, 1) := by decide +kernel
theorem dX11_basedMany_0 : decode cX11_basedMany 0 = .ok (.iconst 0, 1) := by decide +kernel
theorem dX11_basedMany_1 : decode cX11_basedMany 1 = .ok (.istore_n 1, 1) := by decide +kernel
theorem dX11_basedMany_2 : decode cX11_basedMany 2 = .ok (.iconst 0, 1) := by decide +kernel
theorem dX11_basedMany_3 : decode cX11_basedMany 3 = .ok (.istore_n 2, 1) := by decide +kernel
theorem dX11_basedMany_4 : decode cX11_basedMany 4 = .ok (.iload_n 2, 1) := by decide +kernel
theorem dX11_basedMany_5 : decode cX11_basedMany 5 = .ok (.aload_n 0, 1) := by decide +kernel
theorem dX11_basedMany_6 : decode cX11_basedMany 6 = .ok (.getfield 141, 3) := by decide +kernel
theorem dX11_basedMany_9 : decode cX11_basedMany 9 = .ok (.if_icmp .ge 25, 3) := by decide +kernel
theorem dX11_basedMany_12 : decode cX11_basedMany 12 = .ok (.aload_n 0, 1) := by decide +kernel
theorem dX11_basedMany_13 : decode cX11_basedMany 13 = .ok (.aload_n 0, 1) := by decide +kernel
theorem dX11_basedMany_14 : decode cX11_basedMany 14 = .ok (.getfield 30, 3) := by decide +kernel
theorem dX11_basedMany_17 : decode cX11_basedMany 17 = .ok (.iload_n 2, 1) := by decide +kernel
theorem dX11_basedMany_18 : decode cX11_basedMany 18 = .ok (.iaload, 1) := by decide +kernel
theorem dX11_basedMany_19 : decode cX11_basedMany 19 = .ok (.invokevirtual 138, 3) := by decide +kernel
theorem dX11_basedMany_22 : decode cX11_basedMany 22 = .ok (.ifCond .eq 6, 3) := by decide +kernel
theorem dX11_basedMany_25 : decode cX11_basedMany 25 = .ok (.iinc 1 1, 3) := by decide +kernel
theorem dX11_basedMany_28 : decode cX11_basedMany 28 = .ok (.iinc 2 1, 3) := by decide +kernel
theorem dX11_basedMany_31 : decode cX11_basedMany 31 = .ok (.goto (-27), 3) := by decide +kernel
theorem dX11_basedMany_34 : decode cX11_basedMany 34 = .ok (.iload_n 1, 1) := by decide +kernel
theorem dX11_basedMany_35 : decode cX11_basedMany 35 = .ok (.ireturn, 1) := by decide +kernel
theorem dX11_massOfAll_0 : decode cX11_massOfAll 0 = .ok (.iconst 0, 1) := by decide +kernel
theorem dX11_massOfAll_1 : decode cX11_massOfAll 1 = .ok (.istore_n 1, 1) := by decide +kernel
theorem dX11_massOfAll_2 : decode cX11_massOfAll 2 = .ok (.iconst 0, 1) := by decide +kernel
theorem dX11_massOfAll_3 : decode cX11_massOfAll 3 = .ok (.istore_n 2, 1) := by decide +kernel
theorem dX11_massOfAll_4 : decode cX11_massOfAll 4 = .ok (.iload_n 2, 1) := by decide +kernel
theorem dX11_massOfAll_5 : decode cX11_massOfAll 5 = .ok (.aload_n 0, 1) := by decide +kernel
theorem dX11_massOfAll_6 : decode cX11_massOfAll 6 = .ok (.getfield 141, 3) := by decide +kernel
theorem dX11_massOfAll_9 : decode cX11_massOfAll 9 = .ok (.if_icmp .ge 22, 3) := by decide +kernel
theorem dX11_massOfAll_12 : decode cX11_massOfAll 12 = .ok (.iload_n 1, 1) := by decide +kernel
theorem dX11_massOfAll_13 : decode cX11_massOfAll 13 = .ok (.aload_n 0, 1) := by decide +kernel
theorem dX11_massOfAll_14 : decode cX11_massOfAll 14 = .ok (.aload_n 0, 1) := by decide +kernel
theorem dX11_massOfAll_15 : decode cX11_massOfAll 15 = .ok (.getfield 30, 3) := by decide +kernel
theorem dX11_massOfAll_18 : decode cX11_massOfAll 18 = .ok (.iload_n 2, 1) := by decide +kernel
theorem dX11_massOfAll_19 : decode cX11_massOfAll 19 = .ok (.iaload, 1) := by decide +kernel
theorem dX11_massOfAll_20 : decode cX11_massOfAll 20 = .ok (.invokevirtual 212, 3) := by decide +kernel
theorem dX11_massOfAll_23 : decode cX11_massOfAll 23 = .ok (.iadd, 1) := by decide +kernel
theorem dX11_massOfAll_24 : decode cX11_massOfAll 24 = .ok (.istore_n 1, 1) := by decide +kernel
theorem dX11_massOfAll_25 : decode cX11_massOfAll 25 = .ok (.iinc 2 1, 3) := by decide +kernel
theorem dX11_massOfAll_28 : decode cX11_massOfAll 28 = .ok (.goto (-24), 3) := by decide +kernel
theorem dX11_massOfAll_31 : decode cX11_massOfAll 31 = .ok (.iload_n 1, 1) := by decide +kernel
theorem dX11_massOfAll_32 : decode cX11_massOfAll 32 = .ok (.ireturn, 1) := by decide +kernel
theorem dX11_byFrequency_0 : decode cX11_byFrequency 0 = .ok (.iconst 0, 1) := by decide +kernel
theorem dX11_byFrequency_1 : decode cX11_byFrequency 1 = .ok (.istore_n 2, 1) := by decide +kernel
theorem dX11_byFrequency_2 : decode cX11_byFrequency 2 = .ok (.iload_n 2, 1) := by decide +kernel
theorem dX11_byFrequency_3 : decode cX11_byFrequency 3 = .ok (.aload_n 0, 1) := by decide +kernel
theorem dX11_byFrequency_4 : decode cX11_byFrequency 4 = .ok (.getfield 13, 3) := by decide +kernel
theorem dX11_byFrequency_7 : decode cX11_byFrequency 7 = .ok (.iconst 0, 1) := by decide +kernel
theorem dX11_byFrequency_8 : decode cX11_byFrequency 8 = .ok (.iaload, 1) := by decide +kernel
theorem dX11_byFrequency_9 : decode cX11_byFrequency 9 = .ok (.if_icmp .ge 82, 3) := by decide +kernel
theorem dX11_byFrequency_12 : decode cX11_byFrequency 12 = .ok (.iconst 0, 1) := by decide +kernel
theorem dX11_byFrequency_13 : decode cX11_byFrequency 13 = .ok (.istore_n 3, 1) := by decide +kernel
theorem dX11_byFrequency_14 : decode cX11_byFrequency 14 = .ok (.aload_n 0, 1) := by decide +kernel
theorem dX11_byFrequency_15 : decode cX11_byFrequency 15 = .ok (.getfield 26, 3) := by decide +kernel
theorem dX11_byFrequency_18 : decode cX11_byFrequency 18 = .ok (.iload_n 2, 1) := by decide +kernel
theorem dX11_byFrequency_19 : decode cX11_byFrequency 19 = .ok (.invokestatic 171, 3) := by decide +kernel
theorem dX11_byFrequency_22 : decode cX11_byFrequency 22 = .ok (.istore 4, 2) := by decide +kernel
theorem dX11_byFrequency_24 : decode cX11_byFrequency 24 = .ok (.iconst 0, 1) := by decide +kernel
theorem dX11_byFrequency_25 : decode cX11_byFrequency 25 = .ok (.istore 5, 2) := by decide +kernel
theorem dX11_byFrequency_27 : decode cX11_byFrequency 27 = .ok (.iload 5, 2) := by decide +kernel
theorem dX11_byFrequency_29 : decode cX11_byFrequency 29 = .ok (.aload_n 0, 1) := by decide +kernel
theorem dX11_byFrequency_30 : decode cX11_byFrequency 30 = .ok (.getfield 13, 3) := by decide +kernel
theorem dX11_byFrequency_33 : decode cX11_byFrequency 33 = .ok (.iconst 0, 1) := by decide +kernel
theorem dX11_byFrequency_34 : decode cX11_byFrequency 34 = .ok (.iaload, 1) := by decide +kernel
theorem dX11_byFrequency_35 : decode cX11_byFrequency 35 = .ok (.if_icmp .ge 43, 3) := by decide +kernel
theorem dX11_byFrequency_38 : decode cX11_byFrequency 38 = .ok (.aload_n 0, 1) := by decide +kernel
theorem dX11_byFrequency_39 : decode cX11_byFrequency 39 = .ok (.getfield 26, 3) := by decide +kernel
theorem dX11_byFrequency_42 : decode cX11_byFrequency 42 = .ok (.iload 5, 2) := by decide +kernel
theorem dX11_byFrequency_44 : decode cX11_byFrequency 44 = .ok (.invokestatic 171, 3) := by decide +kernel
theorem dX11_byFrequency_47 : decode cX11_byFrequency 47 = .ok (.istore 6, 2) := by decide +kernel
theorem dX11_byFrequency_49 : decode cX11_byFrequency 49 = .ok (.iload 6, 2) := by decide +kernel
theorem dX11_byFrequency_51 : decode cX11_byFrequency 51 = .ok (.iload 4, 2) := by decide +kernel
theorem dX11_byFrequency_53 : decode cX11_byFrequency 53 = .ok (.if_icmp .gt 16, 3) := by decide +kernel
theorem dX11_byFrequency_56 : decode cX11_byFrequency 56 = .ok (.iload 6, 2) := by decide +kernel
theorem dX11_byFrequency_58 : decode cX11_byFrequency 58 = .ok (.iload 4, 2) := by decide +kernel
theorem dX11_byFrequency_60 : decode cX11_byFrequency 60 = .ok (.if_icmp .ne 12, 3) := by decide +kernel
theorem dX11_byFrequency_63 : decode cX11_byFrequency 63 = .ok (.iload 5, 2) := by decide +kernel
theorem dX11_byFrequency_65 : decode cX11_byFrequency 65 = .ok (.iload_n 2, 1) := by decide +kernel
theorem dX11_byFrequency_66 : decode cX11_byFrequency 66 = .ok (.if_icmp .ge 6, 3) := by decide +kernel
theorem dX11_byFrequency_69 : decode cX11_byFrequency 69 = .ok (.iinc 3 1, 3) := by decide +kernel
theorem dX11_byFrequency_72 : decode cX11_byFrequency 72 = .ok (.iinc 5 1, 3) := by decide +kernel
theorem dX11_byFrequency_75 : decode cX11_byFrequency 75 = .ok (.goto (-48), 3) := by decide +kernel
theorem dX11_byFrequency_78 : decode cX11_byFrequency 78 = .ok (.iload_n 3, 1) := by decide +kernel
theorem dX11_byFrequency_79 : decode cX11_byFrequency 79 = .ok (.iload_n 1, 1) := by decide +kernel
theorem dX11_byFrequency_80 : decode cX11_byFrequency 80 = .ok (.if_icmp .ne 5, 3) := by decide +kernel
theorem dX11_byFrequency_83 : decode cX11_byFrequency 83 = .ok (.iload_n 2, 1) := by decide +kernel
theorem dX11_byFrequency_84 : decode cX11_byFrequency 84 = .ok (.ireturn, 1) := by decide +kernel
theorem dX11_byFrequency_85 : decode cX11_byFrequency 85 = .ok (.iinc 2 1, 3) := by decide +kernel
theorem dX11_byFrequency_88 : decode cX11_byFrequency 88 = .ok (.goto (-86), 3) := by decide +kernel
theorem dX11_byFrequency_91 : decode cX11_byFrequency 91 = .ok (.iconst (-1), 1) := by decide +kernel
theorem dX11_byFrequency_92 : decode cX11_byFrequency 92 = .ok (.ireturn, 1) := by decide +kernel
theorem dX11_family_0 : decode cX11_family 0 = .ok (.aload_n 0, 1) := by decide +kernel
theorem dX11_family_1 : decode cX11_family 1 = .ok (.invokevirtual 135, 3) := by decide +kernel
theorem dX11_family_4 : decode cX11_family 4 = .ok (.iload_n 1, 1) := by decide +kernel
theorem dX11_family_5 : decode cX11_family 5 = .ok (.tableswitch 190 0 12 #[67, 72, 77, 82, 91, 97, 114, 119, 124, 129, 168, 173, 180], 67) := by decide +kernel
theorem dX11_family_72 : decode cX11_family 72 = .ok (.aload_n 0, 1) := by decide +kernel
theorem dX11_family_73 : decode cX11_family 73 = .ok (.getfield 141, 3) := by decide +kernel
theorem dX11_family_76 : decode cX11_family 76 = .ok (.ireturn, 1) := by decide +kernel
theorem dX11_family_77 : decode cX11_family 77 = .ok (.aload_n 0, 1) := by decide +kernel
theorem dX11_family_78 : decode cX11_family 78 = .ok (.invokevirtual 181, 3) := by decide +kernel
theorem dX11_family_81 : decode cX11_family 81 = .ok (.ireturn, 1) := by decide +kernel
theorem dX11_family_82 : decode cX11_family 82 = .ok (.aload_n 0, 1) := by decide +kernel
theorem dX11_family_83 : decode cX11_family 83 = .ok (.invokevirtual 215, 3) := by decide +kernel
theorem dX11_family_86 : decode cX11_family 86 = .ok (.ireturn, 1) := by decide +kernel
theorem dX11_family_87 : decode cX11_family 87 = .ok (.aload_n 0, 1) := by decide +kernel
theorem dX11_family_88 : decode cX11_family 88 = .ok (.aload_n 0, 1) := by decide +kernel
theorem dX11_family_89 : decode cX11_family 89 = .ok (.getfield 26, 3) := by decide +kernel
theorem dX11_family_92 : decode cX11_family 92 = .ok (.invokevirtual 188, 3) := by decide +kernel
theorem dX11_family_95 : decode cX11_family 95 = .ok (.ireturn, 1) := by decide +kernel
theorem dX11_family_96 : decode cX11_family 96 = .ok (.aload_n 0, 1) := by decide +kernel
theorem dX11_family_97 : decode cX11_family 97 = .ok (.iconst 0, 1) := by decide +kernel
theorem dX11_family_98 : decode cX11_family 98 = .ok (.invokevirtual 218, 3) := by decide +kernel
theorem dX11_family_101 : decode cX11_family 101 = .ok (.ireturn, 1) := by decide +kernel
theorem dX11_family_102 : decode cX11_family 102 = .ok (.aload_n 0, 1) := by decide +kernel
theorem dX11_family_103 : decode cX11_family 103 = .ok (.iconst 0, 1) := by decide +kernel
theorem dX11_family_104 : decode cX11_family 104 = .ok (.invokevirtual 221, 3) := by decide +kernel
theorem dX11_family_107 : decode cX11_family 107 = .ok (.aload_n 0, 1) := by decide +kernel
theorem dX11_family_108 : decode cX11_family 108 = .ok (.getfield 39, 3) := by decide +kernel
theorem dX11_family_111 : decode cX11_family 111 = .ok (.aload_n 0, 1) := by decide +kernel
theorem dX11_family_112 : decode cX11_family 112 = .ok (.getfield 141, 3) := by decide +kernel
theorem dX11_family_115 : decode cX11_family 115 = .ok (.iconst 1, 1) := by decide +kernel
theorem dX11_family_116 : decode cX11_family 116 = .ok (.isub, 1) := by decide +kernel
theorem dX11_family_117 : decode cX11_family 117 = .ok (.iaload, 1) := by decide +kernel
theorem dX11_family_118 : decode cX11_family 118 = .ok (.ireturn, 1) := by decide +kernel
theorem dX11_family_119 : decode cX11_family 119 = .ok (.aload_n 0, 1) := by decide +kernel
theorem dX11_family_120 : decode cX11_family 120 = .ok (.invokevirtual 225, 3) := by decide +kernel
theorem dX11_family_123 : decode cX11_family 123 = .ok (.ireturn, 1) := by decide +kernel
theorem dX11_family_124 : decode cX11_family 124 = .ok (.aload_n 0, 1) := by decide +kernel
theorem dX11_family_125 : decode cX11_family 125 = .ok (.invokevirtual 228, 3) := by decide +kernel
theorem dX11_family_128 : decode cX11_family 128 = .ok (.ireturn, 1) := by decide +kernel
theorem dX11_family_129 : decode cX11_family 129 = .ok (.aload_n 0, 1) := by decide +kernel
theorem dX11_family_130 : decode cX11_family 130 = .ok (.invokevirtual 231, 3) := by decide +kernel
theorem dX11_family_133 : decode cX11_family 133 = .ok (.ireturn, 1) := by decide +kernel
theorem dX11_family_134 : decode cX11_family 134 = .ok (.aload_n 0, 1) := by decide +kernel
theorem dX11_family_135 : decode cX11_family 135 = .ok (.aload_n 0, 1) := by decide +kernel
theorem dX11_family_136 : decode cX11_family 136 = .ok (.invokevirtual 181, 3) := by decide +kernel
theorem dX11_family_139 : decode cX11_family 139 = .ok (.invokevirtual 212, 3) := by decide +kernel
theorem dX11_family_142 : decode cX11_family 142 = .ok (.ifCond .le 29, 3) := by decide +kernel
theorem dX11_family_145 : decode cX11_family 145 = .ok (.iconst 2, 1) := by decide +kernel
theorem dX11_family_146 : decode cX11_family 146 = .ok (.aload_n 0, 1) := by decide +kernel
theorem dX11_family_147 : decode cX11_family 147 = .ok (.invokevirtual 234, 3) := by decide +kernel
theorem dX11_family_150 : decode cX11_family 150 = .ok (.imul, 1) := by decide +kernel
theorem dX11_family_151 : decode cX11_family 151 = .ok (.aload_n 0, 1) := by decide +kernel
theorem dX11_family_152 : decode cX11_family 152 = .ok (.aload_n 0, 1) := by decide +kernel
theorem dX11_family_153 : decode cX11_family 153 = .ok (.invokevirtual 181, 3) := by decide +kernel
theorem dX11_family_156 : decode cX11_family 156 = .ok (.invokevirtual 212, 3) := by decide +kernel
theorem dX11_family_159 : decode cX11_family 159 = .ok (.aload_n 0, 1) := by decide +kernel
theorem dX11_family_160 : decode cX11_family 160 = .ok (.getfield 141, 3) := by decide +kernel
theorem dX11_family_163 : decode cX11_family 163 = .ok (.imul, 1) := by decide +kernel
theorem dX11_family_164 : decode cX11_family 164 = .ok (.if_icmp .lt 7, 3) := by decide +kernel
theorem dX11_family_167 : decode cX11_family 167 = .ok (.iconst 1, 1) := by decide +kernel
theorem dX11_family_168 : decode cX11_family 168 = .ok (.goto 4, 3) := by decide +kernel
theorem dX11_family_171 : decode cX11_family 171 = .ok (.iconst 0, 1) := by decide +kernel
theorem dX11_family_172 : decode cX11_family 172 = .ok (.ireturn, 1) := by decide +kernel
theorem dX11_family_173 : decode cX11_family 173 = .ok (.aload_n 0, 1) := by decide +kernel
theorem dX11_family_174 : decode cX11_family 174 = .ok (.invokevirtual 234, 3) := by decide +kernel
theorem dX11_family_177 : decode cX11_family 177 = .ok (.ireturn, 1) := by decide +kernel
theorem dX11_family_178 : decode cX11_family 178 = .ok (.aload_n 0, 1) := by decide +kernel
theorem dX11_family_179 : decode cX11_family 179 = .ok (.iconst 0, 1) := by decide +kernel
theorem dX11_family_180 : decode cX11_family 180 = .ok (.iconst 1, 1) := by decide +kernel
theorem dX11_family_181 : decode cX11_family 181 = .ok (.invokevirtual 209, 3) := by decide +kernel
theorem dX11_family_184 : decode cX11_family 184 = .ok (.ireturn, 1) := by decide +kernel
theorem dX11_family_185 : decode cX11_family 185 = .ok (.aload_n 0, 1) := by decide +kernel
theorem dX11_family_186 : decode cX11_family 186 = .ok (.aload_n 0, 1) := by decide +kernel
theorem dX11_family_187 : decode cX11_family 187 = .ok (.invokevirtual 181, 3) := by decide +kernel
theorem dX11_family_190 : decode cX11_family 190 = .ok (.iconst 0, 1) := by decide +kernel
theorem dX11_family_191 : decode cX11_family 191 = .ok (.invokevirtual 209, 3) := by decide +kernel
theorem dX11_family_194 : decode cX11_family 194 = .ok (.ireturn, 1) := by decide +kernel
theorem dX11_family_195 : decode cX11_family 195 = .ok (.iconst (-1), 1) := by decide +kernel
theorem dX11_family_196 : decode cX11_family 196 = .ok (.ireturn, 1) := by decide +kernel
theorem dX11_sizedMany_0 : decode cX11_sizedMany 0 = .ok (.iconst 0, 1) := by decide +kernel
theorem dX11_sizedMany_1 : decode cX11_sizedMany 1 = .ok (.istore_n 2, 1) := by decide +kernel
theorem dX11_sizedMany_2 : decode cX11_sizedMany 2 = .ok (.iconst 0, 1) := by decide +kernel
theorem dX11_sizedMany_3 : decode cX11_sizedMany 3 = .ok (.istore_n 3, 1) := by decide +kernel
theorem dX11_sizedMany_4 : decode cX11_sizedMany 4 = .ok (.iload_n 3, 1) := by decide +kernel
theorem dX11_sizedMany_5 : decode cX11_sizedMany 5 = .ok (.aload_n 0, 1) := by decide +kernel
theorem dX11_sizedMany_6 : decode cX11_sizedMany 6 = .ok (.getfield 141, 3) := by decide +kernel
theorem dX11_sizedMany_9 : decode cX11_sizedMany 9 = .ok (.if_icmp .ge 25, 3) := by decide +kernel
theorem dX11_sizedMany_12 : decode cX11_sizedMany 12 = .ok (.aload_n 0, 1) := by decide +kernel
theorem dX11_sizedMany_13 : decode cX11_sizedMany 13 = .ok (.getfield 30, 3) := by decide +kernel
theorem dX11_sizedMany_16 : decode cX11_sizedMany 16 = .ok (.iload_n 3, 1) := by decide +kernel
theorem dX11_sizedMany_17 : decode cX11_sizedMany 17 = .ok (.iaload, 1) := by decide +kernel
theorem dX11_sizedMany_18 : decode cX11_sizedMany 18 = .ok (.invokestatic 157, 3) := by decide +kernel
theorem dX11_sizedMany_21 : decode cX11_sizedMany 21 = .ok (.iload_n 1, 1) := by decide +kernel
theorem dX11_sizedMany_22 : decode cX11_sizedMany 22 = .ok (.if_icmp .ne 6, 3) := by decide +kernel
theorem dX11_sizedMany_25 : decode cX11_sizedMany 25 = .ok (.iinc 2 1, 3) := by decide +kernel
theorem dX11_sizedMany_28 : decode cX11_sizedMany 28 = .ok (.iinc 3 1, 3) := by decide +kernel
theorem dX11_sizedMany_31 : decode cX11_sizedMany 31 = .ok (.goto (-27), 3) := by decide +kernel
theorem dX11_sizedMany_34 : decode cX11_sizedMany 34 = .ok (.iload_n 2, 1) := by decide +kernel
theorem dX11_sizedMany_35 : decode cX11_sizedMany 35 = .ok (.ireturn, 1) := by decide +kernel
theorem dX11_sized_0 : decode cX11_sized 0 = .ok (.iload_n 1, 1) := by decide +kernel
theorem dX11_sized_1 : decode cX11_sized 1 = .ok (.iconst 0, 1) := by decide +kernel
theorem dX11_sized_2 : decode cX11_sized 2 = .ok (.bipush 7, 2) := by decide +kernel
theorem dX11_sized_4 : decode cX11_sized 4 = .ok (.invokestatic 84, 3) := by decide +kernel
theorem dX11_sized_7 : decode cX11_sized 7 = .ok (.ifCond .ne 5, 3) := by decide +kernel
theorem dX11_sized_10 : decode cX11_sized 10 = .ok (.iconst (-1), 1) := by decide +kernel
theorem dX11_sized_11 : decode cX11_sized 11 = .ok (.ireturn, 1) := by decide +kernel
theorem dX11_sized_12 : decode cX11_sized 12 = .ok (.aload_n 0, 1) := by decide +kernel
theorem dX11_sized_13 : decode cX11_sized 13 = .ok (.invokevirtual 135, 3) := by decide +kernel
theorem dX11_sized_16 : decode cX11_sized 16 = .ok (.aload_n 0, 1) := by decide +kernel
theorem dX11_sized_17 : decode cX11_sized 17 = .ok (.iload_n 1, 1) := by decide +kernel
theorem dX11_sized_18 : decode cX11_sized 18 = .ok (.invokevirtual 237, 3) := by decide +kernel
theorem dX11_sized_21 : decode cX11_sized 21 = .ok (.ireturn, 1) := by decide +kernel
theorem dX11_mean_0 : decode cX11_mean 0 = .ok (.iload_n 1, 1) := by decide +kernel
theorem dX11_mean_1 : decode cX11_mean 1 = .ok (.iconst 0, 1) := by decide +kernel
theorem dX11_mean_2 : decode cX11_mean 2 = .ok (.iconst 1, 1) := by decide +kernel
theorem dX11_mean_3 : decode cX11_mean 3 = .ok (.invokestatic 84, 3) := by decide +kernel
theorem dX11_mean_6 : decode cX11_mean 6 = .ok (.ifCond .ne 5, 3) := by decide +kernel
theorem dX11_mean_9 : decode cX11_mean 9 = .ok (.iconst (-1), 1) := by decide +kernel
theorem dX11_mean_10 : decode cX11_mean 10 = .ok (.ireturn, 1) := by decide +kernel
theorem dX11_mean_11 : decode cX11_mean 11 = .ok (.aload_n 0, 1) := by decide +kernel
theorem dX11_mean_12 : decode cX11_mean 12 = .ok (.invokevirtual 135, 3) := by decide +kernel
theorem dX11_mean_15 : decode cX11_mean 15 = .ok (.iconst 0, 1) := by decide +kernel
theorem dX11_mean_16 : decode cX11_mean 16 = .ok (.istore_n 3, 1) := by decide +kernel
theorem dX11_mean_17 : decode cX11_mean 17 = .ok (.iconst 1, 1) := by decide +kernel
theorem dX11_mean_18 : decode cX11_mean 18 = .ok (.istore 4, 2) := by decide +kernel
theorem dX11_mean_20 : decode cX11_mean 20 = .ok (.iload 4, 2) := by decide +kernel
theorem dX11_mean_22 : decode cX11_mean 22 = .ok (.bipush 7, 2) := by decide +kernel
theorem dX11_mean_24 : decode cX11_mean 24 = .ok (.if_icmp .gt 21, 3) := by decide +kernel
theorem dX11_mean_27 : decode cX11_mean 27 = .ok (.iload_n 3, 1) := by decide +kernel
theorem dX11_mean_28 : decode cX11_mean 28 = .ok (.iload 4, 2) := by decide +kernel
theorem dX11_mean_30 : decode cX11_mean 30 = .ok (.aload_n 0, 1) := by decide +kernel
theorem dX11_mean_31 : decode cX11_mean 31 = .ok (.iload 4, 2) := by decide +kernel
theorem dX11_mean_33 : decode cX11_mean 33 = .ok (.invokevirtual 237, 3) := by decide +kernel
theorem dX11_mean_36 : decode cX11_mean 36 = .ok (.imul, 1) := by decide +kernel
theorem dX11_mean_37 : decode cX11_mean 37 = .ok (.iadd, 1) := by decide +kernel
theorem dX11_mean_38 : decode cX11_mean 38 = .ok (.istore_n 3, 1) := by decide +kernel
theorem dX11_mean_39 : decode cX11_mean 39 = .ok (.iinc 4 1, 3) := by decide +kernel
theorem dX11_mean_42 : decode cX11_mean 42 = .ok (.goto (-22), 3) := by decide +kernel
theorem dX11_mean_45 : decode cX11_mean 45 = .ok (.iload_n 1, 1) := by decide +kernel
theorem dX11_mean_46 : decode cX11_mean 46 = .ok (.iconst 1, 1) := by decide +kernel
theorem dX11_mean_47 : decode cX11_mean 47 = .ok (.if_icmp .ne 8, 3) := by decide +kernel
theorem dX11_mean_50 : decode cX11_mean 50 = .ok (.aload_n 0, 1) := by decide +kernel
theorem dX11_mean_51 : decode cX11_mean 51 = .ok (.invokevirtual 234, 3) := by decide +kernel
theorem dX11_mean_54 : decode cX11_mean 54 = .ok (.istore_n 3, 1) := by decide +kernel
theorem dX11_mean_55 : decode cX11_mean 55 = .ok (.iload_n 3, 1) := by decide +kernel
theorem dX11_mean_56 : decode cX11_mean 56 = .ok (.istore 4, 2) := by decide +kernel
theorem dX11_mean_58 : decode cX11_mean 58 = .ok (.aload_n 0, 1) := by decide +kernel
theorem dX11_mean_59 : decode cX11_mean 59 = .ok (.getfield 141, 3) := by decide +kernel
theorem dX11_mean_62 : decode cX11_mean 62 = .ok (.istore 5, 2) := by decide +kernel
theorem dX11_mean_64 : decode cX11_mean 64 = .ok (.iload 5, 2) := by decide +kernel
theorem dX11_mean_66 : decode cX11_mean 66 = .ok (.ifCond .eq 21, 3) := by decide +kernel
theorem dX11_mean_69 : decode cX11_mean 69 = .ok (.iload 4, 2) := by decide +kernel
theorem dX11_mean_71 : decode cX11_mean 71 = .ok (.iload 5, 2) := by decide +kernel
theorem dX11_mean_73 : decode cX11_mean 73 = .ok (.irem, 1) := by decide +kernel
theorem dX11_mean_74 : decode cX11_mean 74 = .ok (.istore 6, 2) := by decide +kernel
theorem dX11_mean_76 : decode cX11_mean 76 = .ok (.iload 5, 2) := by decide +kernel
theorem dX11_mean_78 : decode cX11_mean 78 = .ok (.istore 4, 2) := by decide +kernel
theorem dX11_mean_80 : decode cX11_mean 80 = .ok (.iload 6, 2) := by decide +kernel
theorem dX11_mean_82 : decode cX11_mean 82 = .ok (.istore 5, 2) := by decide +kernel
theorem dX11_mean_84 : decode cX11_mean 84 = .ok (.goto (-20), 3) := by decide +kernel
theorem dX11_mean_87 : decode cX11_mean 87 = .ok (.iload_n 2, 1) := by decide +kernel
