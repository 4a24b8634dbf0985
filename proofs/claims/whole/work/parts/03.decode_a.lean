theorem d_K_init_0 : decode b_K_init 0 = .ok (.aload_n 0, 1) := by decide +kernel
theorem d_K_init_1 : decode b_K_init 1 = .ok (.invokespecial 1, 3) := by decide +kernel
theorem d_K_init_4 : decode b_K_init 4 = .ok (.aload_n 0, 1) := by decide +kernel
theorem d_K_init_5 : decode b_K_init 5 = .ok (.new 7, 3) := by decide +kernel
theorem d_K_init_8 : decode b_K_init 8 = .ok (.dup, 1) := by decide +kernel
theorem d_K_init_9 : decode b_K_init 9 = .ok (.invokespecial 9, 3) := by decide +kernel
theorem d_K_init_12 : decode b_K_init 12 = .ok (.putfield 10, 3) := by decide +kernel
theorem d_K_init_15 : decode b_K_init 15 = .ok (.aload_n 0, 1) := by decide +kernel
theorem d_K_init_16 : decode b_K_init 16 = .ok (.new 16, 3) := by decide +kernel
theorem d_K_init_19 : decode b_K_init 19 = .ok (.dup, 1) := by decide +kernel
theorem d_K_init_20 : decode b_K_init 20 = .ok (.invokespecial 18, 3) := by decide +kernel
theorem d_K_init_23 : decode b_K_init 23 = .ok (.putfield 19, 3) := by decide +kernel
theorem d_K_init_26 : decode b_K_init 26 = .ok (.aload_n 0, 1) := by decide +kernel
theorem d_K_init_27 : decode b_K_init 27 = .ok (.new 23, 3) := by decide +kernel
theorem d_K_init_30 : decode b_K_init 30 = .ok (.dup, 1) := by decide +kernel
theorem d_K_init_31 : decode b_K_init 31 = .ok (.aload_n 0, 1) := by decide +kernel
theorem d_K_init_32 : decode b_K_init 32 = .ok (.getfield 19, 3) := by decide +kernel
theorem d_K_init_35 : decode b_K_init 35 = .ok (.invokespecial 25, 3) := by decide +kernel
theorem d_K_init_38 : decode b_K_init 38 = .ok (.putfield 28, 3) := by decide +kernel
theorem d_K_init_41 : decode b_K_init 41 = .ok (.aload_n 0, 1) := by decide +kernel
theorem d_K_init_42 : decode b_K_init 42 = .ok (.new 32, 3) := by decide +kernel
theorem d_K_init_45 : decode b_K_init 45 = .ok (.dup, 1) := by decide +kernel
theorem d_K_init_46 : decode b_K_init 46 = .ok (.invokespecial 34, 3) := by decide +kernel
theorem d_K_init_49 : decode b_K_init 49 = .ok (.putfield 35, 3) := by decide +kernel
theorem d_K_init_52 : decode b_K_init 52 = .ok (.return_, 1) := by decide +kernel
theorem d_K_arrow_0 : decode b_K_arrow 0 = .ok (.aload_n 0, 1) := by decide +kernel
theorem d_K_arrow_1 : decode b_K_arrow 1 = .ok (.getfield 10, 3) := by decide +kernel
theorem d_K_arrow_4 : decode b_K_arrow 4 = .ok (.iload_n 1, 1) := by decide +kernel
theorem d_K_arrow_5 : decode b_K_arrow 5 = .ok (.invokevirtual 39, 3) := by decide +kernel
theorem d_K_arrow_8 : decode b_K_arrow 8 = .ok (.ifCond .eq 14, 3) := by decide +kernel
theorem d_K_arrow_11 : decode b_K_arrow 11 = .ok (.aload_n 0, 1) := by decide +kernel
theorem d_K_arrow_12 : decode b_K_arrow 12 = .ok (.getfield 10, 3) := by decide +kernel
theorem d_K_arrow_15 : decode b_K_arrow 15 = .ok (.iload_n 2, 1) := by decide +kernel
theorem d_K_arrow_16 : decode b_K_arrow 16 = .ok (.invokevirtual 39, 3) := by decide +kernel
theorem d_K_arrow_19 : decode b_K_arrow 19 = .ok (.ifCond .ne 5, 3) := by decide +kernel
theorem d_K_arrow_22 : decode b_K_arrow 22 = .ok (.iconst (-1), 1) := by decide +kernel
theorem d_K_arrow_23 : decode b_K_arrow 23 = .ok (.ireturn, 1) := by decide +kernel
theorem d_K_arrow_24 : decode b_K_arrow 24 = .ok (.aload_n 0, 1) := by decide +kernel
theorem d_K_arrow_25 : decode b_K_arrow 25 = .ok (.getfield 10, 3) := by decide +kernel
theorem d_K_arrow_28 : decode b_K_arrow 28 = .ok (.iload_n 1, 1) := by decide +kernel
theorem d_K_arrow_29 : decode b_K_arrow 29 = .ok (.iload_n 2, 1) := by decide +kernel
theorem d_K_arrow_30 : decode b_K_arrow 30 = .ok (.invokevirtual 43, 3) := by decide +kernel
theorem d_K_arrow_33 : decode b_K_arrow 33 = .ok (.ireturn, 1) := by decide +kernel
theorem d_K_variable_0 : decode b_K_variable 0 = .ok (.iload_n 1, 1) := by decide +kernel
theorem d_K_variable_1 : decode b_K_variable 1 = .ok (.ifCond .lt 20, 3) := by decide +kernel
theorem d_K_variable_4 : decode b_K_variable 4 = .ok (.iload_n 1, 1) := by decide +kernel
theorem d_K_variable_5 : decode b_K_variable 5 = .ok (.bipush 10, 2) := by decide +kernel
theorem d_K_variable_7 : decode b_K_variable 7 = .ok (.if_icmp .ge 14, 3) := by decide +kernel
theorem d_K_variable_10 : decode b_K_variable 10 = .ok (.aload_n 0, 1) := by decide +kernel
theorem d_K_variable_11 : decode b_K_variable 11 = .ok (.getfield 10, 3) := by decide +kernel
theorem d_K_variable_14 : decode b_K_variable 14 = .ok (.iload_n 2, 1) := by decide +kernel
theorem d_K_variable_15 : decode b_K_variable 15 = .ok (.invokevirtual 39, 3) := by decide +kernel
theorem d_K_variable_18 : decode b_K_variable 18 = .ok (.ifCond .ne 5, 3) := by decide +kernel
theorem d_K_variable_21 : decode b_K_variable 21 = .ok (.iconst (-1), 1) := by decide +kernel
theorem d_K_variable_22 : decode b_K_variable 22 = .ok (.ireturn, 1) := by decide +kernel
theorem d_K_variable_23 : decode b_K_variable 23 = .ok (.aload_n 0, 1) := by decide +kernel
theorem d_K_variable_24 : decode b_K_variable 24 = .ok (.getfield 28, 3) := by decide +kernel
theorem d_K_variable_27 : decode b_K_variable 27 = .ok (.invokevirtual 47, 3) := by decide +kernel
theorem d_K_variable_30 : decode b_K_variable 30 = .ok (.aload_n 0, 1) := by decide +kernel
theorem d_K_variable_31 : decode b_K_variable 31 = .ok (.getfield 28, 3) := by decide +kernel
theorem d_K_variable_34 : decode b_K_variable 34 = .ok (.iconst 0, 1) := by decide +kernel
theorem d_K_variable_35 : decode b_K_variable 35 = .ok (.iload_n 1, 1) := by decide +kernel
theorem d_K_variable_36 : decode b_K_variable 36 = .ok (.iload_n 2, 1) := by decide +kernel
theorem d_K_variable_37 : decode b_K_variable 37 = .ok (.invokestatic 50, 3) := by decide +kernel
theorem d_K_variable_40 : decode b_K_variable 40 = .ok (.invokevirtual 56, 3) := by decide +kernel
theorem d_K_variable_43 : decode b_K_variable 43 = .ok (.aload_n 0, 1) := by decide +kernel
theorem d_K_variable_44 : decode b_K_variable 44 = .ok (.getfield 19, 3) := by decide +kernel
theorem d_K_variable_47 : decode b_K_variable 47 = .ok (.aload_n 0, 1) := by decide +kernel
theorem d_K_variable_48 : decode b_K_variable 48 = .ok (.getfield 28, 3) := by decide +kernel
theorem d_K_variable_51 : decode b_K_variable 51 = .ok (.invokevirtual 60, 3) := by decide +kernel
theorem d_K_variable_54 : decode b_K_variable 54 = .ok (.ireturn, 1) := by decide +kernel
theorem d_K_constant_0 : decode b_K_constant 0 = .ok (.iload_n 1, 1) := by decide +kernel
theorem d_K_constant_1 : decode b_K_constant 1 = .ok (.ifCond .lt 19, 3) := by decide +kernel
theorem d_K_constant_4 : decode b_K_constant 4 = .ok (.iload_n 1, 1) := by decide +kernel
theorem d_K_constant_5 : decode b_K_constant 5 = .ok (.iconst 4, 1) := by decide +kernel
theorem d_K_constant_6 : decode b_K_constant 6 = .ok (.if_icmp .ge 14, 3) := by decide +kernel
theorem d_K_constant_9 : decode b_K_constant 9 = .ok (.aload_n 0, 1) := by decide +kernel
theorem d_K_constant_10 : decode b_K_constant 10 = .ok (.getfield 10, 3) := by decide +kernel
theorem d_K_constant_13 : decode b_K_constant 13 = .ok (.iload_n 2, 1) := by decide +kernel
theorem d_K_constant_14 : decode b_K_constant 14 = .ok (.invokevirtual 39, 3) := by decide +kernel
theorem d_K_constant_17 : decode b_K_constant 17 = .ok (.ifCond .ne 5, 3) := by decide +kernel
theorem d_K_constant_20 : decode b_K_constant 20 = .ok (.iconst (-1), 1) := by decide +kernel
theorem d_K_constant_21 : decode b_K_constant 21 = .ok (.ireturn, 1) := by decide +kernel
theorem d_K_constant_22 : decode b_K_constant 22 = .ok (.aload_n 0, 1) := by decide +kernel
theorem d_K_constant_23 : decode b_K_constant 23 = .ok (.iload_n 1, 1) := by decide +kernel
theorem d_K_constant_24 : decode b_K_constant 24 = .ok (.invokevirtual 64, 3) := by decide +kernel
theorem d_K_constant_27 : decode b_K_constant 27 = .ok (.istore_n 3, 1) := by decide +kernel
theorem d_K_constant_28 : decode b_K_constant 28 = .ok (.iload_n 3, 1) := by decide +kernel
theorem d_K_constant_29 : decode b_K_constant 29 = .ok (.iconst (-1), 1) := by decide +kernel
theorem d_K_constant_30 : decode b_K_constant 30 = .ok (.if_icmp .eq 11, 3) := by decide +kernel
theorem d_K_constant_33 : decode b_K_constant 33 = .ok (.iload_n 3, 1) := by decide +kernel
theorem d_K_constant_34 : decode b_K_constant 34 = .ok (.iload_n 2, 1) := by decide +kernel
theorem d_K_constant_35 : decode b_K_constant 35 = .ok (.if_icmp .eq 6, 3) := by decide +kernel
theorem d_K_constant_38 : decode b_K_constant 38 = .ok (.bipush (-2), 2) := by decide +kernel
theorem d_K_constant_40 : decode b_K_constant 40 = .ok (.ireturn, 1) := by decide +kernel
theorem d_K_constant_41 : decode b_K_constant 41 = .ok (.aload_n 0, 1) := by decide +kernel
theorem d_K_constant_42 : decode b_K_constant 42 = .ok (.getfield 28, 3) := by decide +kernel
theorem d_K_constant_45 : decode b_K_constant 45 = .ok (.invokevirtual 47, 3) := by decide +kernel
theorem d_K_constant_48 : decode b_K_constant 48 = .ok (.aload_n 0, 1) := by decide +kernel
theorem d_K_constant_49 : decode b_K_constant 49 = .ok (.getfield 28, 3) := by decide +kernel
theorem d_K_constant_52 : decode b_K_constant 52 = .ok (.iconst 1, 1) := by decide +kernel
theorem d_K_constant_53 : decode b_K_constant 53 = .ok (.iload_n 1, 1) := by decide +kernel
theorem d_K_constant_54 : decode b_K_constant 54 = .ok (.iload_n 2, 1) := by decide +kernel
theorem d_K_constant_55 : decode b_K_constant 55 = .ok (.invokestatic 50, 3) := by decide +kernel
theorem d_K_constant_58 : decode b_K_constant 58 = .ok (.invokevirtual 56, 3) := by decide +kernel
theorem d_K_constant_61 : decode b_K_constant 61 = .ok (.aload_n 0, 1) := by decide +kernel
theorem d_K_constant_62 : decode b_K_constant 62 = .ok (.getfield 19, 3) := by decide +kernel
theorem d_K_constant_65 : decode b_K_constant 65 = .ok (.aload_n 0, 1) := by decide +kernel
theorem d_K_constant_66 : decode b_K_constant 66 = .ok (.getfield 28, 3) := by decide +kernel
theorem d_K_constant_69 : decode b_K_constant 69 = .ok (.invokevirtual 60, 3) := by decide +kernel
theorem d_K_constant_72 : decode b_K_constant 72 = .ok (.ireturn, 1) := by decide +kernel
theorem d_K_apply_0 : decode b_K_apply 0 = .ok (.aload_n 0, 1) := by decide +kernel
theorem d_K_apply_1 : decode b_K_apply 1 = .ok (.getfield 19, 3) := by decide +kernel
theorem d_K_apply_4 : decode b_K_apply 4 = .ok (.iload_n 1, 1) := by decide +kernel
theorem d_K_apply_5 : decode b_K_apply 5 = .ok (.invokevirtual 68, 3) := by decide +kernel
theorem d_K_apply_8 : decode b_K_apply 8 = .ok (.ifCond .eq 14, 3) := by decide +kernel
theorem d_K_apply_11 : decode b_K_apply 11 = .ok (.aload_n 0, 1) := by decide +kernel
theorem d_K_apply_12 : decode b_K_apply 12 = .ok (.getfield 19, 3) := by decide +kernel
theorem d_K_apply_15 : decode b_K_apply 15 = .ok (.iload_n 2, 1) := by decide +kernel
theorem d_K_apply_16 : decode b_K_apply 16 = .ok (.invokevirtual 68, 3) := by decide +kernel
theorem d_K_apply_19 : decode b_K_apply 19 = .ok (.ifCond .ne 5, 3) := by decide +kernel
theorem d_K_apply_22 : decode b_K_apply 22 = .ok (.iconst (-1), 1) := by decide +kernel
theorem d_K_apply_23 : decode b_K_apply 23 = .ok (.ireturn, 1) := by decide +kernel
theorem d_K_apply_24 : decode b_K_apply 24 = .ok (.aload_n 0, 1) := by decide +kernel
theorem d_K_apply_25 : decode b_K_apply 25 = .ok (.getfield 10, 3) := by decide +kernel
theorem d_K_apply_28 : decode b_K_apply 28 = .ok (.aload_n 0, 1) := by decide +kernel
theorem d_K_apply_29 : decode b_K_apply 29 = .ok (.aload_n 0, 1) := by decide +kernel
theorem d_K_apply_30 : decode b_K_apply 30 = .ok (.getfield 19, 3) := by decide +kernel
theorem d_K_apply_33 : decode b_K_apply 33 = .ok (.iload_n 1, 1) := by decide +kernel
theorem d_K_apply_34 : decode b_K_apply 34 = .ok (.invokevirtual 69, 3) := by decide +kernel
theorem d_K_apply_37 : decode b_K_apply 37 = .ok (.invokevirtual 72, 3) := by decide +kernel
theorem d_K_apply_40 : decode b_K_apply 40 = .ok (.aload_n 0, 1) := by decide +kernel
theorem d_K_apply_41 : decode b_K_apply 41 = .ok (.aload_n 0, 1) := by decide +kernel
theorem d_K_apply_42 : decode b_K_apply 42 = .ok (.getfield 19, 3) := by decide +kernel
theorem d_K_apply_45 : decode b_K_apply 45 = .ok (.iload_n 2, 1) := by decide +kernel
theorem d_K_apply_46 : decode b_K_apply 46 = .ok (.invokevirtual 69, 3) := by decide +kernel
theorem d_K_apply_49 : decode b_K_apply 49 = .ok (.invokevirtual 72, 3) := by decide +kernel
theorem d_K_apply_52 : decode b_K_apply 52 = .ok (.invokevirtual 75, 3) := by decide +kernel
theorem d_K_apply_55 : decode b_K_apply 55 = .ok (.ifCond .ne 6, 3) := by decide +kernel
theorem d_K_apply_58 : decode b_K_apply 58 = .ok (.bipush (-2), 2) := by decide +kernel
theorem d_K_apply_60 : decode b_K_apply 60 = .ok (.ireturn, 1) := by decide +kernel
theorem d_K_apply_61 : decode b_K_apply 61 = .ok (.aload_n 0, 1) := by decide +kernel
theorem d_K_apply_62 : decode b_K_apply 62 = .ok (.getfield 28, 3) := by decide +kernel
theorem d_K_apply_65 : decode b_K_apply 65 = .ok (.invokevirtual 47, 3) := by decide +kernel
theorem d_K_apply_68 : decode b_K_apply 68 = .ok (.aload_n 0, 1) := by decide +kernel
theorem d_K_apply_69 : decode b_K_apply 69 = .ok (.aload_n 0, 1) := by decide +kernel
theorem d_K_apply_70 : decode b_K_apply 70 = .ok (.getfield 19, 3) := by decide +kernel
theorem d_K_apply_73 : decode b_K_apply 73 = .ok (.iload_n 1, 1) := by decide +kernel
theorem d_K_apply_74 : decode b_K_apply 74 = .ok (.invokevirtual 69, 3) := by decide +kernel
theorem d_K_apply_77 : decode b_K_apply 77 = .ok (.aload_n 0, 1) := by decide +kernel
theorem d_K_apply_78 : decode b_K_apply 78 = .ok (.getfield 19, 3) := by decide +kernel
theorem d_K_apply_81 : decode b_K_apply 81 = .ok (.iload_n 2, 1) := by decide +kernel
theorem d_K_apply_82 : decode b_K_apply 82 = .ok (.invokevirtual 69, 3) := by decide +kernel
theorem d_K_apply_85 : decode b_K_apply 85 = .ok (.invokevirtual 79, 3) := by decide +kernel
theorem d_K_apply_88 : decode b_K_apply 88 = .ok (.aload_n 0, 1) := by decide +kernel
theorem d_K_apply_89 : decode b_K_apply 89 = .ok (.getfield 19, 3) := by decide +kernel
theorem d_K_apply_92 : decode b_K_apply 92 = .ok (.aload_n 0, 1) := by decide +kernel
theorem d_K_apply_93 : decode b_K_apply 93 = .ok (.getfield 28, 3) := by decide +kernel
theorem d_K_apply_96 : decode b_K_apply 96 = .ok (.invokevirtual 60, 3) := by decide +kernel
theorem d_K_apply_99 : decode b_K_apply 99 = .ok (.ireturn, 1) := by decide +kernel
theorem d_K_bind_0 : decode b_K_bind 0 = .ok (.aload_n 0, 1) := by decide +kernel
theorem d_K_bind_1 : decode b_K_bind 1 = .ok (.getfield 19, 3) := by decide +kernel
theorem d_K_bind_4 : decode b_K_bind 4 = .ok (.iload_n 2, 1) := by decide +kernel
theorem d_K_bind_5 : decode b_K_bind 5 = .ok (.invokevirtual 68, 3) := by decide +kernel
theorem d_K_bind_8 : decode b_K_bind 8 = .ok (.ifCond .eq 14, 3) := by decide +kernel
theorem d_K_bind_11 : decode b_K_bind 11 = .ok (.aload_n 0, 1) := by decide +kernel
theorem d_K_bind_12 : decode b_K_bind 12 = .ok (.getfield 19, 3) := by decide +kernel
theorem d_K_bind_15 : decode b_K_bind 15 = .ok (.iload_n 3, 1) := by decide +kernel
theorem d_K_bind_16 : decode b_K_bind 16 = .ok (.invokevirtual 68, 3) := by decide +kernel
theorem d_K_bind_19 : decode b_K_bind 19 = .ok (.ifCond .ne 5, 3) := by decide +kernel
theorem d_K_bind_22 : decode b_K_bind 22 = .ok (.iconst (-1), 1) := by decide +kernel
theorem d_K_bind_23 : decode b_K_bind 23 = .ok (.ireturn, 1) := by decide +kernel
theorem d_K_bind_24 : decode b_K_bind 24 = .ok (.aload_n 0, 1) := by decide +kernel
theorem d_K_bind_25 : decode b_K_bind 25 = .ok (.getfield 19, 3) := by decide +kernel
theorem d_K_bind_28 : decode b_K_bind 28 = .ok (.iload_n 2, 1) := by decide +kernel
theorem d_K_bind_29 : decode b_K_bind 29 = .ok (.invokevirtual 69, 3) := by decide +kernel
theorem d_K_bind_32 : decode b_K_bind 32 = .ok (.istore 4, 2) := by decide +kernel
theorem d_K_bind_34 : decode b_K_bind 34 = .ok (.aload_n 0, 1) := by decide +kernel
theorem d_K_bind_35 : decode b_K_bind 35 = .ok (.getfield 19, 3) := by decide +kernel
theorem d_K_bind_38 : decode b_K_bind 38 = .ok (.iload_n 3, 1) := by decide +kernel
theorem d_K_bind_39 : decode b_K_bind 39 = .ok (.invokevirtual 69, 3) := by decide +kernel
theorem d_K_bind_42 : decode b_K_bind 42 = .ok (.istore 5, 2) := by decide +kernel
theorem d_K_bind_44 : decode b_K_bind 44 = .ok (.aload_n 0, 1) := by decide +kernel
theorem d_K_bind_45 : decode b_K_bind 45 = .ok (.iconst 0, 1) := by decide +kernel
theorem d_K_bind_46 : decode b_K_bind 46 = .ok (.iload 4, 2) := by decide +kernel
theorem d_K_bind_48 : decode b_K_bind 48 = .ok (.invokevirtual 83, 3) := by decide +kernel
theorem d_K_bind_51 : decode b_K_bind 51 = .ok (.ifCond .eq 16, 3) := by decide +kernel
theorem d_K_bind_54 : decode b_K_bind 54 = .ok (.iload_n 1, 1) := by decide +kernel
theorem d_K_bind_55 : decode b_K_bind 55 = .ok (.ifCond .eq 15, 3) := by decide +kernel
theorem d_K_bind_58 : decode b_K_bind 58 = .ok (.aload_n 0, 1) := by decide +kernel
theorem d_K_bind_59 : decode b_K_bind 59 = .ok (.iload 5, 2) := by decide +kernel
theorem d_K_bind_61 : decode b_K_bind 61 = .ok (.invokevirtual 72, 3) := by decide +kernel
theorem d_K_bind_64 : decode b_K_bind 64 = .ok (.ifCond .eq 6, 3) := by decide +kernel
theorem d_K_bind_67 : decode b_K_bind 67 = .ok (.bipush (-2), 2) := by decide +kernel
theorem d_K_bind_69 : decode b_K_bind 69 = .ok (.ireturn, 1) := by decide +kernel
theorem d_K_bind_70 : decode b_K_bind 70 = .ok (.aload_n 0, 1) := by decide +kernel
theorem d_K_bind_71 : decode b_K_bind 71 = .ok (.getfield 10, 3) := by decide +kernel
theorem d_K_bind_74 : decode b_K_bind 74 = .ok (.invokevirtual 86, 3) := by decide +kernel
theorem d_K_bind_77 : decode b_K_bind 77 = .ok (.istore 6, 2) := by decide +kernel
theorem d_K_bind_79 : decode b_K_bind 79 = .ok (.aload_n 0, 1) := by decide +kernel
theorem d_K_bind_80 : decode b_K_bind 80 = .ok (.getfield 28, 3) := by decide +kernel
theorem d_K_bind_83 : decode b_K_bind 83 = .ok (.invokevirtual 47, 3) := by decide +kernel
theorem d_K_bind_86 : decode b_K_bind 86 = .ok (.iload_n 1, 1) := by decide +kernel
theorem d_K_bind_87 : decode b_K_bind 87 = .ok (.ifCond .eq 26, 3) := by decide +kernel
theorem d_K_bind_90 : decode b_K_bind 90 = .ok (.aload_n 0, 1) := by decide +kernel
theorem d_K_bind_91 : decode b_K_bind 91 = .ok (.getfield 28, 3) := by decide +kernel
theorem d_K_bind_94 : decode b_K_bind 94 = .ok (.iconst 4, 1) := by decide +kernel
theorem d_K_bind_95 : decode b_K_bind 95 = .ok (.iconst 0, 1) := by decide +kernel
theorem d_K_bind_96 : decode b_K_bind 96 = .ok (.aload_n 0, 1) := by decide +kernel
theorem d_K_bind_97 : decode b_K_bind 97 = .ok (.getfield 19, 3) := by decide +kernel
theorem d_K_bind_100 : decode b_K_bind 100 = .ok (.iload 4, 2) := by decide +kernel
theorem d_K_bind_102 : decode b_K_bind 102 = .ok (.invokevirtual 90, 3) := by decide +kernel
theorem d_K_bind_105 : decode b_K_bind 105 = .ok (.iload 5, 2) := by decide +kernel
theorem d_K_bind_107 : decode b_K_bind 107 = .ok (.invokevirtual 93, 3) := by decide +kernel
theorem d_K_bind_110 : decode b_K_bind 110 = .ok (.goto 11, 3) := by decide +kernel
theorem d_K_bind_113 : decode b_K_bind 113 = .ok (.aload_n 0, 1) := by decide +kernel
theorem d_K_bind_114 : decode b_K_bind 114 = .ok (.iload 4, 2) := by decide +kernel
theorem d_K_bind_116 : decode b_K_bind 116 = .ok (.iload 5, 2) := by decide +kernel
theorem d_K_bind_118 : decode b_K_bind 118 = .ok (.invokevirtual 97, 3) := by decide +kernel
theorem d_K_bind_121 : decode b_K_bind 121 = .ok (.aload_n 0, 1) := by decide +kernel
theorem d_K_bind_122 : decode b_K_bind 122 = .ok (.getfield 19, 3) := by decide +kernel
theorem d_K_bind_125 : decode b_K_bind 125 = .ok (.aload_n 0, 1) := by decide +kernel
theorem d_K_bind_126 : decode b_K_bind 126 = .ok (.getfield 28, 3) := by decide +kernel
theorem d_K_bind_129 : decode b_K_bind 129 = .ok (.invokevirtual 60, 3) := by decide +kernel
theorem d_K_bind_132 : decode b_K_bind 132 = .ok (.istore 7, 2) := by decide +kernel
theorem d_K_bind_134 : decode b_K_bind 134 = .ok (.iload 7, 2) := by decide +kernel
theorem d_K_bind_136 : decode b_K_bind 136 = .ok (.bipush (-4), 2) := by decide +kernel
theorem d_K_bind_138 : decode b_K_bind 138 = .ok (.if_icmp .ne 12, 3) := by decide +kernel
theorem d_K_bind_141 : decode b_K_bind 141 = .ok (.aload_n 0, 1) := by decide +kernel
theorem d_K_bind_142 : decode b_K_bind 142 = .ok (.getfield 10, 3) := by decide +kernel
theorem d_K_bind_145 : decode b_K_bind 145 = .ok (.iload 6, 2) := by decide +kernel
theorem d_K_bind_147 : decode b_K_bind 147 = .ok (.invokevirtual 100, 3) := by decide +kernel
theorem d_K_bind_150 : decode b_K_bind 150 = .ok (.iload 7, 2) := by decide +kernel
theorem d_K_bind_152 : decode b_K_bind 152 = .ok (.ireturn, 1) := by decide +kernel
theorem d_K_join_0 : decode b_K_join 0 = .ok (.aload_n 0, 1) := by decide +kernel
theorem d_K_join_1 : decode b_K_join 1 = .ok (.getfield 19, 3) := by decide +kernel
theorem d_K_join_4 : decode b_K_join 4 = .ok (.iload_n 2, 1) := by decide +kernel
theorem d_K_join_5 : decode b_K_join 5 = .ok (.invokevirtual 68, 3) := by decide +kernel
theorem d_K_join_8 : decode b_K_join 8 = .ok (.ifCond .eq 14, 3) := by decide +kernel
theorem d_K_join_11 : decode b_K_join 11 = .ok (.aload_n 0, 1) := by decide +kernel
theorem d_K_join_12 : decode b_K_join 12 = .ok (.getfield 19, 3) := by decide +kernel
theorem d_K_join_15 : decode b_K_join 15 = .ok (.iload_n 3, 1) := by decide +kernel
theorem d_K_join_16 : decode b_K_join 16 = .ok (.invokevirtual 68, 3) := by decide +kernel
theorem d_K_join_19 : decode b_K_join 19 = .ok (.ifCond .ne 5, 3) := by decide +kernel
theorem d_K_join_22 : decode b_K_join 22 = .ok (.iconst (-1), 1) := by decide +kernel
theorem d_K_join_23 : decode b_K_join 23 = .ok (.ireturn, 1) := by decide +kernel
theorem d_K_join_24 : decode b_K_join 24 = .ok (.aload_n 0, 1) := by decide +kernel
theorem d_K_join_25 : decode b_K_join 25 = .ok (.getfield 19, 3) := by decide +kernel
theorem d_K_join_28 : decode b_K_join 28 = .ok (.iload_n 2, 1) := by decide +kernel
theorem d_K_join_29 : decode b_K_join 29 = .ok (.invokevirtual 69, 3) := by decide +kernel
theorem d_K_join_32 : decode b_K_join 32 = .ok (.istore 4, 2) := by decide +kernel
theorem d_K_join_34 : decode b_K_join 34 = .ok (.aload_n 0, 1) := by decide +kernel
theorem d_K_join_35 : decode b_K_join 35 = .ok (.getfield 19, 3) := by decide +kernel
theorem d_K_join_38 : decode b_K_join 38 = .ok (.iload_n 3, 1) := by decide +kernel
theorem d_K_join_39 : decode b_K_join 39 = .ok (.invokevirtual 69, 3) := by decide +kernel
theorem d_K_join_42 : decode b_K_join 42 = .ok (.istore 5, 2) := by decide +kernel
theorem d_K_join_44 : decode b_K_join 44 = .ok (.aload_n 0, 1) := by decide +kernel
theorem d_K_join_45 : decode b_K_join 45 = .ok (.iload 4, 2) := by decide +kernel
theorem d_K_join_47 : decode b_K_join 47 = .ok (.invokevirtual 72, 3) := by decide +kernel
theorem d_K_join_50 : decode b_K_join 50 = .ok (.aload_n 0, 1) := by decide +kernel
theorem d_K_join_51 : decode b_K_join 51 = .ok (.iload 5, 2) := by decide +kernel
theorem d_K_join_53 : decode b_K_join 53 = .ok (.invokevirtual 72, 3) := by decide +kernel
theorem d_K_join_56 : decode b_K_join 56 = .ok (.if_icmp .ne 16, 3) := by decide +kernel
theorem d_K_join_59 : decode b_K_join 59 = .ok (.iload_n 1, 1) := by decide +kernel
theorem d_K_join_60 : decode b_K_join 60 = .ok (.ifCond .ne 15, 3) := by decide +kernel
theorem d_K_join_63 : decode b_K_join 63 = .ok (.aload_n 0, 1) := by decide +kernel
theorem d_K_join_64 : decode b_K_join 64 = .ok (.iload 4, 2) := by decide +kernel
theorem d_K_join_66 : decode b_K_join 66 = .ok (.invokevirtual 72, 3) := by decide +kernel
theorem d_K_join_69 : decode b_K_join 69 = .ok (.ifCond .eq 6, 3) := by decide +kernel
theorem d_K_join_72 : decode b_K_join 72 = .ok (.bipush (-2), 2) := by decide +kernel
theorem d_K_join_74 : decode b_K_join 74 = .ok (.ireturn, 1) := by decide +kernel
theorem d_K_join_75 : decode b_K_join 75 = .ok (.aload_n 0, 1) := by decide +kernel
theorem d_K_join_76 : decode b_K_join 76 = .ok (.getfield 28, 3) := by decide +kernel
theorem d_K_join_79 : decode b_K_join 79 = .ok (.invokevirtual 47, 3) := by decide +kernel
theorem d_K_join_82 : decode b_K_join 82 = .ok (.aload_n 0, 1) := by decide +kernel
theorem d_K_join_83 : decode b_K_join 83 = .ok (.iload_n 1, 1) := by decide +kernel
theorem d_K_join_84 : decode b_K_join 84 = .ok (.ifCond .eq 8, 3) := by decide +kernel
theorem d_K_join_87 : decode b_K_join 87 = .ok (.bipush 7, 2) := by decide +kernel
theorem d_K_join_89 : decode b_K_join 89 = .ok (.goto 5, 3) := by decide +kernel
theorem d_K_join_92 : decode b_K_join 92 = .ok (.bipush 6, 2) := by decide +kernel
theorem d_K_join_94 : decode b_K_join 94 = .ok (.iload 4, 2) := by decide +kernel
theorem d_K_join_96 : decode b_K_join 96 = .ok (.iload 5, 2) := by decide +kernel
theorem d_K_join_98 : decode b_K_join 98 = .ok (.invokevirtual 103, 3) := by decide +kernel
theorem d_K_join_101 : decode b_K_join 101 = .ok (.aload_n 0, 1) := by decide +kernel
theorem d_K_join_102 : decode b_K_join 102 = .ok (.getfield 19, 3) := by decide +kernel
theorem d_K_join_105 : decode b_K_join 105 = .ok (.aload_n 0, 1) := by decide +kernel
theorem d_K_join_106 : decode b_K_join 106 = .ok (.getfield 28, 3) := by decide +kernel
theorem d_K_join_109 : decode b_K_join 109 = .ok (.invokevirtual 60, 3) := by decide +kernel
theorem d_K_join_112 : decode b_K_join 112 = .ok (.ireturn, 1) := by decide +kernel
theorem d_K_rule_0 : decode b_K_rule 0 = .ok (.iload_n 1, 1) := by decide +kernel
theorem d_K_rule_1 : decode b_K_rule 1 = .ok (.ifCond .lt 9, 3) := by decide +kernel
theorem d_K_rule_4 : decode b_K_rule 4 = .ok (.iload_n 1, 1) := by decide +kernel
theorem d_K_rule_5 : decode b_K_rule 5 = .ok (.bipush 14, 2) := by decide +kernel
theorem d_K_rule_7 : decode b_K_rule 7 = .ok (.if_icmp .lt 5, 3) := by decide +kernel
theorem d_K_rule_10 : decode b_K_rule 10 = .ok (.iconst (-1), 1) := by decide +kernel
theorem d_K_rule_11 : decode b_K_rule 11 = .ok (.ireturn, 1) := by decide +kernel
theorem d_K_rule_12 : decode b_K_rule 12 = .ok (.aload_n 0, 1) := by decide +kernel
theorem d_K_rule_13 : decode b_K_rule 13 = .ok (.getstatic 107, 3) := by decide +kernel
theorem d_K_rule_16 : decode b_K_rule 16 = .ok (.iload_n 1, 1) := by decide +kernel
theorem d_K_rule_17 : decode b_K_rule 17 = .ok (.iaload, 1) := by decide +kernel
theorem d_K_rule_18 : decode b_K_rule 18 = .ok (.iload_n 2, 1) := by decide +kernel
theorem d_K_rule_19 : decode b_K_rule 19 = .ok (.invokevirtual 111, 3) := by decide +kernel
theorem d_K_rule_22 : decode b_K_rule 22 = .ok (.ifCond .eq 16, 3) := by decide +kernel
theorem d_K_rule_25 : decode b_K_rule 25 = .ok (.aload_n 0, 1) := by decide +kernel
theorem d_K_rule_26 : decode b_K_rule 26 = .ok (.getstatic 114, 3) := by decide +kernel
theorem d_K_rule_29 : decode b_K_rule 29 = .ok (.iload_n 1, 1) := by decide +kernel
theorem d_K_rule_30 : decode b_K_rule 30 = .ok (.iaload, 1) := by decide +kernel
theorem d_K_rule_31 : decode b_K_rule 31 = .ok (.iload_n 3, 1) := by decide +kernel
theorem d_K_rule_32 : decode b_K_rule 32 = .ok (.invokevirtual 111, 3) := by decide +kernel
theorem d_K_rule_35 : decode b_K_rule 35 = .ok (.ifCond .ne 5, 3) := by decide +kernel
theorem d_K_rule_38 : decode b_K_rule 38 = .ok (.iconst (-1), 1) := by decide +kernel
theorem d_K_rule_39 : decode b_K_rule 39 = .ok (.ireturn, 1) := by decide +kernel
theorem d_K_rule_40 : decode b_K_rule 40 = .ok (.aload_n 0, 1) := by decide +kernel
theorem d_K_rule_41 : decode b_K_rule 41 = .ok (.iload_n 1, 1) := by decide +kernel
theorem d_K_rule_42 : decode b_K_rule 42 = .ok (.iload_n 2, 1) := by decide +kernel
theorem d_K_rule_43 : decode b_K_rule 43 = .ok (.iload_n 3, 1) := by decide +kernel
theorem d_K_rule_44 : decode b_K_rule 44 = .ok (.invokevirtual 117, 3) := by decide +kernel
theorem d_K_rule_47 : decode b_K_rule 47 = .ok (.ifCond .ne 6, 3) := by decide +kernel
theorem d_K_rule_50 : decode b_K_rule 50 = .ok (.bipush (-2), 2) := by decide +kernel
theorem d_K_rule_52 : decode b_K_rule 52 = .ok (.ireturn, 1) := by decide +kernel
theorem d_K_rule_53 : decode b_K_rule 53 = .ok (.aload_n 0, 1) := by decide +kernel
theorem d_K_rule_54 : decode b_K_rule 54 = .ok (.iload_n 1, 1) := by decide +kernel
theorem d_K_rule_55 : decode b_K_rule 55 = .ok (.iload_n 2, 1) := by decide +kernel
theorem d_K_rule_56 : decode b_K_rule 56 = .ok (.iload_n 3, 1) := by decide +kernel
theorem d_K_rule_57 : decode b_K_rule 57 = .ok (.invokevirtual 121, 3) := by decide +kernel
theorem d_K_rule_60 : decode b_K_rule 60 = .ok (.ifCond .eq 6, 3) := by decide +kernel
theorem d_K_rule_63 : decode b_K_rule 63 = .ok (.bipush (-3), 2) := by decide +kernel
theorem d_K_rule_65 : decode b_K_rule 65 = .ok (.ireturn, 1) := by decide +kernel
theorem d_K_rule_66 : decode b_K_rule 66 = .ok (.aload_n 0, 1) := by decide +kernel
theorem d_K_rule_67 : decode b_K_rule 67 = .ok (.getfield 35, 3) := by decide +kernel
theorem d_K_rule_70 : decode b_K_rule 70 = .ok (.invokevirtual 124, 3) := by decide +kernel
theorem d_K_rule_73 : decode b_K_rule 73 = .ok (.ifCond .eq 6, 3) := by decide +kernel
theorem d_K_rule_76 : decode b_K_rule 76 = .ok (.bipush (-4), 2) := by decide +kernel
theorem d_K_rule_78 : decode b_K_rule 78 = .ok (.ireturn, 1) := by decide +kernel
theorem d_K_rule_79 : decode b_K_rule 79 = .ok (.aload_n 0, 1) := by decide +kernel
theorem d_K_rule_80 : decode b_K_rule 80 = .ok (.iload_n 1, 1) := by decide +kernel
theorem d_K_rule_81 : decode b_K_rule 81 = .ok (.iload_n 2, 1) := by decide +kernel
theorem d_K_rule_82 : decode b_K_rule 82 = .ok (.iload_n 3, 1) := by decide +kernel
theorem d_K_rule_83 : decode b_K_rule 83 = .ok (.invokevirtual 128, 3) := by decide +kernel
theorem d_K_rule_86 : decode b_K_rule 86 = .ok (.ireturn, 1) := by decide +kernel
theorem d_K_terms_0 : decode b_K_terms 0 = .ok (.aload_n 0, 1) := by decide +kernel
theorem d_K_terms_1 : decode b_K_terms 1 = .ok (.getfield 19, 3) := by decide +kernel
theorem d_K_terms_4 : decode b_K_terms 4 = .ok (.invokevirtual 131, 3) := by decide +kernel
theorem d_K_terms_7 : decode b_K_terms 7 = .ok (.ireturn, 1) := by decide +kernel
theorem d_K_theorems_0 : decode b_K_theorems 0 = .ok (.aload_n 0, 1) := by decide +kernel
theorem d_K_theorems_1 : decode b_K_theorems 1 = .ok (.getfield 35, 3) := by decide +kernel
theorem d_K_theorems_4 : decode b_K_theorems 4 = .ok (.invokevirtual 132, 3) := by decide +kernel
theorem d_K_theorems_7 : decode b_K_theorems 7 = .ok (.ireturn, 1) := by decide +kernel
theorem d_K_typeOf_0 : decode b_K_typeOf 0 = .ok (.aload_n 0, 1) := by decide +kernel
theorem d_K_typeOf_1 : decode b_K_typeOf 1 = .ok (.getfield 19, 3) := by decide +kernel
theorem d_K_typeOf_4 : decode b_K_typeOf 4 = .ok (.iload_n 1, 1) := by decide +kernel
theorem d_K_typeOf_5 : decode b_K_typeOf 5 = .ok (.invokevirtual 68, 3) := by decide +kernel
theorem d_K_typeOf_8 : decode b_K_typeOf 8 = .ok (.ifCond .eq 18, 3) := by decide +kernel
theorem d_K_typeOf_11 : decode b_K_typeOf 11 = .ok (.aload_n 0, 1) := by decide +kernel
theorem d_K_typeOf_12 : decode b_K_typeOf 12 = .ok (.aload_n 0, 1) := by decide +kernel
theorem d_K_typeOf_13 : decode b_K_typeOf 13 = .ok (.getfield 19, 3) := by decide +kernel
theorem d_K_typeOf_16 : decode b_K_typeOf 16 = .ok (.iload_n 1, 1) := by decide +kernel
theorem d_K_typeOf_17 : decode b_K_typeOf 17 = .ok (.invokevirtual 69, 3) := by decide +kernel
theorem d_K_typeOf_20 : decode b_K_typeOf 20 = .ok (.invokevirtual 72, 3) := by decide +kernel
theorem d_K_typeOf_23 : decode b_K_typeOf 23 = .ok (.goto 4, 3) := by decide +kernel
theorem d_K_typeOf_26 : decode b_K_typeOf 26 = .ok (.iconst (-1), 1) := by decide +kernel
theorem d_K_typeOf_27 : decode b_K_typeOf 27 = .ok (.ireturn, 1) := by decide +kernel
theorem d_K_size_0 : decode b_K_size 0 = .ok (.aload_n 0, 1) := by decide +kernel
theorem d_K_size_1 : decode b_K_size 1 = .ok (.getfield 19, 3) := by decide +kernel
theorem d_K_size_4 : decode b_K_size 4 = .ok (.iload_n 1, 1) := by decide +kernel
theorem d_K_size_5 : decode b_K_size 5 = .ok (.invokevirtual 68, 3) := by decide +kernel
theorem d_K_size_8 : decode b_K_size 8 = .ok (.ifCond .eq 14, 3) := by decide +kernel
theorem d_K_size_11 : decode b_K_size 11 = .ok (.aload_n 0, 1) := by decide +kernel
theorem d_K_size_12 : decode b_K_size 12 = .ok (.getfield 19, 3) := by decide +kernel
theorem d_K_size_15 : decode b_K_size 15 = .ok (.iload_n 1, 1) := by decide +kernel
theorem d_K_size_16 : decode b_K_size 16 = .ok (.invokevirtual 133, 3) := by decide +kernel
theorem d_K_size_19 : decode b_K_size 19 = .ok (.goto 4, 3) := by decide +kernel
theorem d_K_size_22 : decode b_K_size 22 = .ok (.iconst (-1), 1) := by decide +kernel
theorem d_K_size_23 : decode b_K_size 23 = .ok (.ireturn, 1) := by decide +kernel
theorem d_K_free_0 : decode b_K_free 0 = .ok (.aload_n 0, 1) := by decide +kernel
theorem d_K_free_1 : decode b_K_free 1 = .ok (.getfield 19, 3) := by decide +kernel
theorem d_K_free_4 : decode b_K_free 4 = .ok (.iload_n 1, 1) := by decide +kernel
theorem d_K_free_5 : decode b_K_free 5 = .ok (.invokevirtual 68, 3) := by decide +kernel
theorem d_K_free_8 : decode b_K_free 8 = .ok (.ifCond .eq 30, 3) := by decide +kernel
theorem d_K_free_11 : decode b_K_free 11 = .ok (.aload_n 0, 1) := by decide +kernel
theorem d_K_free_12 : decode b_K_free 12 = .ok (.getfield 19, 3) := by decide +kernel
theorem d_K_free_15 : decode b_K_free 15 = .ok (.iload_n 2, 1) := by decide +kernel
theorem d_K_free_16 : decode b_K_free 16 = .ok (.invokevirtual 68, 3) := by decide +kernel
theorem d_K_free_19 : decode b_K_free 19 = .ok (.ifCond .eq 19, 3) := by decide +kernel
theorem d_K_free_22 : decode b_K_free 22 = .ok (.aload_n 0, 1) := by decide +kernel
theorem d_K_free_23 : decode b_K_free 23 = .ok (.iconst 0, 1) := by decide +kernel
theorem d_K_free_24 : decode b_K_free 24 = .ok (.aload_n 0, 1) := by decide +kernel
theorem d_K_free_25 : decode b_K_free 25 = .ok (.getfield 19, 3) := by decide +kernel
theorem d_K_free_28 : decode b_K_free 28 = .ok (.iload_n 1, 1) := by decide +kernel
theorem d_K_free_29 : decode b_K_free 29 = .ok (.invokevirtual 69, 3) := by decide +kernel
theorem d_K_free_32 : decode b_K_free 32 = .ok (.invokevirtual 83, 3) := by decide +kernel
theorem d_K_free_35 : decode b_K_free 35 = .ok (.ifCond .ne 5, 3) := by decide +kernel
theorem d_K_free_38 : decode b_K_free 38 = .ok (.iconst 0, 1) := by decide +kernel
theorem d_K_free_39 : decode b_K_free 39 = .ok (.ireturn, 1) := by decide +kernel
theorem d_K_free_40 : decode b_K_free 40 = .ok (.aload_n 0, 1) := by decide +kernel
theorem d_K_free_41 : decode b_K_free 41 = .ok (.getfield 19, 3) := by decide +kernel
theorem d_K_free_44 : decode b_K_free 44 = .ok (.iload_n 2, 1) := by decide +kernel
theorem d_K_free_45 : decode b_K_free 45 = .ok (.aload_n 0, 1) := by decide +kernel
theorem d_K_free_46 : decode b_K_free 46 = .ok (.getfield 19, 3) := by decide +kernel
theorem d_K_free_49 : decode b_K_free 49 = .ok (.aload_n 0, 1) := by decide +kernel
theorem d_K_free_50 : decode b_K_free 50 = .ok (.getfield 19, 3) := by decide +kernel
theorem d_K_free_53 : decode b_K_free 53 = .ok (.iload_n 1, 1) := by decide +kernel
theorem d_K_free_54 : decode b_K_free 54 = .ok (.invokevirtual 69, 3) := by decide +kernel
theorem d_K_free_57 : decode b_K_free 57 = .ok (.invokevirtual 90, 3) := by decide +kernel
theorem d_K_free_60 : decode b_K_free 60 = .ok (.invokevirtual 136, 3) := by decide +kernel
theorem d_K_free_63 : decode b_K_free 63 = .ok (.ireturn, 1) := by decide +kernel
theorem d_K_printed_0 : decode b_K_printed 0 = .ok (.aload_n 0, 1) := by decide +kernel
theorem d_K_printed_1 : decode b_K_printed 1 = .ok (.getfield 19, 3) := by decide +kernel
theorem d_K_printed_4 : decode b_K_printed 4 = .ok (.iload_n 1, 1) := by decide +kernel
theorem d_K_printed_5 : decode b_K_printed 5 = .ok (.invokevirtual 68, 3) := by decide +kernel
theorem d_K_printed_8 : decode b_K_printed 8 = .ok (.ifCond .ne 5, 3) := by decide +kernel
theorem d_K_printed_11 : decode b_K_printed 11 = .ok (.iconst (-1), 1) := by decide +kernel
theorem d_K_printed_12 : decode b_K_printed 12 = .ok (.ireturn, 1) := by decide +kernel
theorem d_K_printed_13 : decode b_K_printed 13 = .ok (.aload_n 0, 1) := by decide +kernel
theorem d_K_printed_14 : decode b_K_printed 14 = .ok (.getfield 19, 3) := by decide +kernel
theorem d_K_printed_17 : decode b_K_printed 17 = .ok (.iload_n 1, 1) := by decide +kernel
theorem d_K_printed_18 : decode b_K_printed 18 = .ok (.invokevirtual 69, 3) := by decide +kernel
theorem d_K_printed_21 : decode b_K_printed 21 = .ok (.aload_n 0, 1) := by decide +kernel
theorem d_K_printed_22 : decode b_K_printed 22 = .ok (.getfield 19, 3) := by decide +kernel
theorem d_K_printed_25 : decode b_K_printed 25 = .ok (.iload_n 1, 1) := by decide +kernel
theorem d_K_printed_26 : decode b_K_printed 26 = .ok (.invokevirtual 133, 3) := by decide +kernel
theorem d_K_printed_29 : decode b_K_printed 29 = .ok (.iadd, 1) := by decide +kernel
theorem d_K_printed_30 : decode b_K_printed 30 = .ok (.istore_n 3, 1) := by decide +kernel
theorem d_K_printed_31 : decode b_K_printed 31 = .ok (.iconst 0, 1) := by decide +kernel
theorem d_K_printed_32 : decode b_K_printed 32 = .ok (.istore 4, 2) := by decide +kernel
theorem d_K_printed_34 : decode b_K_printed 34 = .ok (.aload_n 0, 1) := by decide +kernel
theorem d_K_printed_35 : decode b_K_printed 35 = .ok (.getfield 19, 3) := by decide +kernel
theorem d_K_printed_38 : decode b_K_printed 38 = .ok (.iload_n 1, 1) := by decide +kernel
theorem d_K_printed_39 : decode b_K_printed 39 = .ok (.invokevirtual 69, 3) := by decide +kernel
theorem d_K_printed_42 : decode b_K_printed 42 = .ok (.istore 5, 2) := by decide +kernel
theorem d_K_printed_44 : decode b_K_printed 44 = .ok (.iload 5, 2) := by decide +kernel
theorem d_K_printed_46 : decode b_K_printed 46 = .ok (.iload_n 3, 1) := by decide +kernel
theorem d_K_printed_47 : decode b_K_printed 47 = .ok (.if_icmp .ge 58, 3) := by decide +kernel
theorem d_K_printed_50 : decode b_K_printed 50 = .ok (.aload_n 0, 1) := by decide +kernel
theorem d_K_printed_51 : decode b_K_printed 51 = .ok (.getfield 19, 3) := by decide +kernel
theorem d_K_printed_54 : decode b_K_printed 54 = .ok (.iload 5, 2) := by decide +kernel
theorem d_K_printed_56 : decode b_K_printed 56 = .ok (.invokevirtual 90, 3) := by decide +kernel
theorem d_K_printed_59 : decode b_K_printed 59 = .ok (.istore 6, 2) := by decide +kernel
theorem d_K_printed_61 : decode b_K_printed 61 = .ok (.iload_n 2, 1) := by decide +kernel
theorem d_K_printed_62 : decode b_K_printed 62 = .ok (.iload 4, 2) := by decide +kernel
theorem d_K_printed_64 : decode b_K_printed 64 = .ok (.if_icmp .ne 9, 3) := by decide +kernel
theorem d_K_printed_67 : decode b_K_printed 67 = .ok (.iload 6, 2) := by decide +kernel
theorem d_K_printed_69 : decode b_K_printed 69 = .ok (.invokestatic 139, 3) := by decide +kernel
theorem d_K_printed_72 : decode b_K_printed 72 = .ok (.ireturn, 1) := by decide +kernel
theorem d_K_printed_73 : decode b_K_printed 73 = .ok (.iinc 4 1, 3) := by decide +kernel
theorem d_K_printed_76 : decode b_K_printed 76 = .ok (.iload 6, 2) := by decide +kernel
theorem d_K_printed_78 : decode b_K_printed 78 = .ok (.invokestatic 142, 3) := by decide +kernel
theorem d_K_printed_81 : decode b_K_printed 81 = .ok (.ifCond .eq 18, 3) := by decide +kernel
theorem d_K_printed_84 : decode b_K_printed 84 = .ok (.iload_n 2, 1) := by decide +kernel
theorem d_K_printed_85 : decode b_K_printed 85 = .ok (.iload 4, 2) := by decide +kernel
theorem d_K_printed_87 : decode b_K_printed 87 = .ok (.if_icmp .ne 9, 3) := by decide +kernel
theorem d_K_printed_90 : decode b_K_printed 90 = .ok (.iload 6, 2) := by decide +kernel
theorem d_K_printed_92 : decode b_K_printed 92 = .ok (.invokestatic 145, 3) := by decide +kernel
theorem d_K_printed_95 : decode b_K_printed 95 = .ok (.ireturn, 1) := by decide +kernel
theorem d_K_printed_96 : decode b_K_printed 96 = .ok (.iinc 4 1, 3) := by decide +kernel
theorem d_K_printed_99 : decode b_K_printed 99 = .ok (.iinc 5 1, 3) := by decide +kernel
theorem d_K_printed_102 : decode b_K_printed 102 = .ok (.goto (-58), 3) := by decide +kernel
theorem d_K_printed_105 : decode b_K_printed 105 = .ok (.iload_n 2, 1) := by decide +kernel
theorem d_K_printed_106 : decode b_K_printed 106 = .ok (.iconst (-1), 1) := by decide +kernel
theorem d_K_printed_107 : decode b_K_printed 107 = .ok (.if_icmp .ne 8, 3) := by decide +kernel
theorem d_K_printed_110 : decode b_K_printed 110 = .ok (.iload 4, 2) := by decide +kernel
theorem d_K_printed_112 : decode b_K_printed 112 = .ok (.goto 4, 3) := by decide +kernel
theorem d_K_printed_115 : decode b_K_printed 115 = .ok (.iconst (-1), 1) := by decide +kernel
theorem d_K_printed_116 : decode b_K_printed 116 = .ok (.ireturn, 1) := by decide +kernel
theorem d_K_conclusion_0 : decode b_K_conclusion 0 = .ok (.aload_n 0, 1) := by decide +kernel
theorem d_K_conclusion_1 : decode b_K_conclusion 1 = .ok (.getfield 35, 3) := by decide +kernel
theorem d_K_conclusion_4 : decode b_K_conclusion 4 = .ok (.iload_n 1, 1) := by decide +kernel
theorem d_K_conclusion_5 : decode b_K_conclusion 5 = .ok (.invokevirtual 148, 3) := by decide +kernel
theorem d_K_conclusion_8 : decode b_K_conclusion 8 = .ok (.ifCond .eq 14, 3) := by decide +kernel
theorem d_K_conclusion_11 : decode b_K_conclusion 11 = .ok (.aload_n 0, 1) := by decide +kernel
theorem d_K_conclusion_12 : decode b_K_conclusion 12 = .ok (.getfield 35, 3) := by decide +kernel
theorem d_K_conclusion_15 : decode b_K_conclusion 15 = .ok (.iload_n 1, 1) := by decide +kernel
theorem d_K_conclusion_16 : decode b_K_conclusion 16 = .ok (.invokevirtual 149, 3) := by decide +kernel
theorem d_K_conclusion_19 : decode b_K_conclusion 19 = .ok (.goto 4, 3) := by decide +kernel
theorem d_K_conclusion_22 : decode b_K_conclusion 22 = .ok (.iconst (-1), 1) := by decide +kernel
theorem d_K_conclusion_23 : decode b_K_conclusion 23 = .ok (.ireturn, 1) := by decide +kernel
theorem d_K_hypotheses_0 : decode b_K_hypotheses 0 = .ok (.aload_n 0, 1) := by decide +kernel
theorem d_K_hypotheses_1 : decode b_K_hypotheses 1 = .ok (.getfield 35, 3) := by decide +kernel
theorem d_K_hypotheses_4 : decode b_K_hypotheses 4 = .ok (.iload_n 1, 1) := by decide +kernel
theorem d_K_hypotheses_5 : decode b_K_hypotheses 5 = .ok (.invokevirtual 148, 3) := by decide +kernel
theorem d_K_hypotheses_8 : decode b_K_hypotheses 8 = .ok (.ifCond .eq 14, 3) := by decide +kernel
theorem d_K_hypotheses_11 : decode b_K_hypotheses 11 = .ok (.aload_n 0, 1) := by decide +kernel
theorem d_K_hypotheses_12 : decode b_K_hypotheses 12 = .ok (.getfield 35, 3) := by decide +kernel
theorem d_K_hypotheses_15 : decode b_K_hypotheses 15 = .ok (.iload_n 1, 1) := by decide +kernel
theorem d_K_hypotheses_16 : decode b_K_hypotheses 16 = .ok (.invokevirtual 152, 3) := by decide +kernel
theorem d_K_hypotheses_19 : decode b_K_hypotheses 19 = .ok (.goto 6, 3) := by decide +kernel
theorem d_K_hypotheses_22 : decode b_K_hypotheses 22 = .ok (.ldc2_w 156, 3) := by decide +kernel
theorem d_K_hypotheses_25 : decode b_K_hypotheses 25 = .ok (.lreturn, 1) := by decide +kernel
theorem d_K_axioms_0 : decode b_K_axioms 0 = .ok (.aload_n 0, 1) := by decide +kernel
theorem d_K_axioms_1 : decode b_K_axioms 1 = .ok (.getfield 35, 3) := by decide +kernel
theorem d_K_axioms_4 : decode b_K_axioms 4 = .ok (.iload_n 1, 1) := by decide +kernel
theorem d_K_axioms_5 : decode b_K_axioms 5 = .ok (.invokevirtual 148, 3) := by decide +kernel
theorem d_K_axioms_8 : decode b_K_axioms 8 = .ok (.ifCond .eq 14, 3) := by decide +kernel
theorem d_K_axioms_11 : decode b_K_axioms 11 = .ok (.aload_n 0, 1) := by decide +kernel
theorem d_K_axioms_12 : decode b_K_axioms 12 = .ok (.getfield 35, 3) := by decide +kernel
theorem d_K_axioms_15 : decode b_K_axioms 15 = .ok (.iload_n 1, 1) := by decide +kernel
theorem d_K_axioms_16 : decode b_K_axioms 16 = .ok (.invokevirtual 158, 3) := by decide +kernel
theorem d_K_axioms_19 : decode b_K_axioms 19 = .ok (.goto 6, 3) := by decide +kernel
theorem d_K_axioms_22 : decode b_K_axioms 22 = .ok (.ldc2_w 156, 3) := by decide +kernel
theorem d_K_axioms_25 : decode b_K_axioms 25 = .ok (.lreturn, 1) := by decide +kernel
theorem d_K_steps_0 : decode b_K_steps 0 = .ok (.aload_n 0, 1) := by decide +kernel
theorem d_K_steps_1 : decode b_K_steps 1 = .ok (.getfield 35, 3) := by decide +kernel
theorem d_K_steps_4 : decode b_K_steps 4 = .ok (.iload_n 1, 1) := by decide +kernel
theorem d_K_steps_5 : decode b_K_steps 5 = .ok (.invokevirtual 148, 3) := by decide +kernel
theorem d_K_steps_8 : decode b_K_steps 8 = .ok (.ifCond .eq 14, 3) := by decide +kernel
theorem d_K_steps_11 : decode b_K_steps 11 = .ok (.aload_n 0, 1) := by decide +kernel
theorem d_K_steps_12 : decode b_K_steps 12 = .ok (.getfield 35, 3) := by decide +kernel
theorem d_K_steps_15 : decode b_K_steps 15 = .ok (.iload_n 1, 1) := by decide +kernel
theorem d_K_steps_16 : decode b_K_steps 16 = .ok (.invokevirtual 161, 3) := by decide +kernel
theorem d_K_steps_19 : decode b_K_steps 19 = .ok (.goto 4, 3) := by decide +kernel
theorem d_K_steps_22 : decode b_K_steps 22 = .ok (.iconst (-1), 1) := by decide +kernel
theorem d_K_steps_23 : decode b_K_steps 23 = .ok (.ireturn, 1) := by decide +kernel
theorem d_K_typeAt_0 : decode b_K_typeAt 0 = .ok (.aload_n 0, 1) := by decide +kernel
theorem d_K_typeAt_1 : decode b_K_typeAt 1 = .ok (.getfield 19, 3) := by decide +kernel
theorem d_K_typeAt_4 : decode b_K_typeAt 4 = .ok (.iload_n 1, 1) := by decide +kernel
theorem d_K_typeAt_5 : decode b_K_typeAt 5 = .ok (.invokevirtual 90, 3) := by decide +kernel
theorem d_K_typeAt_8 : decode b_K_typeAt 8 = .ok (.invokestatic 164, 3) := by decide +kernel
theorem d_K_typeAt_11 : decode b_K_typeAt 11 = .ok (.ireturn, 1) := by decide +kernel
theorem d_K_isA_0 : decode b_K_isA 0 = .ok (.aload_n 0, 1) := by decide +kernel
theorem d_K_isA_1 : decode b_K_isA 1 = .ok (.getfield 19, 3) := by decide +kernel
theorem d_K_isA_4 : decode b_K_isA 4 = .ok (.iload_n 2, 1) := by decide +kernel
theorem d_K_isA_5 : decode b_K_isA 5 = .ok (.invokevirtual 90, 3) := by decide +kernel
theorem d_K_isA_8 : decode b_K_isA 8 = .ok (.invokestatic 167, 3) := by decide +kernel
theorem d_K_isA_11 : decode b_K_isA 11 = .ok (.iload_n 1, 1) := by decide +kernel
theorem d_K_isA_12 : decode b_K_isA 12 = .ok (.if_icmp .ne 7, 3) := by decide +kernel
theorem d_K_isA_15 : decode b_K_isA 15 = .ok (.iconst 1, 1) := by decide +kernel
theorem d_K_isA_16 : decode b_K_isA 16 = .ok (.goto 4, 3) := by decide +kernel
theorem d_K_isA_19 : decode b_K_isA 19 = .ok (.iconst 0, 1) := by decide +kernel
theorem d_K_isA_20 : decode b_K_isA 20 = .ok (.ireturn, 1) := by decide +kernel
theorem d_K_declaredType_0 : decode b_K_declaredType 0 = .ok (.iconst 0, 1) := by decide +kernel
theorem d_K_declaredType_1 : decode b_K_declaredType 1 = .ok (.istore_n 2, 1) := by decide +kernel
theorem d_K_declaredType_2 : decode b_K_declaredType 2 = .ok (.iload_n 2, 1) := by decide +kernel
theorem d_K_declaredType_3 : decode b_K_declaredType 3 = .ok (.aload_n 0, 1) := by decide +kernel
theorem d_K_declaredType_4 : decode b_K_declaredType 4 = .ok (.getfield 19, 3) := by decide +kernel
theorem d_K_declaredType_7 : decode b_K_declaredType 7 = .ok (.invokevirtual 131, 3) := by decide +kernel
theorem d_K_declaredType_10 : decode b_K_declaredType 10 = .ok (.if_icmp .ge 46, 3) := by decide +kernel
theorem d_K_declaredType_13 : decode b_K_declaredType 13 = .ok (.aload_n 0, 1) := by decide +kernel
theorem d_K_declaredType_14 : decode b_K_declaredType 14 = .ok (.getfield 19, 3) := by decide +kernel
theorem d_K_declaredType_17 : decode b_K_declaredType 17 = .ok (.aload_n 0, 1) := by decide +kernel
theorem d_K_declaredType_18 : decode b_K_declaredType 18 = .ok (.getfield 19, 3) := by decide +kernel
theorem d_K_declaredType_21 : decode b_K_declaredType 21 = .ok (.iload_n 2, 1) := by decide +kernel
theorem d_K_declaredType_22 : decode b_K_declaredType 22 = .ok (.invokevirtual 69, 3) := by decide +kernel
theorem d_K_declaredType_25 : decode b_K_declaredType 25 = .ok (.invokevirtual 90, 3) := by decide +kernel
theorem d_K_declaredType_28 : decode b_K_declaredType 28 = .ok (.istore_n 3, 1) := by decide +kernel
theorem d_K_declaredType_29 : decode b_K_declaredType 29 = .ok (.iload_n 3, 1) := by decide +kernel
theorem d_K_declaredType_30 : decode b_K_declaredType 30 = .ok (.invokestatic 167, 3) := by decide +kernel
theorem d_K_declaredType_33 : decode b_K_declaredType 33 = .ok (.iconst 1, 1) := by decide +kernel
theorem d_K_declaredType_34 : decode b_K_declaredType 34 = .ok (.if_icmp .ne 16, 3) := by decide +kernel
theorem d_K_declaredType_37 : decode b_K_declaredType 37 = .ok (.iload_n 3, 1) := by decide +kernel
theorem d_K_declaredType_38 : decode b_K_declaredType 38 = .ok (.invokestatic 170, 3) := by decide +kernel
theorem d_K_declaredType_41 : decode b_K_declaredType 41 = .ok (.iload_n 1, 1) := by decide +kernel
theorem d_K_declaredType_42 : decode b_K_declaredType 42 = .ok (.if_icmp .ne 8, 3) := by decide +kernel
theorem d_K_declaredType_45 : decode b_K_declaredType 45 = .ok (.iload_n 3, 1) := by decide +kernel
theorem d_K_declaredType_46 : decode b_K_declaredType 46 = .ok (.invokestatic 164, 3) := by decide +kernel
theorem d_K_declaredType_49 : decode b_K_declaredType 49 = .ok (.ireturn, 1) := by decide +kernel
theorem d_K_declaredType_50 : decode b_K_declaredType 50 = .ok (.iinc 2 1, 3) := by decide +kernel
theorem d_K_declaredType_53 : decode b_K_declaredType 53 = .ok (.goto (-51), 3) := by decide +kernel
theorem d_K_declaredType_56 : decode b_K_declaredType 56 = .ok (.iconst (-1), 1) := by decide +kernel
theorem d_K_declaredType_57 : decode b_K_declaredType 57 = .ok (.ireturn, 1) := by decide +kernel
theorem d_K_draftApplication_0 : decode b_K_draftApplication 0 = .ok (.aload_n 0, 1) := by decide +kernel
theorem d_K_draftApplication_1 : decode b_K_draftApplication 1 = .ok (.getfield 28, 3) := by decide +kernel
theorem d_K_draftApplication_4 : decode b_K_draftApplication 4 = .ok (.iconst 5, 1) := by decide +kernel
theorem d_K_draftApplication_5 : decode b_K_draftApplication 5 = .ok (.iconst 0, 1) := by decide +kernel
theorem d_K_draftApplication_6 : decode b_K_draftApplication 6 = .ok (.aload_n 0, 1) := by decide +kernel
theorem d_K_draftApplication_7 : decode b_K_draftApplication 7 = .ok (.getfield 10, 3) := by decide +kernel
theorem d_K_draftApplication_10 : decode b_K_draftApplication 10 = .ok (.aload_n 0, 1) := by decide +kernel
theorem d_K_draftApplication_11 : decode b_K_draftApplication 11 = .ok (.iload_n 1, 1) := by decide +kernel
theorem d_K_draftApplication_12 : decode b_K_draftApplication 12 = .ok (.invokevirtual 72, 3) := by decide +kernel
theorem d_K_draftApplication_15 : decode b_K_draftApplication 15 = .ok (.invokevirtual 173, 3) := by decide +kernel
theorem d_K_draftApplication_18 : decode b_K_draftApplication 18 = .ok (.invokestatic 50, 3) := by decide +kernel
theorem d_K_draftApplication_21 : decode b_K_draftApplication 21 = .ok (.invokevirtual 56, 3) := by decide +kernel
theorem d_K_draftApplication_24 : decode b_K_draftApplication 24 = .ok (.aload_n 0, 1) := by decide +kernel
theorem d_K_draftApplication_25 : decode b_K_draftApplication 25 = .ok (.getfield 28, 3) := by decide +kernel
theorem d_K_draftApplication_28 : decode b_K_draftApplication 28 = .ok (.iload_n 1, 1) := by decide +kernel
theorem d_K_draftApplication_29 : decode b_K_draftApplication 29 = .ok (.invokevirtual 176, 3) := by decide +kernel
theorem d_K_draftApplication_32 : decode b_K_draftApplication 32 = .ok (.aload_n 0, 1) := by decide +kernel
theorem d_K_draftApplication_33 : decode b_K_draftApplication 33 = .ok (.getfield 28, 3) := by decide +kernel
theorem d_K_draftApplication_36 : decode b_K_draftApplication 36 = .ok (.iload_n 2, 1) := by decide +kernel
theorem d_K_draftApplication_37 : decode b_K_draftApplication 37 = .ok (.invokevirtual 176, 3) := by decide +kernel
theorem d_K_draftApplication_40 : decode b_K_draftApplication 40 = .ok (.return_, 1) := by decide +kernel
theorem d_K_draftAbstraction_0 : decode b_K_draftAbstraction 0 = .ok (.aload_n 0, 1) := by decide +kernel
theorem d_K_draftAbstraction_1 : decode b_K_draftAbstraction 1 = .ok (.getfield 10, 3) := by decide +kernel
theorem d_K_draftAbstraction_4 : decode b_K_draftAbstraction 4 = .ok (.aload_n 0, 1) := by decide +kernel
theorem d_K_draftAbstraction_5 : decode b_K_draftAbstraction 5 = .ok (.iload_n 1, 1) := by decide +kernel
theorem d_K_draftAbstraction_6 : decode b_K_draftAbstraction 6 = .ok (.invokevirtual 72, 3) := by decide +kernel
theorem d_K_draftAbstraction_9 : decode b_K_draftAbstraction 9 = .ok (.aload_n 0, 1) := by decide +kernel
theorem d_K_draftAbstraction_10 : decode b_K_draftAbstraction 10 = .ok (.iload_n 2, 1) := by decide +kernel
theorem d_K_draftAbstraction_11 : decode b_K_draftAbstraction 11 = .ok (.invokevirtual 72, 3) := by decide +kernel
theorem d_K_draftAbstraction_14 : decode b_K_draftAbstraction 14 = .ok (.invokevirtual 43, 3) := by decide +kernel
theorem d_K_draftAbstraction_17 : decode b_K_draftAbstraction 17 = .ok (.istore_n 3, 1) := by decide +kernel
theorem d_K_draftAbstraction_18 : decode b_K_draftAbstraction 18 = .ok (.iload_n 3, 1) := by decide +kernel
theorem d_K_draftAbstraction_19 : decode b_K_draftAbstraction 19 = .ok (.bipush (-4), 2) := by decide +kernel
theorem d_K_draftAbstraction_21 : decode b_K_draftAbstraction 21 = .ok (.if_icmp .ne 13, 3) := by decide +kernel
theorem d_K_draftAbstraction_24 : decode b_K_draftAbstraction 24 = .ok (.aload_n 0, 1) := by decide +kernel
theorem d_K_draftAbstraction_25 : decode b_K_draftAbstraction 25 = .ok (.getfield 28, 3) := by decide +kernel
theorem d_K_draftAbstraction_28 : decode b_K_draftAbstraction 28 = .ok (.invokevirtual 179, 3) := by decide +kernel
theorem d_K_draftAbstraction_31 : decode b_K_draftAbstraction 31 = .ok (.goto 21, 3) := by decide +kernel
theorem d_K_draftAbstraction_34 : decode b_K_draftAbstraction 34 = .ok (.aload_n 0, 1) := by decide +kernel
theorem d_K_draftAbstraction_35 : decode b_K_draftAbstraction 35 = .ok (.getfield 28, 3) := by decide +kernel
theorem d_K_draftAbstraction_38 : decode b_K_draftAbstraction 38 = .ok (.iconst 3, 1) := by decide +kernel
theorem d_K_draftAbstraction_39 : decode b_K_draftAbstraction 39 = .ok (.iload_n 3, 1) := by decide +kernel
theorem d_K_draftAbstraction_40 : decode b_K_draftAbstraction 40 = .ok (.aload_n 0, 1) := by decide +kernel
theorem d_K_draftAbstraction_41 : decode b_K_draftAbstraction 41 = .ok (.getfield 19, 3) := by decide +kernel
theorem d_K_draftAbstraction_44 : decode b_K_draftAbstraction 44 = .ok (.iload_n 1, 1) := by decide +kernel
theorem d_K_draftAbstraction_45 : decode b_K_draftAbstraction 45 = .ok (.invokevirtual 90, 3) := by decide +kernel
theorem d_K_draftAbstraction_48 : decode b_K_draftAbstraction 48 = .ok (.iload_n 2, 1) := by decide +kernel
theorem d_K_draftAbstraction_49 : decode b_K_draftAbstraction 49 = .ok (.invokevirtual 93, 3) := by decide +kernel
theorem d_K_draftAbstraction_52 : decode b_K_draftAbstraction 52 = .ok (.return_, 1) := by decide +kernel
theorem d_K_draftJoint_0 : decode b_K_draftJoint 0 = .ok (.aload_n 0, 1) := by decide +kernel
theorem d_K_draftJoint_1 : decode b_K_draftJoint 1 = .ok (.getfield 28, 3) := by decide +kernel
theorem d_K_draftJoint_4 : decode b_K_draftJoint 4 = .ok (.iload_n 1, 1) := by decide +kernel
theorem d_K_draftJoint_5 : decode b_K_draftJoint 5 = .ok (.iconst 0, 1) := by decide +kernel
theorem d_K_draftJoint_6 : decode b_K_draftJoint 6 = .ok (.iconst 0, 1) := by decide +kernel
theorem d_K_draftJoint_7 : decode b_K_draftJoint 7 = .ok (.invokestatic 50, 3) := by decide +kernel
theorem d_K_draftJoint_10 : decode b_K_draftJoint 10 = .ok (.invokevirtual 56, 3) := by decide +kernel
theorem d_K_draftJoint_13 : decode b_K_draftJoint 13 = .ok (.aload_n 0, 1) := by decide +kernel
theorem d_K_draftJoint_14 : decode b_K_draftJoint 14 = .ok (.getfield 28, 3) := by decide +kernel
theorem d_K_draftJoint_17 : decode b_K_draftJoint 17 = .ok (.iload_n 2, 1) := by decide +kernel
theorem d_K_draftJoint_18 : decode b_K_draftJoint 18 = .ok (.invokevirtual 176, 3) := by decide +kernel
theorem d_K_draftJoint_21 : decode b_K_draftJoint 21 = .ok (.aload_n 0, 1) := by decide +kernel
theorem d_K_draftJoint_22 : decode b_K_draftJoint 22 = .ok (.getfield 28, 3) := by decide +kernel
theorem d_K_draftJoint_25 : decode b_K_draftJoint 25 = .ok (.iload_n 3, 1) := by decide +kernel
theorem d_K_draftJoint_26 : decode b_K_draftJoint 26 = .ok (.invokevirtual 176, 3) := by decide +kernel
theorem d_K_draftJoint_29 : decode b_K_draftJoint 29 = .ok (.return_, 1) := by decide +kernel
theorem d_K_isThere_0 : decode b_K_isThere 0 = .ok (.iload_n 1, 1) := by decide +kernel
theorem d_K_isThere_1 : decode b_K_isThere 1 = .ok (.tableswitch 83 1 3 #[27, 36, 45], 27) := by decide +kernel
theorem d_K_isThere_28 : decode b_K_isThere 28 = .ok (.aload_n 0, 1) := by decide +kernel
theorem d_K_isThere_29 : decode b_K_isThere 29 = .ok (.getfield 19, 3) := by decide +kernel
theorem d_K_isThere_32 : decode b_K_isThere 32 = .ok (.iload_n 2, 1) := by decide +kernel
theorem d_K_isThere_33 : decode b_K_isThere 33 = .ok (.invokevirtual 68, 3) := by decide +kernel
theorem d_K_isThere_36 : decode b_K_isThere 36 = .ok (.ireturn, 1) := by decide +kernel
theorem d_K_isThere_37 : decode b_K_isThere 37 = .ok (.aload_n 0, 1) := by decide +kernel
theorem d_K_isThere_38 : decode b_K_isThere 38 = .ok (.getfield 35, 3) := by decide +kernel
theorem d_K_isThere_41 : decode b_K_isThere 41 = .ok (.iload_n 2, 1) := by decide +kernel
theorem d_K_isThere_42 : decode b_K_isThere 42 = .ok (.invokevirtual 148, 3) := by decide +kernel
theorem d_K_isThere_45 : decode b_K_isThere 45 = .ok (.ireturn, 1) := by decide +kernel
theorem d_K_isThere_46 : decode b_K_isThere 46 = .ok (.iload_n 2, 1) := by decide +kernel
theorem d_K_isThere_47 : decode b_K_isThere 47 = .ok (.ifCond .lt 35, 3) := by decide +kernel
theorem d_K_isThere_50 : decode b_K_isThere 50 = .ok (.aload_n 0, 1) := by decide +kernel
theorem d_K_isThere_51 : decode b_K_isThere 51 = .ok (.getfield 19, 3) := by decide +kernel
theorem d_K_isThere_54 : decode b_K_isThere 54 = .ok (.iload_n 2, 1) := by decide +kernel
theorem d_K_isThere_55 : decode b_K_isThere 55 = .ok (.bipush 64, 2) := by decide +kernel
theorem d_K_isThere_57 : decode b_K_isThere 57 = .ok (.idiv, 1) := by decide +kernel
theorem d_K_isThere_58 : decode b_K_isThere 58 = .ok (.invokevirtual 68, 3) := by decide +kernel
theorem d_K_isThere_61 : decode b_K_isThere 61 = .ok (.ifCond .eq 21, 3) := by decide +kernel
theorem d_K_isThere_64 : decode b_K_isThere 64 = .ok (.aload_n 0, 1) := by decide +kernel
theorem d_K_isThere_65 : decode b_K_isThere 65 = .ok (.getfield 19, 3) := by decide +kernel
theorem d_K_isThere_68 : decode b_K_isThere 68 = .ok (.iload_n 2, 1) := by decide +kernel
theorem d_K_isThere_69 : decode b_K_isThere 69 = .ok (.bipush 64, 2) := by decide +kernel
theorem d_K_isThere_71 : decode b_K_isThere 71 = .ok (.irem, 1) := by decide +kernel
theorem d_K_isThere_72 : decode b_K_isThere 72 = .ok (.invokevirtual 68, 3) := by decide +kernel
theorem d_K_isThere_75 : decode b_K_isThere 75 = .ok (.ifCond .eq 7, 3) := by decide +kernel
theorem d_K_isThere_78 : decode b_K_isThere 78 = .ok (.iconst 1, 1) := by decide +kernel
theorem d_K_isThere_79 : decode b_K_isThere 79 = .ok (.goto 4, 3) := by decide +kernel
theorem d_K_isThere_82 : decode b_K_isThere 82 = .ok (.iconst 0, 1) := by decide +kernel
theorem d_K_isThere_83 : decode b_K_isThere 83 = .ok (.ireturn, 1) := by decide +kernel
theorem d_K_isThere_84 : decode b_K_isThere 84 = .ok (.iconst 1, 1) := by decide +kernel
theorem d_K_isThere_85 : decode b_K_isThere 85 = .ok (.ireturn, 1) := by decide +kernel
theorem d_K_startOf_0 : decode b_K_startOf 0 = .ok (.iload_n 1, 1) := by decide +kernel
theorem d_K_startOf_1 : decode b_K_startOf 1 = .ok (.tableswitch 64 1 3 #[27, 36, 52], 27) := by decide +kernel
theorem d_K_startOf_28 : decode b_K_startOf 28 = .ok (.aload_n 0, 1) := by decide +kernel
theorem d_K_startOf_29 : decode b_K_startOf 29 = .ok (.getfield 19, 3) := by decide +kernel
theorem d_K_startOf_32 : decode b_K_startOf 32 = .ok (.iload_n 2, 1) := by decide +kernel
theorem d_K_startOf_33 : decode b_K_startOf 33 = .ok (.invokevirtual 69, 3) := by decide +kernel
theorem d_K_startOf_36 : decode b_K_startOf 36 = .ok (.ireturn, 1) := by decide +kernel
theorem d_K_startOf_37 : decode b_K_startOf 37 = .ok (.aload_n 0, 1) := by decide +kernel
theorem d_K_startOf_38 : decode b_K_startOf 38 = .ok (.getfield 19, 3) := by decide +kernel
theorem d_K_startOf_41 : decode b_K_startOf 41 = .ok (.aload_n 0, 1) := by decide +kernel
theorem d_K_startOf_42 : decode b_K_startOf 42 = .ok (.getfield 35, 3) := by decide +kernel
theorem d_K_startOf_45 : decode b_K_startOf 45 = .ok (.iload_n 2, 1) := by decide +kernel
theorem d_K_startOf_46 : decode b_K_startOf 46 = .ok (.invokevirtual 149, 3) := by decide +kernel
theorem d_K_startOf_49 : decode b_K_startOf 49 = .ok (.invokevirtual 69, 3) := by decide +kernel
theorem d_K_startOf_52 : decode b_K_startOf 52 = .ok (.ireturn, 1) := by decide +kernel
theorem d_K_startOf_53 : decode b_K_startOf 53 = .ok (.aload_n 0, 1) := by decide +kernel
theorem d_K_startOf_54 : decode b_K_startOf 54 = .ok (.getfield 19, 3) := by decide +kernel
theorem d_K_startOf_57 : decode b_K_startOf 57 = .ok (.iload_n 2, 1) := by decide +kernel
theorem d_K_startOf_58 : decode b_K_startOf 58 = .ok (.bipush 64, 2) := by decide +kernel
theorem d_K_startOf_60 : decode b_K_startOf 60 = .ok (.idiv, 1) := by decide +kernel
theorem d_K_startOf_61 : decode b_K_startOf 61 = .ok (.invokevirtual 69, 3) := by decide +kernel
theorem d_K_startOf_64 : decode b_K_startOf 64 = .ok (.ireturn, 1) := by decide +kernel
theorem d_K_startOf_65 : decode b_K_startOf 65 = .ok (.iconst 0, 1) := by decide +kernel
theorem d_K_startOf_66 : decode b_K_startOf 66 = .ok (.ireturn, 1) := by decide +kernel
theorem d_K_isAsTheRuleSays_0 : decode b_K_isAsTheRuleSays 0 = .ok (.aload_n 0, 1) := by decide +kernel
theorem d_K_isAsTheRuleSays_1 : decode b_K_isAsTheRuleSays 1 = .ok (.getstatic 107, 3) := by decide +kernel
theorem d_K_isAsTheRuleSays_4 : decode b_K_isAsTheRuleSays 4 = .ok (.iload_n 1, 1) := by decide +kernel
theorem d_K_isAsTheRuleSays_5 : decode b_K_isAsTheRuleSays 5 = .ok (.iaload, 1) := by decide +kernel
theorem d_K_isAsTheRuleSays_6 : decode b_K_isAsTheRuleSays 6 = .ok (.iload_n 2, 1) := by decide +kernel
theorem d_K_isAsTheRuleSays_7 : decode b_K_isAsTheRuleSays 7 = .ok (.invokevirtual 182, 3) := by decide +kernel
theorem d_K_isAsTheRuleSays_10 : decode b_K_isAsTheRuleSays 10 = .ok (.istore 4, 2) := by decide +kernel
theorem d_K_isAsTheRuleSays_12 : decode b_K_isAsTheRuleSays 12 = .ok (.aload_n 0, 1) := by decide +kernel
theorem d_K_isAsTheRuleSays_13 : decode b_K_isAsTheRuleSays 13 = .ok (.getstatic 114, 3) := by decide +kernel
theorem d_K_isAsTheRuleSays_16 : decode b_K_isAsTheRuleSays 16 = .ok (.iload_n 1, 1) := by decide +kernel
theorem d_K_isAsTheRuleSays_17 : decode b_K_isAsTheRuleSays 17 = .ok (.iaload, 1) := by decide +kernel
theorem d_K_isAsTheRuleSays_18 : decode b_K_isAsTheRuleSays 18 = .ok (.iload_n 3, 1) := by decide +kernel
theorem d_K_isAsTheRuleSays_19 : decode b_K_isAsTheRuleSays 19 = .ok (.invokevirtual 182, 3) := by decide +kernel
theorem d_K_isAsTheRuleSays_22 : decode b_K_isAsTheRuleSays 22 = .ok (.istore 5, 2) := by decide +kernel
theorem d_K_isAsTheRuleSays_24 : decode b_K_isAsTheRuleSays 24 = .ok (.iload_n 1, 1) := by decide +kernel
theorem d_K_isAsTheRuleSays_25 : decode b_K_isAsTheRuleSays 25 = .ok (.tableswitch 451 0 13 #[71, 71, 86, 101, 139, 147, 451, 184, 193, 249, 313, 340, 373, 411], 71) := by decide +kernel
theorem d_K_isAsTheRuleSays_96 : decode b_K_isAsTheRuleSays 96 = .ok (.aload_n 0, 1) := by decide +kernel
theorem d_K_isAsTheRuleSays_97 : decode b_K_isAsTheRuleSays 97 = .ok (.iload 4, 2) := by decide +kernel
theorem d_K_isAsTheRuleSays_99 : decode b_K_isAsTheRuleSays 99 = .ok (.invokevirtual 72, 3) := by decide +kernel
theorem d_K_isAsTheRuleSays_102 : decode b_K_isAsTheRuleSays 102 = .ok (.ifCond .ne 7, 3) := by decide +kernel
theorem d_K_isAsTheRuleSays_105 : decode b_K_isAsTheRuleSays 105 = .ok (.iconst 1, 1) := by decide +kernel
theorem d_K_isAsTheRuleSays_106 : decode b_K_isAsTheRuleSays 106 = .ok (.goto 4, 3) := by decide +kernel
theorem d_K_isAsTheRuleSays_109 : decode b_K_isAsTheRuleSays 109 = .ok (.iconst 0, 1) := by decide +kernel
theorem d_K_isAsTheRuleSays_110 : decode b_K_isAsTheRuleSays 110 = .ok (.ireturn, 1) := by decide +kernel
theorem d_K_isAsTheRuleSays_111 : decode b_K_isAsTheRuleSays 111 = .ok (.aload_n 0, 1) := by decide +kernel
theorem d_K_isAsTheRuleSays_112 : decode b_K_isAsTheRuleSays 112 = .ok (.iload 5, 2) := by decide +kernel
theorem d_K_isAsTheRuleSays_114 : decode b_K_isAsTheRuleSays 114 = .ok (.invokevirtual 72, 3) := by decide +kernel
theorem d_K_isAsTheRuleSays_117 : decode b_K_isAsTheRuleSays 117 = .ok (.ifCond .ne 7, 3) := by decide +kernel
theorem d_K_isAsTheRuleSays_120 : decode b_K_isAsTheRuleSays 120 = .ok (.iconst 1, 1) := by decide +kernel
theorem d_K_isAsTheRuleSays_121 : decode b_K_isAsTheRuleSays 121 = .ok (.goto 4, 3) := by decide +kernel
theorem d_K_isAsTheRuleSays_124 : decode b_K_isAsTheRuleSays 124 = .ok (.iconst 0, 1) := by decide +kernel
theorem d_K_isAsTheRuleSays_125 : decode b_K_isAsTheRuleSays 125 = .ok (.ireturn, 1) := by decide +kernel
theorem d_K_isAsTheRuleSays_126 : decode b_K_isAsTheRuleSays 126 = .ok (.aload_n 0, 1) := by decide +kernel
theorem d_K_isAsTheRuleSays_127 : decode b_K_isAsTheRuleSays 127 = .ok (.bipush 6, 2) := by decide +kernel
theorem d_K_isAsTheRuleSays_129 : decode b_K_isAsTheRuleSays 129 = .ok (.iload 4, 2) := by decide +kernel
theorem d_K_isAsTheRuleSays_131 : decode b_K_isAsTheRuleSays 131 = .ok (.invokevirtual 83, 3) := by decide +kernel
theorem d_K_isAsTheRuleSays_134 : decode b_K_isAsTheRuleSays 134 = .ok (.ifCond .eq 28, 3) := by decide +kernel
theorem d_K_isAsTheRuleSays_137 : decode b_K_isAsTheRuleSays 137 = .ok (.aload_n 0, 1) := by decide +kernel
theorem d_K_isAsTheRuleSays_138 : decode b_K_isAsTheRuleSays 138 = .ok (.getfield 19, 3) := by decide +kernel
theorem d_K_isAsTheRuleSays_141 : decode b_K_isAsTheRuleSays 141 = .ok (.aload_n 0, 1) := by decide +kernel
theorem d_K_isAsTheRuleSays_142 : decode b_K_isAsTheRuleSays 142 = .ok (.getfield 19, 3) := by decide +kernel
theorem d_K_isAsTheRuleSays_145 : decode b_K_isAsTheRuleSays 145 = .ok (.iload 4, 2) := by decide +kernel
theorem d_K_isAsTheRuleSays_147 : decode b_K_isAsTheRuleSays 147 = .ok (.invokevirtual 185, 3) := by decide +kernel
theorem d_K_isAsTheRuleSays_150 : decode b_K_isAsTheRuleSays 150 = .ok (.iload 5, 2) := by decide +kernel
theorem d_K_isAsTheRuleSays_152 : decode b_K_isAsTheRuleSays 152 = .ok (.invokevirtual 188, 3) := by decide +kernel
theorem d_K_isAsTheRuleSays_155 : decode b_K_isAsTheRuleSays 155 = .ok (.ifCond .eq 7, 3) := by decide +kernel
theorem d_K_isAsTheRuleSays_158 : decode b_K_isAsTheRuleSays 158 = .ok (.iconst 1, 1) := by decide +kernel
theorem d_K_isAsTheRuleSays_159 : decode b_K_isAsTheRuleSays 159 = .ok (.goto 4, 3) := by decide +kernel
theorem d_K_isAsTheRuleSays_162 : decode b_K_isAsTheRuleSays 162 = .ok (.iconst 0, 1) := by decide +kernel
theorem d_K_isAsTheRuleSays_163 : decode b_K_isAsTheRuleSays 163 = .ok (.ireturn, 1) := by decide +kernel
theorem d_K_isAsTheRuleSays_164 : decode b_K_isAsTheRuleSays 164 = .ok (.aload_n 0, 1) := by decide +kernel
theorem d_K_isAsTheRuleSays_165 : decode b_K_isAsTheRuleSays 165 = .ok (.iconst 0, 1) := by decide +kernel
theorem d_K_isAsTheRuleSays_166 : decode b_K_isAsTheRuleSays 166 = .ok (.iload 5, 2) := by decide +kernel
theorem d_K_isAsTheRuleSays_168 : decode b_K_isAsTheRuleSays 168 = .ok (.invokevirtual 83, 3) := by decide +kernel
theorem d_K_isAsTheRuleSays_171 : decode b_K_isAsTheRuleSays 171 = .ok (.ireturn, 1) := by decide +kernel
theorem d_K_isAsTheRuleSays_172 : decode b_K_isAsTheRuleSays 172 = .ok (.aload_n 0, 1) := by decide +kernel
theorem d_K_isAsTheRuleSays_173 : decode b_K_isAsTheRuleSays 173 = .ok (.iconst 4, 1) := by decide +kernel
theorem d_K_isAsTheRuleSays_174 : decode b_K_isAsTheRuleSays 174 = .ok (.iload 4, 2) := by decide +kernel
theorem d_K_isAsTheRuleSays_176 : decode b_K_isAsTheRuleSays 176 = .ok (.invokevirtual 83, 3) := by decide +kernel
theorem d_K_isAsTheRuleSays_179 : decode b_K_isAsTheRuleSays 179 = .ok (.ifCond .eq 28, 3) := by decide +kernel
theorem d_K_isAsTheRuleSays_182 : decode b_K_isAsTheRuleSays 182 = .ok (.aload_n 0, 1) := by decide +kernel
theorem d_K_isAsTheRuleSays_183 : decode b_K_isAsTheRuleSays 183 = .ok (.getfield 19, 3) := by decide +kernel
theorem d_K_isAsTheRuleSays_186 : decode b_K_isAsTheRuleSays 186 = .ok (.iload 4, 2) := by decide +kernel
theorem d_K_isAsTheRuleSays_188 : decode b_K_isAsTheRuleSays 188 = .ok (.invokevirtual 90, 3) := by decide +kernel
theorem d_K_isAsTheRuleSays_191 : decode b_K_isAsTheRuleSays 191 = .ok (.invokestatic 170, 3) := by decide +kernel
theorem d_K_isAsTheRuleSays_194 : decode b_K_isAsTheRuleSays 194 = .ok (.aload_n 0, 1) := by decide +kernel
theorem d_K_isAsTheRuleSays_195 : decode b_K_isAsTheRuleSays 195 = .ok (.iload 5, 2) := by decide +kernel
theorem d_K_isAsTheRuleSays_197 : decode b_K_isAsTheRuleSays 197 = .ok (.invokevirtual 72, 3) := by decide +kernel
theorem d_K_isAsTheRuleSays_200 : decode b_K_isAsTheRuleSays 200 = .ok (.if_icmp .ne 7, 3) := by decide +kernel
theorem d_K_isAsTheRuleSays_203 : decode b_K_isAsTheRuleSays 203 = .ok (.iconst 1, 1) := by decide +kernel
theorem d_K_isAsTheRuleSays_204 : decode b_K_isAsTheRuleSays 204 = .ok (.goto 4, 3) := by decide +kernel
theorem d_K_isAsTheRuleSays_207 : decode b_K_isAsTheRuleSays 207 = .ok (.iconst 0, 1) := by decide +kernel
theorem d_K_isAsTheRuleSays_208 : decode b_K_isAsTheRuleSays 208 = .ok (.ireturn, 1) := by decide +kernel
theorem d_K_isAsTheRuleSays_209 : decode b_K_isAsTheRuleSays 209 = .ok (.aload_n 0, 1) := by decide +kernel
theorem d_K_isAsTheRuleSays_210 : decode b_K_isAsTheRuleSays 210 = .ok (.bipush 7, 2) := by decide +kernel
theorem d_K_isAsTheRuleSays_212 : decode b_K_isAsTheRuleSays 212 = .ok (.iload 4, 2) := by decide +kernel
theorem d_K_isAsTheRuleSays_214 : decode b_K_isAsTheRuleSays 214 = .ok (.invokevirtual 83, 3) := by decide +kernel
theorem d_K_isAsTheRuleSays_217 : decode b_K_isAsTheRuleSays 217 = .ok (.ireturn, 1) := by decide +kernel
theorem d_K_isAsTheRuleSays_218 : decode b_K_isAsTheRuleSays 218 = .ok (.aload_n 0, 1) := by decide +kernel
theorem d_K_isAsTheRuleSays_219 : decode b_K_isAsTheRuleSays 219 = .ok (.bipush 7, 2) := by decide +kernel
theorem d_K_isAsTheRuleSays_221 : decode b_K_isAsTheRuleSays 221 = .ok (.iload 4, 2) := by decide +kernel
theorem d_K_isAsTheRuleSays_223 : decode b_K_isAsTheRuleSays 223 = .ok (.invokevirtual 83, 3) := by decide +kernel
theorem d_K_isAsTheRuleSays_226 : decode b_K_isAsTheRuleSays 226 = .ok (.ifCond .eq 46, 3) := by decide +kernel
theorem d_K_isAsTheRuleSays_229 : decode b_K_isAsTheRuleSays 229 = .ok (.aload_n 0, 1) := by decide +kernel
theorem d_K_isAsTheRuleSays_230 : decode b_K_isAsTheRuleSays 230 = .ok (.bipush 7, 2) := by decide +kernel
theorem d_K_isAsTheRuleSays_232 : decode b_K_isAsTheRuleSays 232 = .ok (.iload 5, 2) := by decide +kernel
theorem d_K_isAsTheRuleSays_234 : decode b_K_isAsTheRuleSays 234 = .ok (.invokevirtual 83, 3) := by decide +kernel
theorem d_K_isAsTheRuleSays_237 : decode b_K_isAsTheRuleSays 237 = .ok (.ifCond .eq 35, 3) := by decide +kernel
theorem d_K_isAsTheRuleSays_240 : decode b_K_isAsTheRuleSays 240 = .ok (.aload_n 0, 1) := by decide +kernel
theorem d_K_isAsTheRuleSays_241 : decode b_K_isAsTheRuleSays 241 = .ok (.getfield 19, 3) := by decide +kernel
theorem d_K_isAsTheRuleSays_244 : decode b_K_isAsTheRuleSays 244 = .ok (.aload_n 0, 1) := by decide +kernel
theorem d_K_isAsTheRuleSays_245 : decode b_K_isAsTheRuleSays 245 = .ok (.getfield 19, 3) := by decide +kernel
theorem d_K_isAsTheRuleSays_248 : decode b_K_isAsTheRuleSays 248 = .ok (.iload 4, 2) := by decide +kernel
theorem d_K_isAsTheRuleSays_250 : decode b_K_isAsTheRuleSays 250 = .ok (.invokevirtual 191, 3) := by decide +kernel
theorem d_K_isAsTheRuleSays_253 : decode b_K_isAsTheRuleSays 253 = .ok (.aload_n 0, 1) := by decide +kernel
theorem d_K_isAsTheRuleSays_254 : decode b_K_isAsTheRuleSays 254 = .ok (.getfield 19, 3) := by decide +kernel
theorem d_K_isAsTheRuleSays_257 : decode b_K_isAsTheRuleSays 257 = .ok (.iload 5, 2) := by decide +kernel
theorem d_K_isAsTheRuleSays_259 : decode b_K_isAsTheRuleSays 259 = .ok (.invokevirtual 185, 3) := by decide +kernel
theorem d_K_isAsTheRuleSays_262 : decode b_K_isAsTheRuleSays 262 = .ok (.invokevirtual 188, 3) := by decide +kernel
theorem d_K_isAsTheRuleSays_265 : decode b_K_isAsTheRuleSays 265 = .ok (.ifCond .eq 7, 3) := by decide +kernel
theorem d_K_isAsTheRuleSays_268 : decode b_K_isAsTheRuleSays 268 = .ok (.iconst 1, 1) := by decide +kernel
theorem d_K_isAsTheRuleSays_269 : decode b_K_isAsTheRuleSays 269 = .ok (.goto 4, 3) := by decide +kernel
theorem d_K_isAsTheRuleSays_272 : decode b_K_isAsTheRuleSays 272 = .ok (.iconst 0, 1) := by decide +kernel
theorem d_K_isAsTheRuleSays_273 : decode b_K_isAsTheRuleSays 273 = .ok (.ireturn, 1) := by decide +kernel
theorem d_K_isAsTheRuleSays_274 : decode b_K_isAsTheRuleSays 274 = .ok (.aload_n 0, 1) := by decide +kernel
theorem d_K_isAsTheRuleSays_275 : decode b_K_isAsTheRuleSays 275 = .ok (.bipush 7, 2) := by decide +kernel
theorem d_K_isAsTheRuleSays_277 : decode b_K_isAsTheRuleSays 277 = .ok (.iload 4, 2) := by decide +kernel
theorem d_K_isAsTheRuleSays_279 : decode b_K_isAsTheRuleSays 279 = .ok (.invokevirtual 83, 3) := by decide +kernel
theorem d_K_isAsTheRuleSays_282 : decode b_K_isAsTheRuleSays 282 = .ok (.ifCond .eq 54, 3) := by decide +kernel
theorem d_K_isAsTheRuleSays_285 : decode b_K_isAsTheRuleSays 285 = .ok (.aload_n 0, 1) := by decide +kernel
theorem d_K_isAsTheRuleSays_286 : decode b_K_isAsTheRuleSays 286 = .ok (.bipush 7, 2) := by decide +kernel
theorem d_K_isAsTheRuleSays_288 : decode b_K_isAsTheRuleSays 288 = .ok (.iload 5, 2) := by decide +kernel
theorem d_K_isAsTheRuleSays_290 : decode b_K_isAsTheRuleSays 290 = .ok (.invokevirtual 83, 3) := by decide +kernel
theorem d_K_isAsTheRuleSays_293 : decode b_K_isAsTheRuleSays 293 = .ok (.ifCond .eq 43, 3) := by decide +kernel
theorem d_K_isAsTheRuleSays_296 : decode b_K_isAsTheRuleSays 296 = .ok (.aload_n 0, 1) := by decide +kernel
theorem d_K_isAsTheRuleSays_297 : decode b_K_isAsTheRuleSays 297 = .ok (.getfield 10, 3) := by decide +kernel
theorem d_K_isAsTheRuleSays_300 : decode b_K_isAsTheRuleSays 300 = .ok (.aload_n 0, 1) := by decide +kernel
theorem d_K_isAsTheRuleSays_301 : decode b_K_isAsTheRuleSays 301 = .ok (.aload_n 0, 1) := by decide +kernel
theorem d_K_isAsTheRuleSays_302 : decode b_K_isAsTheRuleSays 302 = .ok (.getfield 19, 3) := by decide +kernel
theorem d_K_isAsTheRuleSays_305 : decode b_K_isAsTheRuleSays 305 = .ok (.iload 4, 2) := by decide +kernel
theorem d_K_isAsTheRuleSays_307 : decode b_K_isAsTheRuleSays 307 = .ok (.invokevirtual 185, 3) := by decide +kernel
theorem d_K_isAsTheRuleSays_310 : decode b_K_isAsTheRuleSays 310 = .ok (.invokevirtual 72, 3) := by decide +kernel
theorem d_K_isAsTheRuleSays_313 : decode b_K_isAsTheRuleSays 313 = .ok (.aload_n 0, 1) := by decide +kernel
theorem d_K_isAsTheRuleSays_314 : decode b_K_isAsTheRuleSays 314 = .ok (.aload_n 0, 1) := by decide +kernel
theorem d_K_isAsTheRuleSays_315 : decode b_K_isAsTheRuleSays 315 = .ok (.getfield 19, 3) := by decide +kernel
theorem d_K_isAsTheRuleSays_318 : decode b_K_isAsTheRuleSays 318 = .ok (.iload 5, 2) := by decide +kernel
theorem d_K_isAsTheRuleSays_320 : decode b_K_isAsTheRuleSays 320 = .ok (.invokevirtual 185, 3) := by decide +kernel
theorem d_K_isAsTheRuleSays_323 : decode b_K_isAsTheRuleSays 323 = .ok (.invokevirtual 72, 3) := by decide +kernel
theorem d_K_isAsTheRuleSays_326 : decode b_K_isAsTheRuleSays 326 = .ok (.invokevirtual 75, 3) := by decide +kernel
theorem d_K_isAsTheRuleSays_329 : decode b_K_isAsTheRuleSays 329 = .ok (.ifCond .eq 7, 3) := by decide +kernel
theorem d_K_isAsTheRuleSays_332 : decode b_K_isAsTheRuleSays 332 = .ok (.iconst 1, 1) := by decide +kernel
theorem d_K_isAsTheRuleSays_333 : decode b_K_isAsTheRuleSays 333 = .ok (.goto 4, 3) := by decide +kernel
theorem d_K_isAsTheRuleSays_336 : decode b_K_isAsTheRuleSays 336 = .ok (.iconst 0, 1) := by decide +kernel
theorem d_K_isAsTheRuleSays_337 : decode b_K_isAsTheRuleSays 337 = .ok (.ireturn, 1) := by decide +kernel
theorem d_K_isAsTheRuleSays_338 : decode b_K_isAsTheRuleSays 338 = .ok (.aload_n 0, 1) := by decide +kernel
theorem d_K_isAsTheRuleSays_339 : decode b_K_isAsTheRuleSays 339 = .ok (.bipush 7, 2) := by decide +kernel
theorem d_K_isAsTheRuleSays_341 : decode b_K_isAsTheRuleSays 341 = .ok (.iload 4, 2) := by decide +kernel
theorem d_K_isAsTheRuleSays_343 : decode b_K_isAsTheRuleSays 343 = .ok (.invokevirtual 83, 3) := by decide +kernel
theorem d_K_isAsTheRuleSays_346 : decode b_K_isAsTheRuleSays 346 = .ok (.ifCond .eq 17, 3) := by decide +kernel
theorem d_K_isAsTheRuleSays_349 : decode b_K_isAsTheRuleSays 349 = .ok (.aload_n 0, 1) := by decide +kernel
theorem d_K_isAsTheRuleSays_350 : decode b_K_isAsTheRuleSays 350 = .ok (.iconst 0, 1) := by decide +kernel
theorem d_K_isAsTheRuleSays_351 : decode b_K_isAsTheRuleSays 351 = .ok (.iload 5, 2) := by decide +kernel
theorem d_K_isAsTheRuleSays_353 : decode b_K_isAsTheRuleSays 353 = .ok (.invokevirtual 83, 3) := by decide +kernel
theorem d_K_isAsTheRuleSays_356 : decode b_K_isAsTheRuleSays 356 = .ok (.ifCond .eq 7, 3) := by decide +kernel
theorem d_K_isAsTheRuleSays_359 : decode b_K_isAsTheRuleSays 359 = .ok (.iconst 1, 1) := by decide +kernel
theorem d_K_isAsTheRuleSays_360 : decode b_K_isAsTheRuleSays 360 = .ok (.goto 4, 3) := by decide +kernel
theorem d_K_isAsTheRuleSays_363 : decode b_K_isAsTheRuleSays 363 = .ok (.iconst 0, 1) := by decide +kernel
theorem d_K_isAsTheRuleSays_364 : decode b_K_isAsTheRuleSays 364 = .ok (.ireturn, 1) := by decide +kernel
theorem d_K_isAsTheRuleSays_365 : decode b_K_isAsTheRuleSays 365 = .ok (.aload_n 0, 1) := by decide +kernel
theorem d_K_isAsTheRuleSays_366 : decode b_K_isAsTheRuleSays 366 = .ok (.iconst 5, 1) := by decide +kernel
theorem d_K_isAsTheRuleSays_367 : decode b_K_isAsTheRuleSays 367 = .ok (.iload 4, 2) := by decide +kernel
theorem d_K_isAsTheRuleSays_369 : decode b_K_isAsTheRuleSays 369 = .ok (.invokevirtual 83, 3) := by decide +kernel
theorem d_K_isAsTheRuleSays_372 : decode b_K_isAsTheRuleSays 372 = .ok (.ifCond .eq 24, 3) := by decide +kernel
theorem d_K_isAsTheRuleSays_375 : decode b_K_isAsTheRuleSays 375 = .ok (.aload_n 0, 1) := by decide +kernel
theorem d_K_isAsTheRuleSays_376 : decode b_K_isAsTheRuleSays 376 = .ok (.iconst 3, 1) := by decide +kernel
theorem d_K_isAsTheRuleSays_377 : decode b_K_isAsTheRuleSays 377 = .ok (.aload_n 0, 1) := by decide +kernel
theorem d_K_isAsTheRuleSays_378 : decode b_K_isAsTheRuleSays 378 = .ok (.getfield 19, 3) := by decide +kernel
theorem d_K_isAsTheRuleSays_381 : decode b_K_isAsTheRuleSays 381 = .ok (.iload 4, 2) := by decide +kernel
theorem d_K_isAsTheRuleSays_383 : decode b_K_isAsTheRuleSays 383 = .ok (.invokevirtual 185, 3) := by decide +kernel
theorem d_K_isAsTheRuleSays_386 : decode b_K_isAsTheRuleSays 386 = .ok (.invokevirtual 83, 3) := by decide +kernel
theorem d_K_isAsTheRuleSays_389 : decode b_K_isAsTheRuleSays 389 = .ok (.ifCond .eq 7, 3) := by decide +kernel
theorem d_K_isAsTheRuleSays_392 : decode b_K_isAsTheRuleSays 392 = .ok (.iconst 1, 1) := by decide +kernel
theorem d_K_isAsTheRuleSays_393 : decode b_K_isAsTheRuleSays 393 = .ok (.goto 4, 3) := by decide +kernel
theorem d_K_isAsTheRuleSays_396 : decode b_K_isAsTheRuleSays 396 = .ok (.iconst 0, 1) := by decide +kernel
theorem d_K_isAsTheRuleSays_397 : decode b_K_isAsTheRuleSays 397 = .ok (.ireturn, 1) := by decide +kernel
theorem d_K_isAsTheRuleSays_398 : decode b_K_isAsTheRuleSays 398 = .ok (.aload_n 0, 1) := by decide +kernel
theorem d_K_isAsTheRuleSays_399 : decode b_K_isAsTheRuleSays 399 = .ok (.bipush 7, 2) := by decide +kernel
theorem d_K_isAsTheRuleSays_401 : decode b_K_isAsTheRuleSays 401 = .ok (.iload 4, 2) := by decide +kernel
theorem d_K_isAsTheRuleSays_403 : decode b_K_isAsTheRuleSays 403 = .ok (.invokevirtual 83, 3) := by decide +kernel
theorem d_K_isAsTheRuleSays_406 : decode b_K_isAsTheRuleSays 406 = .ok (.ifCond .eq 28, 3) := by decide +kernel
theorem d_K_isAsTheRuleSays_409 : decode b_K_isAsTheRuleSays 409 = .ok (.aload_n 0, 1) := by decide +kernel
theorem d_K_isAsTheRuleSays_410 : decode b_K_isAsTheRuleSays 410 = .ok (.getfield 19, 3) := by decide +kernel
theorem d_K_isAsTheRuleSays_413 : decode b_K_isAsTheRuleSays 413 = .ok (.aload_n 0, 1) := by decide +kernel
theorem d_K_isAsTheRuleSays_414 : decode b_K_isAsTheRuleSays 414 = .ok (.getfield 19, 3) := by decide +kernel
theorem d_K_isAsTheRuleSays_417 : decode b_K_isAsTheRuleSays 417 = .ok (.iload 4, 2) := by decide +kernel
theorem d_K_isAsTheRuleSays_419 : decode b_K_isAsTheRuleSays 419 = .ok (.invokevirtual 185, 3) := by decide +kernel
theorem d_K_isAsTheRuleSays_422 : decode b_K_isAsTheRuleSays 422 = .ok (.iload 5, 2) := by decide +kernel
theorem d_K_isAsTheRuleSays_424 : decode b_K_isAsTheRuleSays 424 = .ok (.invokevirtual 188, 3) := by decide +kernel
theorem d_K_isAsTheRuleSays_427 : decode b_K_isAsTheRuleSays 427 = .ok (.ifCond .eq 7, 3) := by decide +kernel
theorem d_K_isAsTheRuleSays_430 : decode b_K_isAsTheRuleSays 430 = .ok (.iconst 1, 1) := by decide +kernel
theorem d_K_isAsTheRuleSays_431 : decode b_K_isAsTheRuleSays 431 = .ok (.goto 4, 3) := by decide +kernel
theorem d_K_isAsTheRuleSays_434 : decode b_K_isAsTheRuleSays 434 = .ok (.iconst 0, 1) := by decide +kernel
theorem d_K_isAsTheRuleSays_435 : decode b_K_isAsTheRuleSays 435 = .ok (.ireturn, 1) := by decide +kernel
theorem d_K_isAsTheRuleSays_436 : decode b_K_isAsTheRuleSays 436 = .ok (.aload_n 0, 1) := by decide +kernel
theorem d_K_isAsTheRuleSays_437 : decode b_K_isAsTheRuleSays 437 = .ok (.iconst 0, 1) := by decide +kernel
theorem d_K_isAsTheRuleSays_438 : decode b_K_isAsTheRuleSays 438 = .ok (.iload 5, 2) := by decide +kernel
theorem d_K_isAsTheRuleSays_440 : decode b_K_isAsTheRuleSays 440 = .ok (.invokevirtual 83, 3) := by decide +kernel
theorem d_K_isAsTheRuleSays_443 : decode b_K_isAsTheRuleSays 443 = .ok (.ifCond .eq 31, 3) := by decide +kernel
theorem d_K_isAsTheRuleSays_446 : decode b_K_isAsTheRuleSays 446 = .ok (.aload_n 0, 1) := by decide +kernel
theorem d_K_isAsTheRuleSays_447 : decode b_K_isAsTheRuleSays 447 = .ok (.iload 5, 2) := by decide +kernel
theorem d_K_isAsTheRuleSays_449 : decode b_K_isAsTheRuleSays 449 = .ok (.invokevirtual 72, 3) := by decide +kernel
theorem d_K_isAsTheRuleSays_452 : decode b_K_isAsTheRuleSays 452 = .ok (.aload_n 0, 1) := by decide +kernel
theorem d_K_isAsTheRuleSays_453 : decode b_K_isAsTheRuleSays 453 = .ok (.aload_n 0, 1) := by decide +kernel
theorem d_K_isAsTheRuleSays_454 : decode b_K_isAsTheRuleSays 454 = .ok (.getfield 19, 3) := by decide +kernel
theorem d_K_isAsTheRuleSays_457 : decode b_K_isAsTheRuleSays 457 = .ok (.iload_n 3, 1) := by decide +kernel
theorem d_K_isAsTheRuleSays_458 : decode b_K_isAsTheRuleSays 458 = .ok (.bipush 64, 2) := by decide +kernel
theorem d_K_isAsTheRuleSays_460 : decode b_K_isAsTheRuleSays 460 = .ok (.irem, 1) := by decide +kernel
theorem d_K_isAsTheRuleSays_461 : decode b_K_isAsTheRuleSays 461 = .ok (.invokevirtual 69, 3) := by decide +kernel
theorem d_K_isAsTheRuleSays_464 : decode b_K_isAsTheRuleSays 464 = .ok (.invokevirtual 72, 3) := by decide +kernel
theorem d_K_isAsTheRuleSays_467 : decode b_K_isAsTheRuleSays 467 = .ok (.if_icmp .ne 7, 3) := by decide +kernel
theorem d_K_isAsTheRuleSays_470 : decode b_K_isAsTheRuleSays 470 = .ok (.iconst 1, 1) := by decide +kernel
theorem d_K_isAsTheRuleSays_471 : decode b_K_isAsTheRuleSays 471 = .ok (.goto 4, 3) := by decide +kernel
theorem d_K_isAsTheRuleSays_474 : decode b_K_isAsTheRuleSays 474 = .ok (.iconst 0, 1) := by decide +kernel
theorem d_K_isAsTheRuleSays_475 : decode b_K_isAsTheRuleSays 475 = .ok (.ireturn, 1) := by decide +kernel
theorem d_K_isAsTheRuleSays_476 : decode b_K_isAsTheRuleSays 476 = .ok (.iconst 1, 1) := by decide +kernel
theorem d_K_isAsTheRuleSays_477 : decode b_K_isAsTheRuleSays 477 = .ok (.ireturn, 1) := by decide +kernel
theorem d_K_bindsWhatIsAssumed_0 : decode b_K_bindsWhatIsAssumed 0 = .ok (.iload_n 1, 1) := by decide +kernel
theorem d_K_bindsWhatIsAssumed_1 : decode b_K_bindsWhatIsAssumed 1 = .ok (.iconst 4, 1) := by decide +kernel
theorem d_K_bindsWhatIsAssumed_2 : decode b_K_bindsWhatIsAssumed 2 = .ok (.if_icmp .eq 11, 3) := by decide +kernel
theorem d_K_bindsWhatIsAssumed_5 : decode b_K_bindsWhatIsAssumed 5 = .ok (.iload_n 1, 1) := by decide +kernel
theorem d_K_bindsWhatIsAssumed_6 : decode b_K_bindsWhatIsAssumed 6 = .ok (.bipush 10, 2) := by decide +kernel
theorem d_K_bindsWhatIsAssumed_8 : decode b_K_bindsWhatIsAssumed 8 = .ok (.if_icmp .eq 5, 3) := by decide +kernel
theorem d_K_bindsWhatIsAssumed_11 : decode b_K_bindsWhatIsAssumed 11 = .ok (.iconst 0, 1) := by decide +kernel
theorem d_K_bindsWhatIsAssumed_12 : decode b_K_bindsWhatIsAssumed 12 = .ok (.ireturn, 1) := by decide +kernel
theorem d_K_bindsWhatIsAssumed_13 : decode b_K_bindsWhatIsAssumed 13 = .ok (.aload_n 0, 1) := by decide +kernel
theorem d_K_bindsWhatIsAssumed_14 : decode b_K_bindsWhatIsAssumed 14 = .ok (.getfield 19, 3) := by decide +kernel
theorem d_K_bindsWhatIsAssumed_17 : decode b_K_bindsWhatIsAssumed 17 = .ok (.aload_n 0, 1) := by decide +kernel
theorem d_K_bindsWhatIsAssumed_18 : decode b_K_bindsWhatIsAssumed 18 = .ok (.getfield 19, 3) := by decide +kernel
theorem d_K_bindsWhatIsAssumed_21 : decode b_K_bindsWhatIsAssumed 21 = .ok (.iload_n 3, 1) := by decide +kernel
theorem d_K_bindsWhatIsAssumed_22 : decode b_K_bindsWhatIsAssumed 22 = .ok (.invokevirtual 69, 3) := by decide +kernel
theorem d_K_bindsWhatIsAssumed_25 : decode b_K_bindsWhatIsAssumed 25 = .ok (.invokevirtual 90, 3) := by decide +kernel
theorem d_K_bindsWhatIsAssumed_28 : decode b_K_bindsWhatIsAssumed 28 = .ok (.istore 4, 2) := by decide +kernel
theorem d_K_bindsWhatIsAssumed_30 : decode b_K_bindsWhatIsAssumed 30 = .ok (.iconst 0, 1) := by decide +kernel
theorem d_K_bindsWhatIsAssumed_31 : decode b_K_bindsWhatIsAssumed 31 = .ok (.istore 5, 2) := by decide +kernel
theorem d_K_bindsWhatIsAssumed_33 : decode b_K_bindsWhatIsAssumed 33 = .ok (.iload 5, 2) := by decide +kernel
theorem d_K_bindsWhatIsAssumed_35 : decode b_K_bindsWhatIsAssumed 35 = .ok (.aload_n 0, 1) := by decide +kernel
theorem d_K_bindsWhatIsAssumed_36 : decode b_K_bindsWhatIsAssumed 36 = .ok (.getfield 19, 3) := by decide +kernel
theorem d_K_bindsWhatIsAssumed_39 : decode b_K_bindsWhatIsAssumed 39 = .ok (.invokevirtual 131, 3) := by decide +kernel
theorem d_K_bindsWhatIsAssumed_42 : decode b_K_bindsWhatIsAssumed 42 = .ok (.if_icmp .ge 41, 3) := by decide +kernel
theorem d_K_bindsWhatIsAssumed_45 : decode b_K_bindsWhatIsAssumed 45 = .ok (.aload_n 0, 1) := by decide +kernel
theorem d_K_bindsWhatIsAssumed_46 : decode b_K_bindsWhatIsAssumed 46 = .ok (.getfield 35, 3) := by decide +kernel
theorem d_K_bindsWhatIsAssumed_49 : decode b_K_bindsWhatIsAssumed 49 = .ok (.iload_n 2, 1) := by decide +kernel
theorem d_K_bindsWhatIsAssumed_50 : decode b_K_bindsWhatIsAssumed 50 = .ok (.invokevirtual 152, 3) := by decide +kernel
theorem d_K_bindsWhatIsAssumed_53 : decode b_K_bindsWhatIsAssumed 53 = .ok (.iload 5, 2) := by decide +kernel
theorem d_K_bindsWhatIsAssumed_55 : decode b_K_bindsWhatIsAssumed 55 = .ok (.invokestatic 194, 3) := by decide +kernel
theorem d_K_bindsWhatIsAssumed_58 : decode b_K_bindsWhatIsAssumed 58 = .ok (.ifCond .eq 19, 3) := by decide +kernel
theorem d_K_bindsWhatIsAssumed_61 : decode b_K_bindsWhatIsAssumed 61 = .ok (.aload_n 0, 1) := by decide +kernel
theorem d_K_bindsWhatIsAssumed_62 : decode b_K_bindsWhatIsAssumed 62 = .ok (.getfield 19, 3) := by decide +kernel
theorem d_K_bindsWhatIsAssumed_65 : decode b_K_bindsWhatIsAssumed 65 = .ok (.iload 5, 2) := by decide +kernel
theorem d_K_bindsWhatIsAssumed_67 : decode b_K_bindsWhatIsAssumed 67 = .ok (.iload 4, 2) := by decide +kernel
theorem d_K_bindsWhatIsAssumed_69 : decode b_K_bindsWhatIsAssumed 69 = .ok (.invokevirtual 136, 3) := by decide +kernel
theorem d_K_bindsWhatIsAssumed_72 : decode b_K_bindsWhatIsAssumed 72 = .ok (.ifCond .eq 5, 3) := by decide +kernel
theorem d_K_bindsWhatIsAssumed_75 : decode b_K_bindsWhatIsAssumed 75 = .ok (.iconst 1, 1) := by decide +kernel
theorem d_K_bindsWhatIsAssumed_76 : decode b_K_bindsWhatIsAssumed 76 = .ok (.ireturn, 1) := by decide +kernel
theorem d_K_bindsWhatIsAssumed_77 : decode b_K_bindsWhatIsAssumed 77 = .ok (.iinc 5 1, 3) := by decide +kernel
theorem d_K_bindsWhatIsAssumed_80 : decode b_K_bindsWhatIsAssumed 80 = .ok (.goto (-47), 3) := by decide +kernel
theorem d_K_bindsWhatIsAssumed_83 : decode b_K_bindsWhatIsAssumed 83 = .ok (.iconst 0, 1) := by decide +kernel
theorem d_K_bindsWhatIsAssumed_84 : decode b_K_bindsWhatIsAssumed 84 = .ok (.ireturn, 1) := by decide +kernel
theorem d_K_derive_0 : decode b_K_derive 0 = .ok (.aload_n 0, 1) := by decide +kernel
theorem d_K_derive_1 : decode b_K_derive 1 = .ok (.getfield 19, 3) := by decide +kernel
theorem d_K_derive_4 : decode b_K_derive 4 = .ok (.invokevirtual 131, 3) := by decide +kernel
theorem d_K_derive_7 : decode b_K_derive 7 = .ok (.istore 4, 2) := by decide +kernel
theorem d_K_derive_9 : decode b_K_derive 9 = .ok (.aload_n 0, 1) := by decide +kernel
theorem d_K_derive_10 : decode b_K_derive 10 = .ok (.getfield 10, 3) := by decide +kernel
theorem d_K_derive_13 : decode b_K_derive 13 = .ok (.invokevirtual 86, 3) := by decide +kernel
theorem d_K_derive_16 : decode b_K_derive 16 = .ok (.istore 5, 2) := by decide +kernel
theorem d_K_derive_18 : decode b_K_derive 18 = .ok (.iload_n 1, 1) := by decide +kernel
theorem d_K_derive_19 : decode b_K_derive 19 = .ok (.bipush 13, 2) := by decide +kernel
theorem d_K_derive_21 : decode b_K_derive 21 = .ok (.if_icmp .ne 12, 3) := by decide +kernel
theorem d_K_derive_24 : decode b_K_derive 24 = .ok (.aload_n 0, 1) := by decide +kernel
theorem d_K_derive_25 : decode b_K_derive 25 = .ok (.iload_n 2, 1) := by decide +kernel
theorem d_K_derive_26 : decode b_K_derive 26 = .ok (.iload_n 3, 1) := by decide +kernel
theorem d_K_derive_27 : decode b_K_derive 27 = .ok (.invokevirtual 198, 3) := by decide +kernel
theorem d_K_derive_30 : decode b_K_derive 30 = .ok (.goto 10, 3) := by decide +kernel
theorem d_K_derive_33 : decode b_K_derive 33 = .ok (.aload_n 0, 1) := by decide +kernel
theorem d_K_derive_34 : decode b_K_derive 34 = .ok (.iload_n 1, 1) := by decide +kernel
theorem d_K_derive_35 : decode b_K_derive 35 = .ok (.iload_n 2, 1) := by decide +kernel
theorem d_K_derive_36 : decode b_K_derive 36 = .ok (.iload_n 3, 1) := by decide +kernel
theorem d_K_derive_37 : decode b_K_derive 37 = .ok (.invokevirtual 202, 3) := by decide +kernel
theorem d_K_derive_40 : decode b_K_derive 40 = .ok (.lstore 6, 2) := by decide +kernel
theorem d_K_derive_42 : decode b_K_derive 42 = .ok (.bipush (-4), 2) := by decide +kernel
theorem d_K_derive_44 : decode b_K_derive 44 = .ok (.istore 8, 2) := by decide +kernel
theorem d_K_derive_46 : decode b_K_derive 46 = .ok (.lload 6, 2) := by decide +kernel
theorem d_K_derive_48 : decode b_K_derive 48 = .ok (.ldc2_w 206, 3) := by decide +kernel
theorem d_K_derive_51 : decode b_K_derive 51 = .ok (.lcmp, 1) := by decide +kernel
theorem d_K_derive_52 : decode b_K_derive 52 = .ok (.ifCond .eq 30, 3) := by decide +kernel
theorem d_K_derive_55 : decode b_K_derive 55 = .ok (.aload_n 0, 1) := by decide +kernel
theorem d_K_derive_56 : decode b_K_derive 56 = .ok (.getfield 28, 3) := by decide +kernel
theorem d_K_derive_59 : decode b_K_derive 59 = .ok (.invokevirtual 47, 3) := by decide +kernel
theorem d_K_derive_62 : decode b_K_derive 62 = .ok (.aload_n 0, 1) := by decide +kernel
theorem d_K_derive_63 : decode b_K_derive 63 = .ok (.iload_n 1, 1) := by decide +kernel
theorem d_K_derive_64 : decode b_K_derive 64 = .ok (.iload_n 2, 1) := by decide +kernel
theorem d_K_derive_65 : decode b_K_derive 65 = .ok (.iload_n 3, 1) := by decide +kernel
theorem d_K_derive_66 : decode b_K_derive 66 = .ok (.invokevirtual 208, 3) := by decide +kernel
theorem d_K_derive_69 : decode b_K_derive 69 = .ok (.aload_n 0, 1) := by decide +kernel
theorem d_K_derive_70 : decode b_K_derive 70 = .ok (.getfield 19, 3) := by decide +kernel
theorem d_K_derive_73 : decode b_K_derive 73 = .ok (.aload_n 0, 1) := by decide +kernel
theorem d_K_derive_74 : decode b_K_derive 74 = .ok (.getfield 28, 3) := by decide +kernel
theorem d_K_derive_77 : decode b_K_derive 77 = .ok (.invokevirtual 60, 3) := by decide +kernel
theorem d_K_derive_80 : decode b_K_derive 80 = .ok (.istore 8, 2) := by decide +kernel
theorem d_K_derive_82 : decode b_K_derive 82 = .ok (.iload 8, 2) := by decide +kernel
theorem d_K_derive_84 : decode b_K_derive 84 = .ok (.bipush (-4), 2) := by decide +kernel
theorem d_K_derive_86 : decode b_K_derive 86 = .ok (.if_icmp .ne 24, 3) := by decide +kernel
theorem d_K_derive_89 : decode b_K_derive 89 = .ok (.aload_n 0, 1) := by decide +kernel
theorem d_K_derive_90 : decode b_K_derive 90 = .ok (.getfield 19, 3) := by decide +kernel
theorem d_K_derive_93 : decode b_K_derive 93 = .ok (.iload 4, 2) := by decide +kernel
theorem d_K_derive_95 : decode b_K_derive 95 = .ok (.invokevirtual 211, 3) := by decide +kernel
theorem d_K_derive_98 : decode b_K_derive 98 = .ok (.aload_n 0, 1) := by decide +kernel
theorem d_K_derive_99 : decode b_K_derive 99 = .ok (.getfield 10, 3) := by decide +kernel
theorem d_K_derive_102 : decode b_K_derive 102 = .ok (.iload 5, 2) := by decide +kernel
theorem d_K_derive_104 : decode b_K_derive 104 = .ok (.invokevirtual 100, 3) := by decide +kernel
theorem d_K_derive_107 : decode b_K_derive 107 = .ok (.bipush (-4), 2) := by decide +kernel
theorem d_K_derive_109 : decode b_K_derive 109 = .ok (.ireturn, 1) := by decide +kernel
theorem d_K_derive_110 : decode b_K_derive 110 = .ok (.aload_n 0, 1) := by decide +kernel
theorem d_K_derive_111 : decode b_K_derive 111 = .ok (.getfield 35, 3) := by decide +kernel
theorem d_K_derive_114 : decode b_K_derive 114 = .ok (.iload_n 1, 1) := by decide +kernel
theorem d_K_derive_115 : decode b_K_derive 115 = .ok (.iload_n 2, 1) := by decide +kernel
theorem d_K_derive_116 : decode b_K_derive 116 = .ok (.iload_n 3, 1) := by decide +kernel
theorem d_K_derive_117 : decode b_K_derive 117 = .ok (.lload 6, 2) := by decide +kernel
theorem d_K_derive_119 : decode b_K_derive 119 = .ok (.iload 8, 2) := by decide +kernel
theorem d_K_derive_121 : decode b_K_derive 121 = .ok (.invokevirtual 212, 3) := by decide +kernel
theorem d_K_derive_124 : decode b_K_derive 124 = .ok (.ireturn, 1) := by decide +kernel
theorem d_K_joinedHypotheses_0 : decode b_K_joinedHypotheses 0 = .ok (.lconst 0, 1) := by decide +kernel
theorem d_K_joinedHypotheses_1 : decode b_K_joinedHypotheses 1 = .ok (.lstore 4, 2) := by decide +kernel
theorem d_K_joinedHypotheses_3 : decode b_K_joinedHypotheses 3 = .ok (.getstatic 107, 3) := by decide +kernel
theorem d_K_joinedHypotheses_6 : decode b_K_joinedHypotheses 6 = .ok (.iload_n 1, 1) := by decide +kernel
theorem d_K_joinedHypotheses_7 : decode b_K_joinedHypotheses 7 = .ok (.iaload, 1) := by decide +kernel
theorem d_K_joinedHypotheses_8 : decode b_K_joinedHypotheses 8 = .ok (.iconst 2, 1) := by decide +kernel
theorem d_K_joinedHypotheses_9 : decode b_K_joinedHypotheses 9 = .ok (.if_icmp .ne 16, 3) := by decide +kernel
theorem d_K_joinedHypotheses_12 : decode b_K_joinedHypotheses 12 = .ok (.lload 4, 2) := by decide +kernel
theorem d_K_joinedHypotheses_14 : decode b_K_joinedHypotheses 14 = .ok (.aload_n 0, 1) := by decide +kernel
theorem d_K_joinedHypotheses_15 : decode b_K_joinedHypotheses 15 = .ok (.getfield 35, 3) := by decide +kernel
theorem d_K_joinedHypotheses_18 : decode b_K_joinedHypotheses 18 = .ok (.iload_n 2, 1) := by decide +kernel
theorem d_K_joinedHypotheses_19 : decode b_K_joinedHypotheses 19 = .ok (.invokevirtual 152, 3) := by decide +kernel
theorem d_K_joinedHypotheses_22 : decode b_K_joinedHypotheses 22 = .ok (.lor, 1) := by decide +kernel
theorem d_K_joinedHypotheses_23 : decode b_K_joinedHypotheses 23 = .ok (.lstore 4, 2) := by decide +kernel
theorem d_K_joinedHypotheses_25 : decode b_K_joinedHypotheses 25 = .ok (.getstatic 114, 3) := by decide +kernel
theorem d_K_joinedHypotheses_28 : decode b_K_joinedHypotheses 28 = .ok (.iload_n 1, 1) := by decide +kernel
theorem d_K_joinedHypotheses_29 : decode b_K_joinedHypotheses 29 = .ok (.iaload, 1) := by decide +kernel
theorem d_K_joinedHypotheses_30 : decode b_K_joinedHypotheses 30 = .ok (.iconst 2, 1) := by decide +kernel
theorem d_K_joinedHypotheses_31 : decode b_K_joinedHypotheses 31 = .ok (.if_icmp .ne 16, 3) := by decide +kernel
theorem d_K_joinedHypotheses_34 : decode b_K_joinedHypotheses 34 = .ok (.lload 4, 2) := by decide +kernel
theorem d_K_joinedHypotheses_36 : decode b_K_joinedHypotheses 36 = .ok (.aload_n 0, 1) := by decide +kernel
theorem d_K_joinedHypotheses_37 : decode b_K_joinedHypotheses 37 = .ok (.getfield 35, 3) := by decide +kernel
theorem d_K_joinedHypotheses_40 : decode b_K_joinedHypotheses 40 = .ok (.iload_n 3, 1) := by decide +kernel
theorem d_K_joinedHypotheses_41 : decode b_K_joinedHypotheses 41 = .ok (.invokevirtual 152, 3) := by decide +kernel
theorem d_K_joinedHypotheses_44 : decode b_K_joinedHypotheses 44 = .ok (.lor, 1) := by decide +kernel
theorem d_K_joinedHypotheses_45 : decode b_K_joinedHypotheses 45 = .ok (.lstore 4, 2) := by decide +kernel
theorem d_K_joinedHypotheses_47 : decode b_K_joinedHypotheses 47 = .ok (.iload_n 1, 1) := by decide +kernel
theorem d_K_joinedHypotheses_48 : decode b_K_joinedHypotheses 48 = .ok (.iconst 1, 1) := by decide +kernel
theorem d_K_joinedHypotheses_49 : decode b_K_joinedHypotheses 49 = .ok (.if_icmp .ne 11, 3) := by decide +kernel
theorem d_K_joinedHypotheses_52 : decode b_K_joinedHypotheses 52 = .ok (.lload 4, 2) := by decide +kernel
theorem d_K_joinedHypotheses_54 : decode b_K_joinedHypotheses 54 = .ok (.lconst 1, 1) := by decide +kernel
theorem d_K_joinedHypotheses_55 : decode b_K_joinedHypotheses 55 = .ok (.iload_n 2, 1) := by decide +kernel
theorem d_K_joinedHypotheses_56 : decode b_K_joinedHypotheses 56 = .ok (.lshl, 1) := by decide +kernel
theorem d_K_joinedHypotheses_57 : decode b_K_joinedHypotheses 57 = .ok (.lor, 1) := by decide +kernel
theorem d_K_joinedHypotheses_58 : decode b_K_joinedHypotheses 58 = .ok (.lstore 4, 2) := by decide +kernel
theorem d_K_joinedHypotheses_60 : decode b_K_joinedHypotheses 60 = .ok (.iload_n 1, 1) := by decide +kernel
theorem d_K_joinedHypotheses_61 : decode b_K_joinedHypotheses 61 = .ok (.iconst 2, 1) := by decide +kernel
theorem d_K_joinedHypotheses_62 : decode b_K_joinedHypotheses 62 = .ok (.if_icmp .ne 15, 3) := by decide +kernel
theorem d_K_joinedHypotheses_65 : decode b_K_joinedHypotheses 65 = .ok (.lload 4, 2) := by decide +kernel
theorem d_K_joinedHypotheses_67 : decode b_K_joinedHypotheses 67 = .ok (.lconst 1, 1) := by decide +kernel
theorem d_K_joinedHypotheses_68 : decode b_K_joinedHypotheses 68 = .ok (.iload_n 3, 1) := by decide +kernel
theorem d_K_joinedHypotheses_69 : decode b_K_joinedHypotheses 69 = .ok (.lshl, 1) := by decide +kernel
theorem d_K_joinedHypotheses_70 : decode b_K_joinedHypotheses 70 = .ok (.ldc2_w 156, 3) := by decide +kernel
theorem d_K_joinedHypotheses_73 : decode b_K_joinedHypotheses 73 = .ok (.lxor, 1) := by decide +kernel
theorem d_K_joinedHypotheses_74 : decode b_K_joinedHypotheses 74 = .ok (.land, 1) := by decide +kernel
theorem d_K_joinedHypotheses_75 : decode b_K_joinedHypotheses 75 = .ok (.lstore 4, 2) := by decide +kernel
theorem d_K_joinedHypotheses_77 : decode b_K_joinedHypotheses 77 = .ok (.lload 4, 2) := by decide +kernel
theorem d_K_joinedHypotheses_79 : decode b_K_joinedHypotheses 79 = .ok (.lreturn, 1) := by decide +kernel
theorem d_K_substitutedHypotheses_0 : decode b_K_substitutedHypotheses 0 = .ok (.aload_n 0, 1) := by decide +kernel
theorem d_K_substitutedHypotheses_1 : decode b_K_substitutedHypotheses 1 = .ok (.getfield 35, 3) := by decide +kernel
theorem d_K_substitutedHypotheses_4 : decode b_K_substitutedHypotheses 4 = .ok (.iload_n 1, 1) := by decide +kernel
theorem d_K_substitutedHypotheses_5 : decode b_K_substitutedHypotheses 5 = .ok (.invokevirtual 152, 3) := by decide +kernel
theorem d_K_substitutedHypotheses_8 : decode b_K_substitutedHypotheses 8 = .ok (.lstore_n 3, 1) := by decide +kernel
theorem d_K_substitutedHypotheses_9 : decode b_K_substitutedHypotheses 9 = .ok (.lconst 0, 1) := by decide +kernel
theorem d_K_substitutedHypotheses_10 : decode b_K_substitutedHypotheses 10 = .ok (.lstore 5, 2) := by decide +kernel
theorem d_K_substitutedHypotheses_12 : decode b_K_substitutedHypotheses 12 = .ok (.iconst 0, 1) := by decide +kernel
theorem d_K_substitutedHypotheses_13 : decode b_K_substitutedHypotheses 13 = .ok (.istore 7, 2) := by decide +kernel
theorem d_K_substitutedHypotheses_15 : decode b_K_substitutedHypotheses 15 = .ok (.iload 7, 2) := by decide +kernel
theorem d_K_substitutedHypotheses_17 : decode b_K_substitutedHypotheses 17 = .ok (.bipush 60, 2) := by decide +kernel
theorem d_K_substitutedHypotheses_19 : decode b_K_substitutedHypotheses 19 = .ok (.if_icmp .ge 72, 3) := by decide +kernel
theorem d_K_substitutedHypotheses_22 : decode b_K_substitutedHypotheses 22 = .ok (.lload_n 3, 1) := by decide +kernel
theorem d_K_substitutedHypotheses_23 : decode b_K_substitutedHypotheses 23 = .ok (.iload 7, 2) := by decide +kernel
theorem d_K_substitutedHypotheses_25 : decode b_K_substitutedHypotheses 25 = .ok (.invokestatic 194, 3) := by decide +kernel
theorem d_K_substitutedHypotheses_28 : decode b_K_substitutedHypotheses 28 = .ok (.ifCond .eq 57, 3) := by decide +kernel
theorem d_K_substitutedHypotheses_31 : decode b_K_substitutedHypotheses 31 = .ok (.aload_n 0, 1) := by decide +kernel
theorem d_K_substitutedHypotheses_32 : decode b_K_substitutedHypotheses 32 = .ok (.getfield 28, 3) := by decide +kernel
theorem d_K_substitutedHypotheses_35 : decode b_K_substitutedHypotheses 35 = .ok (.invokevirtual 47, 3) := by decide +kernel
theorem d_K_substitutedHypotheses_38 : decode b_K_substitutedHypotheses 38 = .ok (.aload_n 0, 1) := by decide +kernel
theorem d_K_substitutedHypotheses_39 : decode b_K_substitutedHypotheses 39 = .ok (.aload_n 0, 1) := by decide +kernel
theorem d_K_substitutedHypotheses_40 : decode b_K_substitutedHypotheses 40 = .ok (.getfield 19, 3) := by decide +kernel
theorem d_K_substitutedHypotheses_43 : decode b_K_substitutedHypotheses 43 = .ok (.iload 7, 2) := by decide +kernel
theorem d_K_substitutedHypotheses_45 : decode b_K_substitutedHypotheses 45 = .ok (.invokevirtual 69, 3) := by decide +kernel
theorem d_K_substitutedHypotheses_48 : decode b_K_substitutedHypotheses 48 = .ok (.iload_n 2, 1) := by decide +kernel
theorem d_K_substitutedHypotheses_49 : decode b_K_substitutedHypotheses 49 = .ok (.invokevirtual 215, 3) := by decide +kernel
theorem d_K_substitutedHypotheses_52 : decode b_K_substitutedHypotheses 52 = .ok (.aload_n 0, 1) := by decide +kernel
theorem d_K_substitutedHypotheses_53 : decode b_K_substitutedHypotheses 53 = .ok (.getfield 19, 3) := by decide +kernel
theorem d_K_substitutedHypotheses_56 : decode b_K_substitutedHypotheses 56 = .ok (.aload_n 0, 1) := by decide +kernel
theorem d_K_substitutedHypotheses_57 : decode b_K_substitutedHypotheses 57 = .ok (.getfield 28, 3) := by decide +kernel
theorem d_K_substitutedHypotheses_60 : decode b_K_substitutedHypotheses 60 = .ok (.invokevirtual 60, 3) := by decide +kernel
theorem d_K_substitutedHypotheses_63 : decode b_K_substitutedHypotheses 63 = .ok (.istore 8, 2) := by decide +kernel
theorem d_K_substitutedHypotheses_65 : decode b_K_substitutedHypotheses 65 = .ok (.iload 8, 2) := by decide +kernel
theorem d_K_substitutedHypotheses_67 : decode b_K_substitutedHypotheses 67 = .ok (.bipush (-4), 2) := by decide +kernel
theorem d_K_substitutedHypotheses_69 : decode b_K_substitutedHypotheses 69 = .ok (.if_icmp .ne 7, 3) := by decide +kernel
theorem d_K_substitutedHypotheses_72 : decode b_K_substitutedHypotheses 72 = .ok (.ldc2_w 206, 3) := by decide +kernel
theorem d_K_substitutedHypotheses_75 : decode b_K_substitutedHypotheses 75 = .ok (.lreturn, 1) := by decide +kernel
theorem d_K_substitutedHypotheses_76 : decode b_K_substitutedHypotheses 76 = .ok (.lload 5, 2) := by decide +kernel
theorem d_K_substitutedHypotheses_78 : decode b_K_substitutedHypotheses 78 = .ok (.lconst 1, 1) := by decide +kernel
theorem d_K_substitutedHypotheses_79 : decode b_K_substitutedHypotheses 79 = .ok (.iload 8, 2) := by decide +kernel
theorem d_K_substitutedHypotheses_81 : decode b_K_substitutedHypotheses 81 = .ok (.lshl, 1) := by decide +kernel
theorem d_K_substitutedHypotheses_82 : decode b_K_substitutedHypotheses 82 = .ok (.lor, 1) := by decide +kernel
theorem d_K_substitutedHypotheses_83 : decode b_K_substitutedHypotheses 83 = .ok (.lstore 5, 2) := by decide +kernel
theorem d_K_substitutedHypotheses_85 : decode b_K_substitutedHypotheses 85 = .ok (.iinc 7 1, 3) := by decide +kernel
theorem d_K_substitutedHypotheses_88 : decode b_K_substitutedHypotheses 88 = .ok (.goto (-73), 3) := by decide +kernel
theorem d_K_substitutedHypotheses_91 : decode b_K_substitutedHypotheses 91 = .ok (.lload 5, 2) := by decide +kernel
theorem d_K_substitutedHypotheses_93 : decode b_K_substitutedHypotheses 93 = .ok (.lreturn, 1) := by decide +kernel
theorem d_K_draftSubstituted_0 : decode b_K_draftSubstituted 0 = .ok (.aload_n 0, 1) := by decide +kernel
theorem d_K_draftSubstituted_1 : decode b_K_draftSubstituted 1 = .ok (.getfield 19, 3) := by decide +kernel
theorem d_K_draftSubstituted_4 : decode b_K_draftSubstituted 4 = .ok (.aload_n 0, 1) := by decide +kernel
theorem d_K_draftSubstituted_5 : decode b_K_draftSubstituted 5 = .ok (.getfield 19, 3) := by decide +kernel
theorem d_K_draftSubstituted_8 : decode b_K_draftSubstituted 8 = .ok (.iload_n 2, 1) := by decide +kernel
theorem d_K_draftSubstituted_9 : decode b_K_draftSubstituted 9 = .ok (.bipush 64, 2) := by decide +kernel
theorem d_K_draftSubstituted_11 : decode b_K_draftSubstituted 11 = .ok (.idiv, 1) := by decide +kernel
theorem d_K_draftSubstituted_12 : decode b_K_draftSubstituted 12 = .ok (.invokevirtual 69, 3) := by decide +kernel
theorem d_K_draftSubstituted_15 : decode b_K_draftSubstituted 15 = .ok (.invokevirtual 90, 3) := by decide +kernel
theorem d_K_draftSubstituted_18 : decode b_K_draftSubstituted 18 = .ok (.istore_n 3, 1) := by decide +kernel
theorem d_K_draftSubstituted_19 : decode b_K_draftSubstituted 19 = .ok (.aload_n 0, 1) := by decide +kernel
theorem d_K_draftSubstituted_20 : decode b_K_draftSubstituted 20 = .ok (.getfield 28, 3) := by decide +kernel
theorem d_K_draftSubstituted_23 : decode b_K_draftSubstituted 23 = .ok (.iload_n 1, 1) := by decide +kernel
theorem d_K_draftSubstituted_24 : decode b_K_draftSubstituted 24 = .ok (.iload_n 3, 1) := by decide +kernel
theorem d_K_draftSubstituted_25 : decode b_K_draftSubstituted 25 = .ok (.aload_n 0, 1) := by decide +kernel
theorem d_K_draftSubstituted_26 : decode b_K_draftSubstituted 26 = .ok (.getfield 19, 3) := by decide +kernel
theorem d_K_draftSubstituted_29 : decode b_K_draftSubstituted 29 = .ok (.iload_n 2, 1) := by decide +kernel
theorem d_K_draftSubstituted_30 : decode b_K_draftSubstituted 30 = .ok (.bipush 64, 2) := by decide +kernel
theorem d_K_draftSubstituted_32 : decode b_K_draftSubstituted 32 = .ok (.irem, 1) := by decide +kernel
theorem d_K_draftSubstituted_33 : decode b_K_draftSubstituted 33 = .ok (.invokevirtual 69, 3) := by decide +kernel
theorem d_K_draftSubstituted_36 : decode b_K_draftSubstituted 36 = .ok (.invokevirtual 218, 3) := by decide +kernel
theorem d_K_draftSubstituted_39 : decode b_K_draftSubstituted 39 = .ok (.return_, 1) := by decide +kernel
theorem d_K_draftConclusion_0 : decode b_K_draftConclusion 0 = .ok (.aload_n 0, 1) := by decide +kernel
theorem d_K_draftConclusion_1 : decode b_K_draftConclusion 1 = .ok (.getstatic 107, 3) := by decide +kernel
theorem d_K_draftConclusion_4 : decode b_K_draftConclusion 4 = .ok (.iload_n 1, 1) := by decide +kernel
theorem d_K_draftConclusion_5 : decode b_K_draftConclusion 5 = .ok (.iaload, 1) := by decide +kernel
theorem d_K_draftConclusion_6 : decode b_K_draftConclusion 6 = .ok (.iload_n 2, 1) := by decide +kernel
theorem d_K_draftConclusion_7 : decode b_K_draftConclusion 7 = .ok (.invokevirtual 182, 3) := by decide +kernel
theorem d_K_draftConclusion_10 : decode b_K_draftConclusion 10 = .ok (.istore 4, 2) := by decide +kernel
theorem d_K_draftConclusion_12 : decode b_K_draftConclusion 12 = .ok (.aload_n 0, 1) := by decide +kernel
theorem d_K_draftConclusion_13 : decode b_K_draftConclusion 13 = .ok (.getstatic 114, 3) := by decide +kernel
theorem d_K_draftConclusion_16 : decode b_K_draftConclusion 16 = .ok (.iload_n 1, 1) := by decide +kernel
theorem d_K_draftConclusion_17 : decode b_K_draftConclusion 17 = .ok (.iaload, 1) := by decide +kernel
theorem d_K_draftConclusion_18 : decode b_K_draftConclusion 18 = .ok (.iload_n 3, 1) := by decide +kernel
theorem d_K_draftConclusion_19 : decode b_K_draftConclusion 19 = .ok (.invokevirtual 182, 3) := by decide +kernel
theorem d_K_draftConclusion_22 : decode b_K_draftConclusion 22 = .ok (.istore 5, 2) := by decide +kernel
theorem d_K_draftConclusion_24 : decode b_K_draftConclusion 24 = .ok (.iload_n 1, 1) := by decide +kernel
theorem d_K_draftConclusion_25 : decode b_K_draftConclusion 25 = .ok (.tableswitch 382 2 13 #[63, 76, 95, 118, 139, 152, 179, 206, 267, 314, 76, 372], 63) := by decide +kernel
theorem d_K_draftConclusion_88 : decode b_K_draftConclusion 88 = .ok (.aload_n 0, 1) := by decide +kernel
theorem d_K_draftConclusion_89 : decode b_K_draftConclusion 89 = .ok (.bipush 6, 2) := by decide +kernel
theorem d_K_draftConclusion_91 : decode b_K_draftConclusion 91 = .ok (.iload 5, 2) := by decide +kernel
theorem d_K_draftConclusion_93 : decode b_K_draftConclusion 93 = .ok (.iload 4, 2) := by decide +kernel
theorem d_K_draftConclusion_95 : decode b_K_draftConclusion 95 = .ok (.invokevirtual 103, 3) := by decide +kernel
theorem d_K_draftConclusion_98 : decode b_K_draftConclusion 98 = .ok (.goto 318, 3) := by decide +kernel
theorem d_K_draftConclusion_101 : decode b_K_draftConclusion 101 = .ok (.aload_n 0, 1) := by decide +kernel
theorem d_K_draftConclusion_102 : decode b_K_draftConclusion 102 = .ok (.getfield 28, 3) := by decide +kernel
theorem d_K_draftConclusion_105 : decode b_K_draftConclusion 105 = .ok (.aload_n 0, 1) := by decide +kernel
theorem d_K_draftConclusion_106 : decode b_K_draftConclusion 106 = .ok (.getfield 19, 3) := by decide +kernel
theorem d_K_draftConclusion_109 : decode b_K_draftConclusion 109 = .ok (.iload 4, 2) := by decide +kernel
theorem d_K_draftConclusion_111 : decode b_K_draftConclusion 111 = .ok (.invokevirtual 191, 3) := by decide +kernel
theorem d_K_draftConclusion_114 : decode b_K_draftConclusion 114 = .ok (.invokevirtual 176, 3) := by decide +kernel
theorem d_K_draftConclusion_117 : decode b_K_draftConclusion 117 = .ok (.goto 299, 3) := by decide +kernel
theorem d_K_draftConclusion_120 : decode b_K_draftConclusion 120 = .ok (.aload_n 0, 1) := by decide +kernel
theorem d_K_draftConclusion_121 : decode b_K_draftConclusion 121 = .ok (.getfield 28, 3) := by decide +kernel
theorem d_K_draftConclusion_124 : decode b_K_draftConclusion 124 = .ok (.iconst 4, 1) := by decide +kernel
theorem d_K_draftConclusion_125 : decode b_K_draftConclusion 125 = .ok (.iconst 0, 1) := by decide +kernel
theorem d_K_draftConclusion_126 : decode b_K_draftConclusion 126 = .ok (.aload_n 0, 1) := by decide +kernel
theorem d_K_draftConclusion_127 : decode b_K_draftConclusion 127 = .ok (.getfield 19, 3) := by decide +kernel
theorem d_K_draftConclusion_130 : decode b_K_draftConclusion 130 = .ok (.iload 5, 2) := by decide +kernel
theorem d_K_draftConclusion_132 : decode b_K_draftConclusion 132 = .ok (.invokevirtual 90, 3) := by decide +kernel
theorem d_K_draftConclusion_135 : decode b_K_draftConclusion 135 = .ok (.iload 4, 2) := by decide +kernel
theorem d_K_draftConclusion_137 : decode b_K_draftConclusion 137 = .ok (.invokevirtual 93, 3) := by decide +kernel
theorem d_K_draftConclusion_140 : decode b_K_draftConclusion 140 = .ok (.goto 276, 3) := by decide +kernel
theorem d_K_draftConclusion_143 : decode b_K_draftConclusion 143 = .ok (.aload_n 0, 1) := by decide +kernel
theorem d_K_draftConclusion_144 : decode b_K_draftConclusion 144 = .ok (.getfield 28, 3) := by decide +kernel
theorem d_K_draftConclusion_147 : decode b_K_draftConclusion 147 = .ok (.aload_n 0, 1) := by decide +kernel
theorem d_K_draftConclusion_148 : decode b_K_draftConclusion 148 = .ok (.getfield 19, 3) := by decide +kernel
theorem d_K_draftConclusion_151 : decode b_K_draftConclusion 151 = .ok (.iload 4, 2) := by decide +kernel
theorem d_K_draftConclusion_153 : decode b_K_draftConclusion 153 = .ok (.invokevirtual 185, 3) := by decide +kernel
theorem d_K_draftConclusion_156 : decode b_K_draftConclusion 156 = .ok (.iload 5, 2) := by decide +kernel
theorem d_K_draftConclusion_158 : decode b_K_draftConclusion 158 = .ok (.invokevirtual 221, 3) := by decide +kernel
theorem d_K_draftConclusion_161 : decode b_K_draftConclusion 161 = .ok (.goto 255, 3) := by decide +kernel
theorem d_K_draftConclusion_164 : decode b_K_draftConclusion 164 = .ok (.aload_n 0, 1) := by decide +kernel
theorem d_K_draftConclusion_165 : decode b_K_draftConclusion 165 = .ok (.bipush 7, 2) := by decide +kernel
theorem d_K_draftConclusion_167 : decode b_K_draftConclusion 167 = .ok (.iload 4, 2) := by decide +kernel
theorem d_K_draftConclusion_169 : decode b_K_draftConclusion 169 = .ok (.iload 4, 2) := by decide +kernel
theorem d_K_draftConclusion_171 : decode b_K_draftConclusion 171 = .ok (.invokevirtual 103, 3) := by decide +kernel
theorem d_K_draftConclusion_174 : decode b_K_draftConclusion 174 = .ok (.goto 242, 3) := by decide +kernel
theorem d_K_draftConclusion_177 : decode b_K_draftConclusion 177 = .ok (.aload_n 0, 1) := by decide +kernel
theorem d_K_draftConclusion_178 : decode b_K_draftConclusion 178 = .ok (.bipush 7, 2) := by decide +kernel
theorem d_K_draftConclusion_180 : decode b_K_draftConclusion 180 = .ok (.aload_n 0, 1) := by decide +kernel
theorem d_K_draftConclusion_181 : decode b_K_draftConclusion 181 = .ok (.getfield 19, 3) := by decide +kernel
theorem d_K_draftConclusion_184 : decode b_K_draftConclusion 184 = .ok (.iload 4, 2) := by decide +kernel
theorem d_K_draftConclusion_186 : decode b_K_draftConclusion 186 = .ok (.invokevirtual 191, 3) := by decide +kernel
theorem d_K_draftConclusion_189 : decode b_K_draftConclusion 189 = .ok (.aload_n 0, 1) := by decide +kernel
theorem d_K_draftConclusion_190 : decode b_K_draftConclusion 190 = .ok (.getfield 19, 3) := by decide +kernel
theorem d_K_draftConclusion_193 : decode b_K_draftConclusion 193 = .ok (.iload 4, 2) := by decide +kernel
theorem d_K_draftConclusion_195 : decode b_K_draftConclusion 195 = .ok (.invokevirtual 185, 3) := by decide +kernel
theorem d_K_draftConclusion_198 : decode b_K_draftConclusion 198 = .ok (.invokevirtual 103, 3) := by decide +kernel
theorem d_K_draftConclusion_201 : decode b_K_draftConclusion 201 = .ok (.goto 215, 3) := by decide +kernel
theorem d_K_draftConclusion_204 : decode b_K_draftConclusion 204 = .ok (.aload_n 0, 1) := by decide +kernel
theorem d_K_draftConclusion_205 : decode b_K_draftConclusion 205 = .ok (.bipush 7, 2) := by decide +kernel
theorem d_K_draftConclusion_207 : decode b_K_draftConclusion 207 = .ok (.aload_n 0, 1) := by decide +kernel
theorem d_K_draftConclusion_208 : decode b_K_draftConclusion 208 = .ok (.getfield 19, 3) := by decide +kernel
theorem d_K_draftConclusion_211 : decode b_K_draftConclusion 211 = .ok (.iload 4, 2) := by decide +kernel
theorem d_K_draftConclusion_213 : decode b_K_draftConclusion 213 = .ok (.invokevirtual 185, 3) := by decide +kernel
theorem d_K_draftConclusion_216 : decode b_K_draftConclusion 216 = .ok (.aload_n 0, 1) := by decide +kernel
theorem d_K_draftConclusion_217 : decode b_K_draftConclusion 217 = .ok (.getfield 19, 3) := by decide +kernel
theorem d_K_draftConclusion_220 : decode b_K_draftConclusion 220 = .ok (.iload 5, 2) := by decide +kernel
theorem d_K_draftConclusion_222 : decode b_K_draftConclusion 222 = .ok (.invokevirtual 191, 3) := by decide +kernel
theorem d_K_draftConclusion_225 : decode b_K_draftConclusion 225 = .ok (.invokevirtual 103, 3) := by decide +kernel
theorem d_K_draftConclusion_228 : decode b_K_draftConclusion 228 = .ok (.goto 188, 3) := by decide +kernel
theorem d_K_draftConclusion_231 : decode b_K_draftConclusion 231 = .ok (.aload_n 0, 1) := by decide +kernel
theorem d_K_draftConclusion_232 : decode b_K_draftConclusion 232 = .ok (.getfield 28, 3) := by decide +kernel
theorem d_K_draftConclusion_235 : decode b_K_draftConclusion 235 = .ok (.bipush 7, 2) := by decide +kernel
theorem d_K_draftConclusion_237 : decode b_K_draftConclusion 237 = .ok (.iconst 0, 1) := by decide +kernel
theorem d_K_draftConclusion_238 : decode b_K_draftConclusion 238 = .ok (.iconst 0, 1) := by decide +kernel
theorem d_K_draftConclusion_239 : decode b_K_draftConclusion 239 = .ok (.invokestatic 50, 3) := by decide +kernel
theorem d_K_draftConclusion_242 : decode b_K_draftConclusion 242 = .ok (.invokevirtual 56, 3) := by decide +kernel
theorem d_K_draftConclusion_245 : decode b_K_draftConclusion 245 = .ok (.aload_n 0, 1) := by decide +kernel
theorem d_K_draftConclusion_246 : decode b_K_draftConclusion 246 = .ok (.aload_n 0, 1) := by decide +kernel
theorem d_K_draftConclusion_247 : decode b_K_draftConclusion 247 = .ok (.getfield 19, 3) := by decide +kernel
theorem d_K_draftConclusion_250 : decode b_K_draftConclusion 250 = .ok (.iload 4, 2) := by decide +kernel
theorem d_K_draftConclusion_252 : decode b_K_draftConclusion 252 = .ok (.invokevirtual 185, 3) := by decide +kernel
theorem d_K_draftConclusion_255 : decode b_K_draftConclusion 255 = .ok (.aload_n 0, 1) := by decide +kernel
theorem d_K_draftConclusion_256 : decode b_K_draftConclusion 256 = .ok (.getfield 19, 3) := by decide +kernel
theorem d_K_draftConclusion_259 : decode b_K_draftConclusion 259 = .ok (.iload 5, 2) := by decide +kernel
theorem d_K_draftConclusion_261 : decode b_K_draftConclusion 261 = .ok (.invokevirtual 185, 3) := by decide +kernel
theorem d_K_draftConclusion_264 : decode b_K_draftConclusion 264 = .ok (.invokevirtual 79, 3) := by decide +kernel
theorem d_K_draftConclusion_267 : decode b_K_draftConclusion 267 = .ok (.aload_n 0, 1) := by decide +kernel
theorem d_K_draftConclusion_268 : decode b_K_draftConclusion 268 = .ok (.aload_n 0, 1) := by decide +kernel
theorem d_K_draftConclusion_269 : decode b_K_draftConclusion 269 = .ok (.getfield 19, 3) := by decide +kernel
theorem d_K_draftConclusion_272 : decode b_K_draftConclusion 272 = .ok (.iload 4, 2) := by decide +kernel
theorem d_K_draftConclusion_274 : decode b_K_draftConclusion 274 = .ok (.invokevirtual 191, 3) := by decide +kernel
theorem d_K_draftConclusion_277 : decode b_K_draftConclusion 277 = .ok (.aload_n 0, 1) := by decide +kernel
theorem d_K_draftConclusion_278 : decode b_K_draftConclusion 278 = .ok (.getfield 19, 3) := by decide +kernel
theorem d_K_draftConclusion_281 : decode b_K_draftConclusion 281 = .ok (.iload 5, 2) := by decide +kernel
theorem d_K_draftConclusion_283 : decode b_K_draftConclusion 283 = .ok (.invokevirtual 191, 3) := by decide +kernel
theorem d_K_draftConclusion_286 : decode b_K_draftConclusion 286 = .ok (.invokevirtual 79, 3) := by decide +kernel
theorem d_K_draftConclusion_289 : decode b_K_draftConclusion 289 = .ok (.goto 127, 3) := by decide +kernel
theorem d_K_draftConclusion_292 : decode b_K_draftConclusion 292 = .ok (.aload_n 0, 1) := by decide +kernel
theorem d_K_draftConclusion_293 : decode b_K_draftConclusion 293 = .ok (.getfield 28, 3) := by decide +kernel
theorem d_K_draftConclusion_296 : decode b_K_draftConclusion 296 = .ok (.bipush 7, 2) := by decide +kernel
theorem d_K_draftConclusion_298 : decode b_K_draftConclusion 298 = .ok (.iconst 0, 1) := by decide +kernel
theorem d_K_draftConclusion_299 : decode b_K_draftConclusion 299 = .ok (.iconst 0, 1) := by decide +kernel
theorem d_K_draftConclusion_300 : decode b_K_draftConclusion 300 = .ok (.invokestatic 50, 3) := by decide +kernel
theorem d_K_draftConclusion_303 : decode b_K_draftConclusion 303 = .ok (.invokevirtual 56, 3) := by decide +kernel
theorem d_K_draftConclusion_306 : decode b_K_draftConclusion 306 = .ok (.aload_n 0, 1) := by decide +kernel
theorem d_K_draftConclusion_307 : decode b_K_draftConclusion 307 = .ok (.iload 5, 2) := by decide +kernel
theorem d_K_draftConclusion_309 : decode b_K_draftConclusion 309 = .ok (.aload_n 0, 1) := by decide +kernel
theorem d_K_draftConclusion_310 : decode b_K_draftConclusion 310 = .ok (.getfield 19, 3) := by decide +kernel
theorem d_K_draftConclusion_313 : decode b_K_draftConclusion 313 = .ok (.iload 4, 2) := by decide +kernel
theorem d_K_draftConclusion_315 : decode b_K_draftConclusion 315 = .ok (.invokevirtual 185, 3) := by decide +kernel
theorem d_K_draftConclusion_318 : decode b_K_draftConclusion 318 = .ok (.invokevirtual 97, 3) := by decide +kernel
theorem d_K_draftConclusion_321 : decode b_K_draftConclusion 321 = .ok (.aload_n 0, 1) := by decide +kernel
theorem d_K_draftConclusion_322 : decode b_K_draftConclusion 322 = .ok (.iload 5, 2) := by decide +kernel
theorem d_K_draftConclusion_324 : decode b_K_draftConclusion 324 = .ok (.aload_n 0, 1) := by decide +kernel
theorem d_K_draftConclusion_325 : decode b_K_draftConclusion 325 = .ok (.getfield 19, 3) := by decide +kernel
theorem d_K_draftConclusion_328 : decode b_K_draftConclusion 328 = .ok (.iload 4, 2) := by decide +kernel
theorem d_K_draftConclusion_330 : decode b_K_draftConclusion 330 = .ok (.invokevirtual 191, 3) := by decide +kernel
theorem d_K_draftConclusion_333 : decode b_K_draftConclusion 333 = .ok (.invokevirtual 97, 3) := by decide +kernel
theorem d_K_draftConclusion_336 : decode b_K_draftConclusion 336 = .ok (.goto 80, 3) := by decide +kernel
theorem d_K_draftConclusion_339 : decode b_K_draftConclusion 339 = .ok (.aload_n 0, 1) := by decide +kernel
theorem d_K_draftConclusion_340 : decode b_K_draftConclusion 340 = .ok (.getfield 28, 3) := by decide +kernel
theorem d_K_draftConclusion_343 : decode b_K_draftConclusion 343 = .ok (.bipush 7, 2) := by decide +kernel
theorem d_K_draftConclusion_345 : decode b_K_draftConclusion 345 = .ok (.iconst 0, 1) := by decide +kernel
theorem d_K_draftConclusion_346 : decode b_K_draftConclusion 346 = .ok (.iconst 0, 1) := by decide +kernel
theorem d_K_draftConclusion_347 : decode b_K_draftConclusion 347 = .ok (.invokestatic 50, 3) := by decide +kernel
theorem d_K_draftConclusion_350 : decode b_K_draftConclusion 350 = .ok (.invokevirtual 56, 3) := by decide +kernel
theorem d_K_draftConclusion_353 : decode b_K_draftConclusion 353 = .ok (.aload_n 0, 1) := by decide +kernel
theorem d_K_draftConclusion_354 : decode b_K_draftConclusion 354 = .ok (.getfield 28, 3) := by decide +kernel
theorem d_K_draftConclusion_357 : decode b_K_draftConclusion 357 = .ok (.iload 4, 2) := by decide +kernel
theorem d_K_draftConclusion_359 : decode b_K_draftConclusion 359 = .ok (.invokevirtual 176, 3) := by decide +kernel
theorem d_K_draftConclusion_362 : decode b_K_draftConclusion 362 = .ok (.aload_n 0, 1) := by decide +kernel
theorem d_K_draftConclusion_363 : decode b_K_draftConclusion 363 = .ok (.getfield 28, 3) := by decide +kernel
theorem d_K_draftConclusion_366 : decode b_K_draftConclusion 366 = .ok (.aload_n 0, 1) := by decide +kernel
theorem d_K_draftConclusion_367 : decode b_K_draftConclusion 367 = .ok (.getfield 19, 3) := by decide +kernel
theorem d_K_draftConclusion_370 : decode b_K_draftConclusion 370 = .ok (.aload_n 0, 1) := by decide +kernel
theorem d_K_draftConclusion_371 : decode b_K_draftConclusion 371 = .ok (.getfield 19, 3) := by decide +kernel
theorem d_K_draftConclusion_374 : decode b_K_draftConclusion 374 = .ok (.iload 4, 2) := by decide +kernel
theorem d_K_draftConclusion_376 : decode b_K_draftConclusion 376 = .ok (.invokevirtual 185, 3) := by decide +kernel
theorem d_K_draftConclusion_379 : decode b_K_draftConclusion 379 = .ok (.invokevirtual 185, 3) := by decide +kernel
theorem d_K_draftConclusion_382 : decode b_K_draftConclusion 382 = .ok (.aload_n 0, 1) := by decide +kernel
theorem d_K_draftConclusion_383 : decode b_K_draftConclusion 383 = .ok (.getfield 19, 3) := by decide +kernel
theorem d_K_draftConclusion_386 : decode b_K_draftConclusion 386 = .ok (.iload 4, 2) := by decide +kernel
theorem d_K_draftConclusion_388 : decode b_K_draftConclusion 388 = .ok (.invokevirtual 191, 3) := by decide +kernel
theorem d_K_draftConclusion_391 : decode b_K_draftConclusion 391 = .ok (.invokevirtual 221, 3) := by decide +kernel
theorem d_K_draftConclusion_394 : decode b_K_draftConclusion 394 = .ok (.goto 22, 3) := by decide +kernel
theorem d_K_draftConclusion_397 : decode b_K_draftConclusion 397 = .ok (.aload_n 0, 1) := by decide +kernel
theorem d_K_draftConclusion_398 : decode b_K_draftConclusion 398 = .ok (.iload 4, 2) := by decide +kernel
theorem d_K_draftConclusion_400 : decode b_K_draftConclusion 400 = .ok (.iload_n 3, 1) := by decide +kernel
theorem d_K_draftConclusion_401 : decode b_K_draftConclusion 401 = .ok (.invokevirtual 215, 3) := by decide +kernel
theorem d_K_draftConclusion_404 : decode b_K_draftConclusion 404 = .ok (.goto 12, 3) := by decide +kernel
theorem d_K_draftConclusion_407 : decode b_K_draftConclusion 407 = .ok (.aload_n 0, 1) := by decide +kernel
theorem d_K_draftConclusion_408 : decode b_K_draftConclusion 408 = .ok (.getfield 28, 3) := by decide +kernel
theorem d_K_draftConclusion_411 : decode b_K_draftConclusion 411 = .ok (.iload 4, 2) := by decide +kernel
theorem d_K_draftConclusion_413 : decode b_K_draftConclusion 413 = .ok (.invokevirtual 176, 3) := by decide +kernel
theorem d_K_draftConclusion_416 : decode b_K_draftConclusion 416 = .ok (.return_, 1) := by decide +kernel
theorem d_K_isIn_0 : decode b_K_isIn 0 = .ok (.lload_n 0, 1) := by decide +kernel
theorem d_K_isIn_1 : decode b_K_isIn 1 = .ok (.iload_n 2, 1) := by decide +kernel
theorem d_K_isIn_2 : decode b_K_isIn 2 = .ok (.lshr, 1) := by decide +kernel
theorem d_K_isIn_3 : decode b_K_isIn 3 = .ok (.lconst 1, 1) := by decide +kernel
theorem d_K_isIn_4 : decode b_K_isIn 4 = .ok (.land, 1) := by decide +kernel
theorem d_K_isIn_5 : decode b_K_isIn 5 = .ok (.lconst 0, 1) := by decide +kernel
theorem d_K_isIn_6 : decode b_K_isIn 6 = .ok (.lcmp, 1) := by decide +kernel
theorem d_K_isIn_7 : decode b_K_isIn 7 = .ok (.ifCond .eq 7, 3) := by decide +kernel
theorem d_K_isIn_10 : decode b_K_isIn 10 = .ok (.iconst 1, 1) := by decide +kernel
theorem d_K_isIn_11 : decode b_K_isIn 11 = .ok (.goto 4, 3) := by decide +kernel
theorem d_K_isIn_14 : decode b_K_isIn 14 = .ok (.iconst 0, 1) := by decide +kernel
theorem d_K_isIn_15 : decode b_K_isIn 15 = .ok (.ireturn, 1) := by decide +kernel
