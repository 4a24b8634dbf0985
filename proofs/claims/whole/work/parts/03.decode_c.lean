theorem d_M_init_0 : decode b_M_init 0 = .ok (.aload_n 0, 1) := by decide +kernel
theorem d_M_init_1 : decode b_M_init 1 = .ok (.invokespecial 1, 3) := by decide +kernel
theorem d_M_init_4 : decode b_M_init 4 = .ok (.aload_n 0, 1) := by decide +kernel
theorem d_M_init_5 : decode b_M_init 5 = .ok (.sipush 3020, 3) := by decide +kernel
theorem d_M_init_8 : decode b_M_init 8 = .ok (.newarray .int, 2) := by decide +kernel
theorem d_M_init_10 : decode b_M_init 10 = .ok (.putfield 7, 3) := by decide +kernel
theorem d_M_init_13 : decode b_M_init 13 = .ok (.aload_n 0, 1) := by decide +kernel
theorem d_M_init_14 : decode b_M_init 14 = .ok (.bipush 60, 2) := by decide +kernel
theorem d_M_init_16 : decode b_M_init 16 = .ok (.newarray .int, 2) := by decide +kernel
theorem d_M_init_18 : decode b_M_init 18 = .ok (.putfield 13, 3) := by decide +kernel
theorem d_M_init_21 : decode b_M_init 21 = .ok (.aload_n 0, 1) := by decide +kernel
theorem d_M_init_22 : decode b_M_init 22 = .ok (.bipush 60, 2) := by decide +kernel
theorem d_M_init_24 : decode b_M_init 24 = .ok (.newarray .int, 2) := by decide +kernel
theorem d_M_init_26 : decode b_M_init 26 = .ok (.putfield 16, 3) := by decide +kernel
theorem d_M_init_29 : decode b_M_init 29 = .ok (.aload_n 0, 1) := by decide +kernel
theorem d_M_init_30 : decode b_M_init 30 = .ok (.bipush 32, 2) := by decide +kernel
theorem d_M_init_32 : decode b_M_init 32 = .ok (.newarray .int, 2) := by decide +kernel
theorem d_M_init_34 : decode b_M_init 34 = .ok (.putfield 19, 3) := by decide +kernel
theorem d_M_init_37 : decode b_M_init 37 = .ok (.aload_n 0, 1) := by decide +kernel
theorem d_M_init_38 : decode b_M_init 38 = .ok (.iconst 3, 1) := by decide +kernel
theorem d_M_init_39 : decode b_M_init 39 = .ok (.putfield 22, 3) := by decide +kernel
theorem d_M_init_42 : decode b_M_init 42 = .ok (.aload_n 0, 1) := by decide +kernel
theorem d_M_init_43 : decode b_M_init 43 = .ok (.bipush 16, 2) := by decide +kernel
theorem d_M_init_45 : decode b_M_init 45 = .ok (.newarray .int, 2) := by decide +kernel
theorem d_M_init_47 : decode b_M_init 47 = .ok (.putfield 26, 3) := by decide +kernel
theorem d_M_init_50 : decode b_M_init 50 = .ok (.aload_n 0, 1) := by decide +kernel
theorem d_M_init_51 : decode b_M_init 51 = .ok (.bipush 16, 2) := by decide +kernel
theorem d_M_init_53 : decode b_M_init 53 = .ok (.newarray .int, 2) := by decide +kernel
theorem d_M_init_55 : decode b_M_init 55 = .ok (.putfield 29, 3) := by decide +kernel
theorem d_M_init_58 : decode b_M_init 58 = .ok (.aload_n 0, 1) := by decide +kernel
theorem d_M_init_59 : decode b_M_init 59 = .ok (.iconst 4, 1) := by decide +kernel
theorem d_M_init_60 : decode b_M_init 60 = .ok (.newarray .int, 2) := by decide +kernel
theorem d_M_init_62 : decode b_M_init 62 = .ok (.putfield 32, 3) := by decide +kernel
theorem d_M_init_65 : decode b_M_init 65 = .ok (.aload_n 0, 1) := by decide +kernel
theorem d_M_init_66 : decode b_M_init 66 = .ok (.bipush 40, 2) := by decide +kernel
theorem d_M_init_68 : decode b_M_init 68 = .ok (.newarray .long, 2) := by decide +kernel
theorem d_M_init_70 : decode b_M_init 70 = .ok (.putfield 35, 3) := by decide +kernel
theorem d_M_init_73 : decode b_M_init 73 = .ok (.aload_n 0, 1) := by decide +kernel
theorem d_M_init_74 : decode b_M_init 74 = .ok (.bipush 40, 2) := by decide +kernel
theorem d_M_init_76 : decode b_M_init 76 = .ok (.newarray .int, 2) := by decide +kernel
theorem d_M_init_78 : decode b_M_init 78 = .ok (.putfield 39, 3) := by decide +kernel
theorem d_M_init_81 : decode b_M_init 81 = .ok (.aload_n 0, 1) := by decide +kernel
theorem d_M_init_82 : decode b_M_init 82 = .ok (.bipush 40, 2) := by decide +kernel
theorem d_M_init_84 : decode b_M_init 84 = .ok (.newarray .long, 2) := by decide +kernel
theorem d_M_init_86 : decode b_M_init 86 = .ok (.putfield 42, 3) := by decide +kernel
theorem d_M_init_89 : decode b_M_init 89 = .ok (.aload_n 0, 1) := by decide +kernel
theorem d_M_init_90 : decode b_M_init 90 = .ok (.bipush 40, 2) := by decide +kernel
theorem d_M_init_92 : decode b_M_init 92 = .ok (.newarray .int, 2) := by decide +kernel
theorem d_M_init_94 : decode b_M_init 94 = .ok (.putfield 45, 3) := by decide +kernel
theorem d_M_init_97 : decode b_M_init 97 = .ok (.aload_n 0, 1) := by decide +kernel
theorem d_M_init_98 : decode b_M_init 98 = .ok (.bipush 64, 2) := by decide +kernel
theorem d_M_init_100 : decode b_M_init 100 = .ok (.newarray .int, 2) := by decide +kernel
theorem d_M_init_102 : decode b_M_init 102 = .ok (.putfield 48, 3) := by decide +kernel
theorem d_M_init_105 : decode b_M_init 105 = .ok (.return_, 1) := by decide +kernel
theorem d_M_parts_0 : decode b_M_parts 0 = .ok (.iload_n 0, 1) := by decide +kernel
theorem d_M_parts_1 : decode b_M_parts 1 = .ok (.iconst 3, 1) := by decide +kernel
theorem d_M_parts_2 : decode b_M_parts 2 = .ok (.if_icmp .gt 7, 3) := by decide +kernel
theorem d_M_parts_5 : decode b_M_parts 5 = .ok (.iconst 2, 1) := by decide +kernel
theorem d_M_parts_6 : decode b_M_parts 6 = .ok (.goto 14, 3) := by decide +kernel
theorem d_M_parts_9 : decode b_M_parts 9 = .ok (.iload_n 0, 1) := by decide +kernel
theorem d_M_parts_10 : decode b_M_parts 10 = .ok (.bipush 64, 2) := by decide +kernel
theorem d_M_parts_12 : decode b_M_parts 12 = .ok (.if_icmp .ge 7, 3) := by decide +kernel
theorem d_M_parts_15 : decode b_M_parts 15 = .ok (.iconst 1, 1) := by decide +kernel
theorem d_M_parts_16 : decode b_M_parts 16 = .ok (.goto 4, 3) := by decide +kernel
theorem d_M_parts_19 : decode b_M_parts 19 = .ok (.iconst 0, 1) := by decide +kernel
theorem d_M_parts_20 : decode b_M_parts 20 = .ok (.ireturn, 1) := by decide +kernel
theorem d_M_isVariable_0 : decode b_M_isVariable 0 = .ok (.iload_n 0, 1) := by decide +kernel
theorem d_M_isVariable_1 : decode b_M_isVariable 1 = .ok (.bipush 64, 2) := by decide +kernel
theorem d_M_isVariable_3 : decode b_M_isVariable 3 = .ok (.if_icmp .lt 14, 3) := by decide +kernel
theorem d_M_isVariable_6 : decode b_M_isVariable 6 = .ok (.iload_n 0, 1) := by decide +kernel
theorem d_M_isVariable_7 : decode b_M_isVariable 7 = .ok (.sipush 240, 3) := by decide +kernel
theorem d_M_isVariable_10 : decode b_M_isVariable 10 = .ok (.if_icmp .ge 7, 3) := by decide +kernel
theorem d_M_isVariable_13 : decode b_M_isVariable 13 = .ok (.iconst 1, 1) := by decide +kernel
theorem d_M_isVariable_14 : decode b_M_isVariable 14 = .ok (.goto 4, 3) := by decide +kernel
theorem d_M_isVariable_17 : decode b_M_isVariable 17 = .ok (.iconst 0, 1) := by decide +kernel
theorem d_M_isVariable_18 : decode b_M_isVariable 18 = .ok (.ireturn, 1) := by decide +kernel
theorem d_M_end_0 : decode b_M_end 0 = .ok (.iload_n 1, 1) := by decide +kernel
theorem d_M_end_1 : decode b_M_end 1 = .ok (.istore_n 2, 1) := by decide +kernel
theorem d_M_end_2 : decode b_M_end 2 = .ok (.iconst 1, 1) := by decide +kernel
theorem d_M_end_3 : decode b_M_end 3 = .ok (.istore_n 3, 1) := by decide +kernel
theorem d_M_end_4 : decode b_M_end 4 = .ok (.iload_n 3, 1) := by decide +kernel
theorem d_M_end_5 : decode b_M_end 5 = .ok (.ifCond .le 23, 3) := by decide +kernel
theorem d_M_end_8 : decode b_M_end 8 = .ok (.iload_n 3, 1) := by decide +kernel
theorem d_M_end_9 : decode b_M_end 9 = .ok (.aload_n 0, 1) := by decide +kernel
theorem d_M_end_10 : decode b_M_end 10 = .ok (.getfield 7, 3) := by decide +kernel
theorem d_M_end_13 : decode b_M_end 13 = .ok (.iload_n 2, 1) := by decide +kernel
theorem d_M_end_14 : decode b_M_end 14 = .ok (.iaload, 1) := by decide +kernel
theorem d_M_end_15 : decode b_M_end 15 = .ok (.invokestatic 51, 3) := by decide +kernel
theorem d_M_end_18 : decode b_M_end 18 = .ok (.iconst 1, 1) := by decide +kernel
theorem d_M_end_19 : decode b_M_end 19 = .ok (.isub, 1) := by decide +kernel
theorem d_M_end_20 : decode b_M_end 20 = .ok (.iadd, 1) := by decide +kernel
theorem d_M_end_21 : decode b_M_end 21 = .ok (.istore_n 3, 1) := by decide +kernel
theorem d_M_end_22 : decode b_M_end 22 = .ok (.iinc 2 1, 3) := by decide +kernel
theorem d_M_end_25 : decode b_M_end 25 = .ok (.goto (-21), 3) := by decide +kernel
theorem d_M_end_28 : decode b_M_end 28 = .ok (.iload_n 2, 1) := by decide +kernel
theorem d_M_end_29 : decode b_M_end 29 = .ok (.ireturn, 1) := by decide +kernel
theorem d_M_same_0 : decode b_M_same 0 = .ok (.aload_n 0, 1) := by decide +kernel
theorem d_M_same_1 : decode b_M_same 1 = .ok (.iload_n 1, 1) := by decide +kernel
theorem d_M_same_2 : decode b_M_same 2 = .ok (.invokevirtual 55, 3) := by decide +kernel
theorem d_M_same_5 : decode b_M_same 5 = .ok (.iload_n 1, 1) := by decide +kernel
theorem d_M_same_6 : decode b_M_same 6 = .ok (.isub, 1) := by decide +kernel
theorem d_M_same_7 : decode b_M_same 7 = .ok (.istore_n 3, 1) := by decide +kernel
theorem d_M_same_8 : decode b_M_same 8 = .ok (.iload_n 3, 1) := by decide +kernel
theorem d_M_same_9 : decode b_M_same 9 = .ok (.aload_n 0, 1) := by decide +kernel
theorem d_M_same_10 : decode b_M_same 10 = .ok (.iload_n 2, 1) := by decide +kernel
theorem d_M_same_11 : decode b_M_same 11 = .ok (.invokevirtual 55, 3) := by decide +kernel
theorem d_M_same_14 : decode b_M_same 14 = .ok (.iload_n 2, 1) := by decide +kernel
theorem d_M_same_15 : decode b_M_same 15 = .ok (.isub, 1) := by decide +kernel
theorem d_M_same_16 : decode b_M_same 16 = .ok (.if_icmp .ne 7, 3) := by decide +kernel
theorem d_M_same_19 : decode b_M_same 19 = .ok (.iconst 1, 1) := by decide +kernel
theorem d_M_same_20 : decode b_M_same 20 = .ok (.goto 4, 3) := by decide +kernel
theorem d_M_same_23 : decode b_M_same 23 = .ok (.iconst 0, 1) := by decide +kernel
theorem d_M_same_24 : decode b_M_same 24 = .ok (.istore 4, 2) := by decide +kernel
theorem d_M_same_26 : decode b_M_same 26 = .ok (.iconst 0, 1) := by decide +kernel
theorem d_M_same_27 : decode b_M_same 27 = .ok (.istore 5, 2) := by decide +kernel
theorem d_M_same_29 : decode b_M_same 29 = .ok (.iload 5, 2) := by decide +kernel
theorem d_M_same_31 : decode b_M_same 31 = .ok (.iload_n 3, 1) := by decide +kernel
theorem d_M_same_32 : decode b_M_same 32 = .ok (.if_icmp .ge 42, 3) := by decide +kernel
theorem d_M_same_35 : decode b_M_same 35 = .ok (.iload 4, 2) := by decide +kernel
theorem d_M_same_37 : decode b_M_same 37 = .ok (.ifCond .eq 37, 3) := by decide +kernel
theorem d_M_same_40 : decode b_M_same 40 = .ok (.aload_n 0, 1) := by decide +kernel
theorem d_M_same_41 : decode b_M_same 41 = .ok (.getfield 7, 3) := by decide +kernel
theorem d_M_same_44 : decode b_M_same 44 = .ok (.iload_n 1, 1) := by decide +kernel
theorem d_M_same_45 : decode b_M_same 45 = .ok (.iload 5, 2) := by decide +kernel
theorem d_M_same_47 : decode b_M_same 47 = .ok (.iadd, 1) := by decide +kernel
theorem d_M_same_48 : decode b_M_same 48 = .ok (.iaload, 1) := by decide +kernel
theorem d_M_same_49 : decode b_M_same 49 = .ok (.aload_n 0, 1) := by decide +kernel
theorem d_M_same_50 : decode b_M_same 50 = .ok (.getfield 7, 3) := by decide +kernel
theorem d_M_same_53 : decode b_M_same 53 = .ok (.iload_n 2, 1) := by decide +kernel
theorem d_M_same_54 : decode b_M_same 54 = .ok (.iload 5, 2) := by decide +kernel
theorem d_M_same_56 : decode b_M_same 56 = .ok (.iadd, 1) := by decide +kernel
theorem d_M_same_57 : decode b_M_same 57 = .ok (.iaload, 1) := by decide +kernel
theorem d_M_same_58 : decode b_M_same 58 = .ok (.if_icmp .ne 7, 3) := by decide +kernel
theorem d_M_same_61 : decode b_M_same 61 = .ok (.iconst 1, 1) := by decide +kernel
theorem d_M_same_62 : decode b_M_same 62 = .ok (.goto 4, 3) := by decide +kernel
theorem d_M_same_65 : decode b_M_same 65 = .ok (.iconst 0, 1) := by decide +kernel
theorem d_M_same_66 : decode b_M_same 66 = .ok (.istore 4, 2) := by decide +kernel
theorem d_M_same_68 : decode b_M_same 68 = .ok (.iinc 5 1, 3) := by decide +kernel
theorem d_M_same_71 : decode b_M_same 71 = .ok (.goto (-42), 3) := by decide +kernel
theorem d_M_same_74 : decode b_M_same 74 = .ok (.iload 4, 2) := by decide +kernel
theorem d_M_same_76 : decode b_M_same 76 = .ok (.ireturn, 1) := by decide +kernel
theorem d_M_depth_0 : decode b_M_depth 0 = .ok (.iconst 0, 1) := by decide +kernel
theorem d_M_depth_1 : decode b_M_depth 1 = .ok (.istore_n 3, 1) := by decide +kernel
theorem d_M_depth_2 : decode b_M_depth 2 = .ok (.iload_n 1, 1) := by decide +kernel
theorem d_M_depth_3 : decode b_M_depth 3 = .ok (.istore 4, 2) := by decide +kernel
theorem d_M_depth_5 : decode b_M_depth 5 = .ok (.iload 4, 2) := by decide +kernel
theorem d_M_depth_7 : decode b_M_depth 7 = .ok (.iload_n 2, 1) := by decide +kernel
theorem d_M_depth_8 : decode b_M_depth 8 = .ok (.if_icmp .ge 41, 3) := by decide +kernel
theorem d_M_depth_11 : decode b_M_depth 11 = .ok (.iload_n 3, 1) := by decide +kernel
theorem d_M_depth_12 : decode b_M_depth 12 = .ok (.aload_n 0, 1) := by decide +kernel
theorem d_M_depth_13 : decode b_M_depth 13 = .ok (.getfield 7, 3) := by decide +kernel
theorem d_M_depth_16 : decode b_M_depth 16 = .ok (.iload 4, 2) := by decide +kernel
theorem d_M_depth_18 : decode b_M_depth 18 = .ok (.iaload, 1) := by decide +kernel
theorem d_M_depth_19 : decode b_M_depth 19 = .ok (.invokestatic 51, 3) := by decide +kernel
theorem d_M_depth_22 : decode b_M_depth 22 = .ok (.iconst 1, 1) := by decide +kernel
theorem d_M_depth_23 : decode b_M_depth 23 = .ok (.if_icmp .ne 17, 3) := by decide +kernel
theorem d_M_depth_26 : decode b_M_depth 26 = .ok (.aload_n 0, 1) := by decide +kernel
theorem d_M_depth_27 : decode b_M_depth 27 = .ok (.iload 4, 2) := by decide +kernel
theorem d_M_depth_29 : decode b_M_depth 29 = .ok (.invokevirtual 55, 3) := by decide +kernel
theorem d_M_depth_32 : decode b_M_depth 32 = .ok (.iload_n 2, 1) := by decide +kernel
theorem d_M_depth_33 : decode b_M_depth 33 = .ok (.if_icmp .le 7, 3) := by decide +kernel
theorem d_M_depth_36 : decode b_M_depth 36 = .ok (.iconst 1, 1) := by decide +kernel
theorem d_M_depth_37 : decode b_M_depth 37 = .ok (.goto 4, 3) := by decide +kernel
theorem d_M_depth_40 : decode b_M_depth 40 = .ok (.iconst 0, 1) := by decide +kernel
theorem d_M_depth_41 : decode b_M_depth 41 = .ok (.iadd, 1) := by decide +kernel
theorem d_M_depth_42 : decode b_M_depth 42 = .ok (.istore_n 3, 1) := by decide +kernel
theorem d_M_depth_43 : decode b_M_depth 43 = .ok (.iinc 4 1, 3) := by decide +kernel
theorem d_M_depth_46 : decode b_M_depth 46 = .ok (.goto (-41), 3) := by decide +kernel
theorem d_M_depth_49 : decode b_M_depth 49 = .ok (.iload_n 3, 1) := by decide +kernel
theorem d_M_depth_50 : decode b_M_depth 50 = .ok (.ireturn, 1) := by decide +kernel
theorem d_M_binder_0 : decode b_M_binder 0 = .ok (.aload_n 0, 1) := by decide +kernel
theorem d_M_binder_1 : decode b_M_binder 1 = .ok (.getfield 7, 3) := by decide +kernel
theorem d_M_binder_4 : decode b_M_binder 4 = .ok (.iload_n 1, 1) := by decide +kernel
theorem d_M_binder_5 : decode b_M_binder 5 = .ok (.iaload, 1) := by decide +kernel
theorem d_M_binder_6 : decode b_M_binder 6 = .ok (.sipush 256, 3) := by decide +kernel
theorem d_M_binder_9 : decode b_M_binder 9 = .ok (.isub, 1) := by decide +kernel
theorem d_M_binder_10 : decode b_M_binder 10 = .ok (.istore_n 2, 1) := by decide +kernel
theorem d_M_binder_11 : decode b_M_binder 11 = .ok (.iload_n 1, 1) := by decide +kernel
theorem d_M_binder_12 : decode b_M_binder 12 = .ok (.iconst 1, 1) := by decide +kernel
theorem d_M_binder_13 : decode b_M_binder 13 = .ok (.isub, 1) := by decide +kernel
theorem d_M_binder_14 : decode b_M_binder 14 = .ok (.istore_n 3, 1) := by decide +kernel
theorem d_M_binder_15 : decode b_M_binder 15 = .ok (.aload_n 0, 1) := by decide +kernel
theorem d_M_binder_16 : decode b_M_binder 16 = .ok (.getfield 7, 3) := by decide +kernel
theorem d_M_binder_19 : decode b_M_binder 19 = .ok (.iload_n 3, 1) := by decide +kernel
theorem d_M_binder_20 : decode b_M_binder 20 = .ok (.iaload, 1) := by decide +kernel
theorem d_M_binder_21 : decode b_M_binder 21 = .ok (.invokestatic 51, 3) := by decide +kernel
theorem d_M_binder_24 : decode b_M_binder 24 = .ok (.iconst 1, 1) := by decide +kernel
theorem d_M_binder_25 : decode b_M_binder 25 = .ok (.if_icmp .ne 16, 3) := by decide +kernel
theorem d_M_binder_28 : decode b_M_binder 28 = .ok (.aload_n 0, 1) := by decide +kernel
theorem d_M_binder_29 : decode b_M_binder 29 = .ok (.iload_n 3, 1) := by decide +kernel
theorem d_M_binder_30 : decode b_M_binder 30 = .ok (.invokevirtual 55, 3) := by decide +kernel
theorem d_M_binder_33 : decode b_M_binder 33 = .ok (.iload_n 1, 1) := by decide +kernel
theorem d_M_binder_34 : decode b_M_binder 34 = .ok (.if_icmp .le 7, 3) := by decide +kernel
theorem d_M_binder_37 : decode b_M_binder 37 = .ok (.iload_n 2, 1) := by decide +kernel
theorem d_M_binder_38 : decode b_M_binder 38 = .ok (.ifCond .le 39, 3) := by decide +kernel
theorem d_M_binder_41 : decode b_M_binder 41 = .ok (.aload_n 0, 1) := by decide +kernel
theorem d_M_binder_42 : decode b_M_binder 42 = .ok (.getfield 7, 3) := by decide +kernel
theorem d_M_binder_45 : decode b_M_binder 45 = .ok (.iload_n 3, 1) := by decide +kernel
theorem d_M_binder_46 : decode b_M_binder 46 = .ok (.iaload, 1) := by decide +kernel
theorem d_M_binder_47 : decode b_M_binder 47 = .ok (.invokestatic 51, 3) := by decide +kernel
theorem d_M_binder_50 : decode b_M_binder 50 = .ok (.iconst 1, 1) := by decide +kernel
theorem d_M_binder_51 : decode b_M_binder 51 = .ok (.if_icmp .ne 18, 3) := by decide +kernel
theorem d_M_binder_54 : decode b_M_binder 54 = .ok (.aload_n 0, 1) := by decide +kernel
theorem d_M_binder_55 : decode b_M_binder 55 = .ok (.iload_n 3, 1) := by decide +kernel
theorem d_M_binder_56 : decode b_M_binder 56 = .ok (.invokevirtual 55, 3) := by decide +kernel
theorem d_M_binder_59 : decode b_M_binder 59 = .ok (.iload_n 1, 1) := by decide +kernel
theorem d_M_binder_60 : decode b_M_binder 60 = .ok (.if_icmp .le 9, 3) := by decide +kernel
theorem d_M_binder_63 : decode b_M_binder 63 = .ok (.iload_n 2, 1) := by decide +kernel
theorem d_M_binder_64 : decode b_M_binder 64 = .ok (.iconst 1, 1) := by decide +kernel
theorem d_M_binder_65 : decode b_M_binder 65 = .ok (.isub, 1) := by decide +kernel
theorem d_M_binder_66 : decode b_M_binder 66 = .ok (.goto 4, 3) := by decide +kernel
theorem d_M_binder_69 : decode b_M_binder 69 = .ok (.iload_n 2, 1) := by decide +kernel
theorem d_M_binder_70 : decode b_M_binder 70 = .ok (.istore_n 2, 1) := by decide +kernel
theorem d_M_binder_71 : decode b_M_binder 71 = .ok (.iinc 3 (-1), 3) := by decide +kernel
theorem d_M_binder_74 : decode b_M_binder 74 = .ok (.goto (-59), 3) := by decide +kernel
theorem d_M_binder_77 : decode b_M_binder 77 = .ok (.aload_n 0, 1) := by decide +kernel
theorem d_M_binder_78 : decode b_M_binder 78 = .ok (.getfield 7, 3) := by decide +kernel
theorem d_M_binder_81 : decode b_M_binder 81 = .ok (.iload_n 3, 1) := by decide +kernel
theorem d_M_binder_82 : decode b_M_binder 82 = .ok (.iaload, 1) := by decide +kernel
theorem d_M_binder_83 : decode b_M_binder 83 = .ok (.bipush 15, 2) := by decide +kernel
theorem d_M_binder_85 : decode b_M_binder 85 = .ok (.iand, 1) := by decide +kernel
theorem d_M_binder_86 : decode b_M_binder 86 = .ok (.ireturn, 1) := by decide +kernel
theorem d_M_find_0 : decode b_M_find 0 = .ok (.iconst 3, 1) := by decide +kernel
theorem d_M_find_1 : decode b_M_find 1 = .ok (.istore_n 3, 1) := by decide +kernel
theorem d_M_find_2 : decode b_M_find 2 = .ok (.iload_n 3, 1) := by decide +kernel
theorem d_M_find_3 : decode b_M_find 3 = .ok (.aload_n 0, 1) := by decide +kernel
theorem d_M_find_4 : decode b_M_find 4 = .ok (.getfield 22, 3) := by decide +kernel
theorem d_M_find_7 : decode b_M_find 7 = .ok (.if_icmp .ge 31, 3) := by decide +kernel
theorem d_M_find_10 : decode b_M_find 10 = .ok (.aload_n 0, 1) := by decide +kernel
theorem d_M_find_11 : decode b_M_find 11 = .ok (.getfield 26, 3) := by decide +kernel
theorem d_M_find_14 : decode b_M_find 14 = .ok (.iload_n 3, 1) := by decide +kernel
theorem d_M_find_15 : decode b_M_find 15 = .ok (.iaload, 1) := by decide +kernel
theorem d_M_find_16 : decode b_M_find 16 = .ok (.iload_n 1, 1) := by decide +kernel
theorem d_M_find_17 : decode b_M_find 17 = .ok (.if_icmp .ne 15, 3) := by decide +kernel
theorem d_M_find_20 : decode b_M_find 20 = .ok (.aload_n 0, 1) := by decide +kernel
theorem d_M_find_21 : decode b_M_find 21 = .ok (.getfield 29, 3) := by decide +kernel
theorem d_M_find_24 : decode b_M_find 24 = .ok (.iload_n 3, 1) := by decide +kernel
theorem d_M_find_25 : decode b_M_find 25 = .ok (.iaload, 1) := by decide +kernel
theorem d_M_find_26 : decode b_M_find 26 = .ok (.iload_n 2, 1) := by decide +kernel
theorem d_M_find_27 : decode b_M_find 27 = .ok (.if_icmp .ne 5, 3) := by decide +kernel
theorem d_M_find_30 : decode b_M_find 30 = .ok (.iload_n 3, 1) := by decide +kernel
theorem d_M_find_31 : decode b_M_find 31 = .ok (.ireturn, 1) := by decide +kernel
theorem d_M_find_32 : decode b_M_find 32 = .ok (.iinc 3 1, 3) := by decide +kernel
theorem d_M_find_35 : decode b_M_find 35 = .ok (.goto (-33), 3) := by decide +kernel
theorem d_M_find_38 : decode b_M_find 38 = .ok (.iconst (-1), 1) := by decide +kernel
theorem d_M_find_39 : decode b_M_find 39 = .ok (.ireturn, 1) := by decide +kernel
theorem d_M_typesAt_0 : decode b_M_typesAt 0 = .ok (.aload_n 0, 1) := by decide +kernel
theorem d_M_typesAt_1 : decode b_M_typesAt 1 = .ok (.iload_n 1, 1) := by decide +kernel
theorem d_M_typesAt_2 : decode b_M_typesAt 2 = .ok (.invokevirtual 55, 3) := by decide +kernel
theorem d_M_typesAt_5 : decode b_M_typesAt 5 = .ok (.iconst 1, 1) := by decide +kernel
theorem d_M_typesAt_6 : decode b_M_typesAt 6 = .ok (.isub, 1) := by decide +kernel
theorem d_M_typesAt_7 : decode b_M_typesAt 7 = .ok (.istore_n 2, 1) := by decide +kernel
theorem d_M_typesAt_8 : decode b_M_typesAt 8 = .ok (.iload_n 2, 1) := by decide +kernel
theorem d_M_typesAt_9 : decode b_M_typesAt 9 = .ok (.iload_n 1, 1) := by decide +kernel
theorem d_M_typesAt_10 : decode b_M_typesAt 10 = .ok (.if_icmp .lt 145, 3) := by decide +kernel
theorem d_M_typesAt_13 : decode b_M_typesAt 13 = .ok (.aload_n 0, 1) := by decide +kernel
theorem d_M_typesAt_14 : decode b_M_typesAt 14 = .ok (.getfield 7, 3) := by decide +kernel
theorem d_M_typesAt_17 : decode b_M_typesAt 17 = .ok (.iload_n 2, 1) := by decide +kernel
theorem d_M_typesAt_18 : decode b_M_typesAt 18 = .ok (.iaload, 1) := by decide +kernel
theorem d_M_typesAt_19 : decode b_M_typesAt 19 = .ok (.istore_n 3, 1) := by decide +kernel
theorem d_M_typesAt_20 : decode b_M_typesAt 20 = .ok (.iload_n 2, 1) := by decide +kernel
theorem d_M_typesAt_21 : decode b_M_typesAt 21 = .ok (.iload_n 1, 1) := by decide +kernel
theorem d_M_typesAt_22 : decode b_M_typesAt 22 = .ok (.isub, 1) := by decide +kernel
theorem d_M_typesAt_23 : decode b_M_typesAt 23 = .ok (.iconst 1, 1) := by decide +kernel
theorem d_M_typesAt_24 : decode b_M_typesAt 24 = .ok (.iadd, 1) := by decide +kernel
theorem d_M_typesAt_25 : decode b_M_typesAt 25 = .ok (.bipush 32, 2) := by decide +kernel
theorem d_M_typesAt_27 : decode b_M_typesAt 27 = .ok (.if_icmp .ge 16, 3) := by decide +kernel
theorem d_M_typesAt_30 : decode b_M_typesAt 30 = .ok (.aload_n 0, 1) := by decide +kernel
theorem d_M_typesAt_31 : decode b_M_typesAt 31 = .ok (.getfield 19, 3) := by decide +kernel
theorem d_M_typesAt_34 : decode b_M_typesAt 34 = .ok (.iload_n 2, 1) := by decide +kernel
theorem d_M_typesAt_35 : decode b_M_typesAt 35 = .ok (.iload_n 1, 1) := by decide +kernel
theorem d_M_typesAt_36 : decode b_M_typesAt 36 = .ok (.isub, 1) := by decide +kernel
theorem d_M_typesAt_37 : decode b_M_typesAt 37 = .ok (.iconst 1, 1) := by decide +kernel
theorem d_M_typesAt_38 : decode b_M_typesAt 38 = .ok (.iadd, 1) := by decide +kernel
theorem d_M_typesAt_39 : decode b_M_typesAt 39 = .ok (.iaload, 1) := by decide +kernel
theorem d_M_typesAt_40 : decode b_M_typesAt 40 = .ok (.goto 4, 3) := by decide +kernel
theorem d_M_typesAt_43 : decode b_M_typesAt 43 = .ok (.iconst 0, 1) := by decide +kernel
theorem d_M_typesAt_44 : decode b_M_typesAt 44 = .ok (.istore 4, 2) := by decide +kernel
theorem d_M_typesAt_46 : decode b_M_typesAt 46 = .ok (.iload_n 3, 1) := by decide +kernel
theorem d_M_typesAt_47 : decode b_M_typesAt 47 = .ok (.iconst 1, 1) := by decide +kernel
theorem d_M_typesAt_48 : decode b_M_typesAt 48 = .ok (.if_icmp .ne 13, 3) := by decide +kernel
theorem d_M_typesAt_51 : decode b_M_typesAt 51 = .ok (.aload_n 0, 1) := by decide +kernel
theorem d_M_typesAt_52 : decode b_M_typesAt 52 = .ok (.getfield 29, 3) := by decide +kernel
theorem d_M_typesAt_55 : decode b_M_typesAt 55 = .ok (.iload 4, 2) := by decide +kernel
theorem d_M_typesAt_57 : decode b_M_typesAt 57 = .ok (.iaload, 1) := by decide +kernel
theorem d_M_typesAt_58 : decode b_M_typesAt 58 = .ok (.goto 54, 3) := by decide +kernel
theorem d_M_typesAt_61 : decode b_M_typesAt 61 = .ok (.iload_n 3, 1) := by decide +kernel
theorem d_M_typesAt_62 : decode b_M_typesAt 62 = .ok (.sipush 256, 3) := by decide +kernel
theorem d_M_typesAt_65 : decode b_M_typesAt 65 = .ok (.if_icmp .lt 11, 3) := by decide +kernel
theorem d_M_typesAt_68 : decode b_M_typesAt 68 = .ok (.aload_n 0, 1) := by decide +kernel
theorem d_M_typesAt_69 : decode b_M_typesAt 69 = .ok (.iload_n 2, 1) := by decide +kernel
theorem d_M_typesAt_70 : decode b_M_typesAt 70 = .ok (.invokevirtual 58, 3) := by decide +kernel
theorem d_M_typesAt_73 : decode b_M_typesAt 73 = .ok (.goto 39, 3) := by decide +kernel
theorem d_M_typesAt_76 : decode b_M_typesAt 76 = .ok (.iload_n 3, 1) := by decide +kernel
theorem d_M_typesAt_77 : decode b_M_typesAt 77 = .ok (.sipush 240, 3) := by decide +kernel
theorem d_M_typesAt_80 : decode b_M_typesAt 80 = .ok (.if_icmp .lt 18, 3) := by decide +kernel
theorem d_M_typesAt_83 : decode b_M_typesAt 83 = .ok (.aload_n 0, 1) := by decide +kernel
theorem d_M_typesAt_84 : decode b_M_typesAt 84 = .ok (.getfield 32, 3) := by decide +kernel
theorem d_M_typesAt_87 : decode b_M_typesAt 87 = .ok (.iload_n 3, 1) := by decide +kernel
theorem d_M_typesAt_88 : decode b_M_typesAt 88 = .ok (.sipush 240, 3) := by decide +kernel
theorem d_M_typesAt_91 : decode b_M_typesAt 91 = .ok (.isub, 1) := by decide +kernel
theorem d_M_typesAt_92 : decode b_M_typesAt 92 = .ok (.iaload, 1) := by decide +kernel
theorem d_M_typesAt_93 : decode b_M_typesAt 93 = .ok (.iconst 1, 1) := by decide +kernel
theorem d_M_typesAt_94 : decode b_M_typesAt 94 = .ok (.isub, 1) := by decide +kernel
theorem d_M_typesAt_95 : decode b_M_typesAt 95 = .ok (.goto 17, 3) := by decide +kernel
theorem d_M_typesAt_98 : decode b_M_typesAt 98 = .ok (.iload_n 3, 1) := by decide +kernel
theorem d_M_typesAt_99 : decode b_M_typesAt 99 = .ok (.bipush 64, 2) := by decide +kernel
theorem d_M_typesAt_101 : decode b_M_typesAt 101 = .ok (.if_icmp .lt 10, 3) := by decide +kernel
theorem d_M_typesAt_104 : decode b_M_typesAt 104 = .ok (.iload_n 3, 1) := by decide +kernel
theorem d_M_typesAt_105 : decode b_M_typesAt 105 = .ok (.bipush 15, 2) := by decide +kernel
theorem d_M_typesAt_107 : decode b_M_typesAt 107 = .ok (.iand, 1) := by decide +kernel
theorem d_M_typesAt_108 : decode b_M_typesAt 108 = .ok (.goto 4, 3) := by decide +kernel
theorem d_M_typesAt_111 : decode b_M_typesAt 111 = .ok (.iconst 0, 1) := by decide +kernel
theorem d_M_typesAt_112 : decode b_M_typesAt 112 = .ok (.istore 5, 2) := by decide +kernel
theorem d_M_typesAt_114 : decode b_M_typesAt 114 = .ok (.aload_n 0, 1) := by decide +kernel
theorem d_M_typesAt_115 : decode b_M_typesAt 115 = .ok (.getfield 19, 3) := by decide +kernel
theorem d_M_typesAt_118 : decode b_M_typesAt 118 = .ok (.iload_n 2, 1) := by decide +kernel
theorem d_M_typesAt_119 : decode b_M_typesAt 119 = .ok (.iload_n 1, 1) := by decide +kernel
theorem d_M_typesAt_120 : decode b_M_typesAt 120 = .ok (.isub, 1) := by decide +kernel
theorem d_M_typesAt_121 : decode b_M_typesAt 121 = .ok (.iload_n 3, 1) := by decide +kernel
theorem d_M_typesAt_122 : decode b_M_typesAt 122 = .ok (.bipush 16, 2) := by decide +kernel
theorem d_M_typesAt_124 : decode b_M_typesAt 124 = .ok (.if_icmp .lt 22, 3) := by decide +kernel
theorem d_M_typesAt_127 : decode b_M_typesAt 127 = .ok (.iload_n 3, 1) := by decide +kernel
theorem d_M_typesAt_128 : decode b_M_typesAt 128 = .ok (.bipush 32, 2) := by decide +kernel
theorem d_M_typesAt_130 : decode b_M_typesAt 130 = .ok (.if_icmp .ge 16, 3) := by decide +kernel
theorem d_M_typesAt_133 : decode b_M_typesAt 133 = .ok (.aload_n 0, 1) := by decide +kernel
theorem d_M_typesAt_134 : decode b_M_typesAt 134 = .ok (.iload_n 3, 1) := by decide +kernel
theorem d_M_typesAt_135 : decode b_M_typesAt 135 = .ok (.bipush 15, 2) := by decide +kernel
theorem d_M_typesAt_137 : decode b_M_typesAt 137 = .ok (.iand, 1) := by decide +kernel
theorem d_M_typesAt_138 : decode b_M_typesAt 138 = .ok (.iload 4, 2) := by decide +kernel
theorem d_M_typesAt_140 : decode b_M_typesAt 140 = .ok (.invokevirtual 61, 3) := by decide +kernel
theorem d_M_typesAt_143 : decode b_M_typesAt 143 = .ok (.goto 5, 3) := by decide +kernel
theorem d_M_typesAt_146 : decode b_M_typesAt 146 = .ok (.iload 5, 2) := by decide +kernel
theorem d_M_typesAt_148 : decode b_M_typesAt 148 = .ok (.iastore, 1) := by decide +kernel
theorem d_M_typesAt_149 : decode b_M_typesAt 149 = .ok (.iinc 2 (-1), 3) := by decide +kernel
theorem d_M_typesAt_152 : decode b_M_typesAt 152 = .ok (.goto (-144), 3) := by decide +kernel
theorem d_M_typesAt_155 : decode b_M_typesAt 155 = .ok (.aload_n 0, 1) := by decide +kernel
theorem d_M_typesAt_156 : decode b_M_typesAt 156 = .ok (.getfield 19, 3) := by decide +kernel
theorem d_M_typesAt_159 : decode b_M_typesAt 159 = .ok (.iconst 0, 1) := by decide +kernel
theorem d_M_typesAt_160 : decode b_M_typesAt 160 = .ok (.iaload, 1) := by decide +kernel
theorem d_M_typesAt_161 : decode b_M_typesAt 161 = .ok (.ireturn, 1) := by decide +kernel
theorem d_M_put_0 : decode b_M_put 0 = .ok (.aload_n 0, 1) := by decide +kernel
theorem d_M_put_1 : decode b_M_put 1 = .ok (.getfield 7, 3) := by decide +kernel
theorem d_M_put_4 : decode b_M_put 4 = .ok (.sipush 1920, 3) := by decide +kernel
theorem d_M_put_7 : decode b_M_put 7 = .ok (.aload_n 0, 1) := by decide +kernel
theorem d_M_put_8 : decode b_M_put 8 = .ok (.getfield 65, 3) := by decide +kernel
theorem d_M_put_11 : decode b_M_put 11 = .ok (.iadd, 1) := by decide +kernel
theorem d_M_put_12 : decode b_M_put 12 = .ok (.iload_n 1, 1) := by decide +kernel
theorem d_M_put_13 : decode b_M_put 13 = .ok (.iastore, 1) := by decide +kernel
theorem d_M_put_14 : decode b_M_put 14 = .ok (.aload_n 0, 1) := by decide +kernel
theorem d_M_put_15 : decode b_M_put 15 = .ok (.dup, 1) := by decide +kernel
theorem d_M_put_16 : decode b_M_put 16 = .ok (.getfield 65, 3) := by decide +kernel
theorem d_M_put_19 : decode b_M_put 19 = .ok (.iconst 1, 1) := by decide +kernel
theorem d_M_put_20 : decode b_M_put 20 = .ok (.iadd, 1) := by decide +kernel
theorem d_M_put_21 : decode b_M_put 21 = .ok (.putfield 65, 3) := by decide +kernel
theorem d_M_put_24 : decode b_M_put 24 = .ok (.return_, 1) := by decide +kernel
theorem d_M_copy_0 : decode b_M_copy 0 = .ok (.aload_n 0, 1) := by decide +kernel
theorem d_M_copy_1 : decode b_M_copy 1 = .ok (.iload_n 1, 1) := by decide +kernel
theorem d_M_copy_2 : decode b_M_copy 2 = .ok (.invokevirtual 55, 3) := by decide +kernel
theorem d_M_copy_5 : decode b_M_copy 5 = .ok (.istore_n 2, 1) := by decide +kernel
theorem d_M_copy_6 : decode b_M_copy 6 = .ok (.iload_n 1, 1) := by decide +kernel
theorem d_M_copy_7 : decode b_M_copy 7 = .ok (.istore_n 3, 1) := by decide +kernel
theorem d_M_copy_8 : decode b_M_copy 8 = .ok (.iload_n 3, 1) := by decide +kernel
theorem d_M_copy_9 : decode b_M_copy 9 = .ok (.iload_n 2, 1) := by decide +kernel
theorem d_M_copy_10 : decode b_M_copy 10 = .ok (.if_icmp .ge 19, 3) := by decide +kernel
theorem d_M_copy_13 : decode b_M_copy 13 = .ok (.aload_n 0, 1) := by decide +kernel
theorem d_M_copy_14 : decode b_M_copy 14 = .ok (.aload_n 0, 1) := by decide +kernel
theorem d_M_copy_15 : decode b_M_copy 15 = .ok (.getfield 7, 3) := by decide +kernel
theorem d_M_copy_18 : decode b_M_copy 18 = .ok (.iload_n 3, 1) := by decide +kernel
theorem d_M_copy_19 : decode b_M_copy 19 = .ok (.iaload, 1) := by decide +kernel
theorem d_M_copy_20 : decode b_M_copy 20 = .ok (.invokevirtual 68, 3) := by decide +kernel
theorem d_M_copy_23 : decode b_M_copy 23 = .ok (.iinc 3 1, 3) := by decide +kernel
theorem d_M_copy_26 : decode b_M_copy 26 = .ok (.goto (-18), 3) := by decide +kernel
theorem d_M_copy_29 : decode b_M_copy 29 = .ok (.return_, 1) := by decide +kernel
theorem d_M_copyWith_0 : decode b_M_copyWith 0 = .ok (.aload_n 0, 1) := by decide +kernel
theorem d_M_copyWith_1 : decode b_M_copyWith 1 = .ok (.iload_n 1, 1) := by decide +kernel
theorem d_M_copyWith_2 : decode b_M_copyWith 2 = .ok (.invokevirtual 55, 3) := by decide +kernel
theorem d_M_copyWith_5 : decode b_M_copyWith 5 = .ok (.istore 4, 2) := by decide +kernel
theorem d_M_copyWith_7 : decode b_M_copyWith 7 = .ok (.iload_n 1, 1) := by decide +kernel
theorem d_M_copyWith_8 : decode b_M_copyWith 8 = .ok (.istore 5, 2) := by decide +kernel
theorem d_M_copyWith_10 : decode b_M_copyWith 10 = .ok (.iload 5, 2) := by decide +kernel
theorem d_M_copyWith_12 : decode b_M_copyWith 12 = .ok (.iload 4, 2) := by decide +kernel
theorem d_M_copyWith_14 : decode b_M_copyWith 14 = .ok (.if_icmp .ge 61, 3) := by decide +kernel
theorem d_M_copyWith_17 : decode b_M_copyWith 17 = .ok (.aload_n 0, 1) := by decide +kernel
theorem d_M_copyWith_18 : decode b_M_copyWith 18 = .ok (.getfield 7, 3) := by decide +kernel
theorem d_M_copyWith_21 : decode b_M_copyWith 21 = .ok (.iload 5, 2) := by decide +kernel
theorem d_M_copyWith_23 : decode b_M_copyWith 23 = .ok (.iaload, 1) := by decide +kernel
theorem d_M_copyWith_24 : decode b_M_copyWith 24 = .ok (.iload_n 2, 1) := by decide +kernel
theorem d_M_copyWith_25 : decode b_M_copyWith 25 = .ok (.if_icmp .eq 17, 3) := by decide +kernel
theorem d_M_copyWith_28 : decode b_M_copyWith 28 = .ok (.aload_n 0, 1) := by decide +kernel
theorem d_M_copyWith_29 : decode b_M_copyWith 29 = .ok (.aload_n 0, 1) := by decide +kernel
theorem d_M_copyWith_30 : decode b_M_copyWith 30 = .ok (.getfield 7, 3) := by decide +kernel
theorem d_M_copyWith_33 : decode b_M_copyWith 33 = .ok (.iload 5, 2) := by decide +kernel
theorem d_M_copyWith_35 : decode b_M_copyWith 35 = .ok (.iaload, 1) := by decide +kernel
theorem d_M_copyWith_36 : decode b_M_copyWith 36 = .ok (.invokevirtual 68, 3) := by decide +kernel
theorem d_M_copyWith_39 : decode b_M_copyWith 39 = .ok (.goto 30, 3) := by decide +kernel
theorem d_M_copyWith_42 : decode b_M_copyWith 42 = .ok (.iload_n 3, 1) := by decide +kernel
theorem d_M_copyWith_43 : decode b_M_copyWith 43 = .ok (.ifCond .lt 11, 3) := by decide +kernel
theorem d_M_copyWith_46 : decode b_M_copyWith 46 = .ok (.aload_n 0, 1) := by decide +kernel
theorem d_M_copyWith_47 : decode b_M_copyWith 47 = .ok (.iload_n 3, 1) := by decide +kernel
theorem d_M_copyWith_48 : decode b_M_copyWith 48 = .ok (.invokevirtual 72, 3) := by decide +kernel
theorem d_M_copyWith_51 : decode b_M_copyWith 51 = .ok (.goto 18, 3) := by decide +kernel
theorem d_M_copyWith_54 : decode b_M_copyWith 54 = .ok (.aload_n 0, 1) := by decide +kernel
theorem d_M_copyWith_55 : decode b_M_copyWith 55 = .ok (.sipush 256, 3) := by decide +kernel
theorem d_M_copyWith_58 : decode b_M_copyWith 58 = .ok (.aload_n 0, 1) := by decide +kernel
theorem d_M_copyWith_59 : decode b_M_copyWith 59 = .ok (.iload_n 1, 1) := by decide +kernel
theorem d_M_copyWith_60 : decode b_M_copyWith 60 = .ok (.iload 5, 2) := by decide +kernel
theorem d_M_copyWith_62 : decode b_M_copyWith 62 = .ok (.invokevirtual 75, 3) := by decide +kernel
theorem d_M_copyWith_65 : decode b_M_copyWith 65 = .ok (.iadd, 1) := by decide +kernel
theorem d_M_copyWith_66 : decode b_M_copyWith 66 = .ok (.invokevirtual 68, 3) := by decide +kernel
theorem d_M_copyWith_69 : decode b_M_copyWith 69 = .ok (.iinc 5 1, 3) := by decide +kernel
theorem d_M_copyWith_72 : decode b_M_copyWith 72 = .ok (.goto (-62), 3) := by decide +kernel
theorem d_M_copyWith_75 : decode b_M_copyWith 75 = .ok (.return_, 1) := by decide +kernel
theorem d_M_copyOpened_0 : decode b_M_copyOpened 0 = .ok (.aload_n 0, 1) := by decide +kernel
theorem d_M_copyOpened_1 : decode b_M_copyOpened 1 = .ok (.iload_n 1, 1) := by decide +kernel
theorem d_M_copyOpened_2 : decode b_M_copyOpened 2 = .ok (.invokevirtual 55, 3) := by decide +kernel
theorem d_M_copyOpened_5 : decode b_M_copyOpened 5 = .ok (.istore_n 3, 1) := by decide +kernel
theorem d_M_copyOpened_6 : decode b_M_copyOpened 6 = .ok (.iload_n 1, 1) := by decide +kernel
theorem d_M_copyOpened_7 : decode b_M_copyOpened 7 = .ok (.istore 4, 2) := by decide +kernel
theorem d_M_copyOpened_9 : decode b_M_copyOpened 9 = .ok (.iload 4, 2) := by decide +kernel
theorem d_M_copyOpened_11 : decode b_M_copyOpened 11 = .ok (.iload_n 3, 1) := by decide +kernel
theorem d_M_copyOpened_12 : decode b_M_copyOpened 12 = .ok (.if_icmp .ge 62, 3) := by decide +kernel
theorem d_M_copyOpened_15 : decode b_M_copyOpened 15 = .ok (.aload_n 0, 1) := by decide +kernel
theorem d_M_copyOpened_16 : decode b_M_copyOpened 16 = .ok (.getfield 7, 3) := by decide +kernel
theorem d_M_copyOpened_19 : decode b_M_copyOpened 19 = .ok (.iload 4, 2) := by decide +kernel
theorem d_M_copyOpened_21 : decode b_M_copyOpened 21 = .ok (.iaload, 1) := by decide +kernel
theorem d_M_copyOpened_22 : decode b_M_copyOpened 22 = .ok (.sipush 256, 3) := by decide +kernel
theorem d_M_copyOpened_25 : decode b_M_copyOpened 25 = .ok (.if_icmp .lt 32, 3) := by decide +kernel
theorem d_M_copyOpened_28 : decode b_M_copyOpened 28 = .ok (.aload_n 0, 1) := by decide +kernel
theorem d_M_copyOpened_29 : decode b_M_copyOpened 29 = .ok (.getfield 7, 3) := by decide +kernel
theorem d_M_copyOpened_32 : decode b_M_copyOpened 32 = .ok (.iload 4, 2) := by decide +kernel
theorem d_M_copyOpened_34 : decode b_M_copyOpened 34 = .ok (.iaload, 1) := by decide +kernel
theorem d_M_copyOpened_35 : decode b_M_copyOpened 35 = .ok (.sipush 256, 3) := by decide +kernel
theorem d_M_copyOpened_38 : decode b_M_copyOpened 38 = .ok (.isub, 1) := by decide +kernel
theorem d_M_copyOpened_39 : decode b_M_copyOpened 39 = .ok (.aload_n 0, 1) := by decide +kernel
theorem d_M_copyOpened_40 : decode b_M_copyOpened 40 = .ok (.iload_n 1, 1) := by decide +kernel
theorem d_M_copyOpened_41 : decode b_M_copyOpened 41 = .ok (.iload 4, 2) := by decide +kernel
theorem d_M_copyOpened_43 : decode b_M_copyOpened 43 = .ok (.invokevirtual 75, 3) := by decide +kernel
theorem d_M_copyOpened_46 : decode b_M_copyOpened 46 = .ok (.if_icmp .ne 11, 3) := by decide +kernel
theorem d_M_copyOpened_49 : decode b_M_copyOpened 49 = .ok (.aload_n 0, 1) := by decide +kernel
theorem d_M_copyOpened_50 : decode b_M_copyOpened 50 = .ok (.iload_n 2, 1) := by decide +kernel
theorem d_M_copyOpened_51 : decode b_M_copyOpened 51 = .ok (.invokevirtual 72, 3) := by decide +kernel
theorem d_M_copyOpened_54 : decode b_M_copyOpened 54 = .ok (.goto 14, 3) := by decide +kernel
theorem d_M_copyOpened_57 : decode b_M_copyOpened 57 = .ok (.aload_n 0, 1) := by decide +kernel
theorem d_M_copyOpened_58 : decode b_M_copyOpened 58 = .ok (.aload_n 0, 1) := by decide +kernel
theorem d_M_copyOpened_59 : decode b_M_copyOpened 59 = .ok (.getfield 7, 3) := by decide +kernel
theorem d_M_copyOpened_62 : decode b_M_copyOpened 62 = .ok (.iload 4, 2) := by decide +kernel
theorem d_M_copyOpened_64 : decode b_M_copyOpened 64 = .ok (.iaload, 1) := by decide +kernel
theorem d_M_copyOpened_65 : decode b_M_copyOpened 65 = .ok (.invokevirtual 68, 3) := by decide +kernel
theorem d_M_copyOpened_68 : decode b_M_copyOpened 68 = .ok (.iinc 4 1, 3) := by decide +kernel
theorem d_M_copyOpened_71 : decode b_M_copyOpened 71 = .ok (.goto (-62), 3) := by decide +kernel
theorem d_M_copyOpened_74 : decode b_M_copyOpened 74 = .ok (.return_, 1) := by decide +kernel
theorem d_M_keep_0 : decode b_M_keep 0 = .ok (.aload_n 0, 1) := by decide +kernel
theorem d_M_keep_1 : decode b_M_keep 1 = .ok (.getfield 65, 3) := by decide +kernel
theorem d_M_keep_4 : decode b_M_keep 4 = .ok (.bipush 30, 2) := by decide +kernel
theorem d_M_keep_6 : decode b_M_keep 6 = .ok (.if_icmp .le 6, 3) := by decide +kernel
theorem d_M_keep_9 : decode b_M_keep 9 = .ok (.bipush (-4), 2) := by decide +kernel
theorem d_M_keep_11 : decode b_M_keep 11 = .ok (.ireturn, 1) := by decide +kernel
theorem d_M_keep_12 : decode b_M_keep 12 = .ok (.iconst 0, 1) := by decide +kernel
theorem d_M_keep_13 : decode b_M_keep 13 = .ok (.istore_n 1, 1) := by decide +kernel
theorem d_M_keep_14 : decode b_M_keep 14 = .ok (.iload_n 1, 1) := by decide +kernel
theorem d_M_keep_15 : decode b_M_keep 15 = .ok (.aload_n 0, 1) := by decide +kernel
theorem d_M_keep_16 : decode b_M_keep 16 = .ok (.getfield 78, 3) := by decide +kernel
theorem d_M_keep_19 : decode b_M_keep 19 = .ok (.if_icmp .ge 38, 3) := by decide +kernel
theorem d_M_keep_22 : decode b_M_keep 22 = .ok (.aload_n 0, 1) := by decide +kernel
theorem d_M_keep_23 : decode b_M_keep 23 = .ok (.getfield 13, 3) := by decide +kernel
theorem d_M_keep_26 : decode b_M_keep 26 = .ok (.iload_n 1, 1) := by decide +kernel
theorem d_M_keep_27 : decode b_M_keep 27 = .ok (.iaload, 1) := by decide +kernel
theorem d_M_keep_28 : decode b_M_keep 28 = .ok (.aload_n 0, 1) := by decide +kernel
theorem d_M_keep_29 : decode b_M_keep 29 = .ok (.getfield 65, 3) := by decide +kernel
theorem d_M_keep_32 : decode b_M_keep 32 = .ok (.if_icmp .ne 19, 3) := by decide +kernel
theorem d_M_keep_35 : decode b_M_keep 35 = .ok (.aload_n 0, 1) := by decide +kernel
theorem d_M_keep_36 : decode b_M_keep 36 = .ok (.bipush 32, 2) := by decide +kernel
theorem d_M_keep_38 : decode b_M_keep 38 = .ok (.iload_n 1, 1) := by decide +kernel
theorem d_M_keep_39 : decode b_M_keep 39 = .ok (.imul, 1) := by decide +kernel
theorem d_M_keep_40 : decode b_M_keep 40 = .ok (.sipush 1920, 3) := by decide +kernel
theorem d_M_keep_43 : decode b_M_keep 43 = .ok (.invokevirtual 81, 3) := by decide +kernel
theorem d_M_keep_46 : decode b_M_keep 46 = .ok (.ifCond .eq 5, 3) := by decide +kernel
theorem d_M_keep_49 : decode b_M_keep 49 = .ok (.iload_n 1, 1) := by decide +kernel
theorem d_M_keep_50 : decode b_M_keep 50 = .ok (.ireturn, 1) := by decide +kernel
theorem d_M_keep_51 : decode b_M_keep 51 = .ok (.iinc 1 1, 3) := by decide +kernel
theorem d_M_keep_54 : decode b_M_keep 54 = .ok (.goto (-40), 3) := by decide +kernel
theorem d_M_keep_57 : decode b_M_keep 57 = .ok (.aload_n 0, 1) := by decide +kernel
theorem d_M_keep_58 : decode b_M_keep 58 = .ok (.getfield 78, 3) := by decide +kernel
theorem d_M_keep_61 : decode b_M_keep 61 = .ok (.bipush 60, 2) := by decide +kernel
theorem d_M_keep_63 : decode b_M_keep 63 = .ok (.if_icmp .ne 6, 3) := by decide +kernel
theorem d_M_keep_66 : decode b_M_keep 66 = .ok (.bipush (-4), 2) := by decide +kernel
theorem d_M_keep_68 : decode b_M_keep 68 = .ok (.ireturn, 1) := by decide +kernel
theorem d_M_keep_69 : decode b_M_keep 69 = .ok (.iconst 0, 1) := by decide +kernel
theorem d_M_keep_70 : decode b_M_keep 70 = .ok (.istore_n 1, 1) := by decide +kernel
theorem d_M_keep_71 : decode b_M_keep 71 = .ok (.iload_n 1, 1) := by decide +kernel
theorem d_M_keep_72 : decode b_M_keep 72 = .ok (.aload_n 0, 1) := by decide +kernel
theorem d_M_keep_73 : decode b_M_keep 73 = .ok (.getfield 65, 3) := by decide +kernel
theorem d_M_keep_76 : decode b_M_keep 76 = .ok (.if_icmp .ge 33, 3) := by decide +kernel
theorem d_M_keep_79 : decode b_M_keep 79 = .ok (.aload_n 0, 1) := by decide +kernel
theorem d_M_keep_80 : decode b_M_keep 80 = .ok (.getfield 7, 3) := by decide +kernel
theorem d_M_keep_83 : decode b_M_keep 83 = .ok (.bipush 32, 2) := by decide +kernel
theorem d_M_keep_85 : decode b_M_keep 85 = .ok (.aload_n 0, 1) := by decide +kernel
theorem d_M_keep_86 : decode b_M_keep 86 = .ok (.getfield 78, 3) := by decide +kernel
theorem d_M_keep_89 : decode b_M_keep 89 = .ok (.imul, 1) := by decide +kernel
theorem d_M_keep_90 : decode b_M_keep 90 = .ok (.iload_n 1, 1) := by decide +kernel
theorem d_M_keep_91 : decode b_M_keep 91 = .ok (.iadd, 1) := by decide +kernel
theorem d_M_keep_92 : decode b_M_keep 92 = .ok (.aload_n 0, 1) := by decide +kernel
theorem d_M_keep_93 : decode b_M_keep 93 = .ok (.getfield 7, 3) := by decide +kernel
theorem d_M_keep_96 : decode b_M_keep 96 = .ok (.sipush 1920, 3) := by decide +kernel
theorem d_M_keep_99 : decode b_M_keep 99 = .ok (.iload_n 1, 1) := by decide +kernel
theorem d_M_keep_100 : decode b_M_keep 100 = .ok (.iadd, 1) := by decide +kernel
theorem d_M_keep_101 : decode b_M_keep 101 = .ok (.iaload, 1) := by decide +kernel
theorem d_M_keep_102 : decode b_M_keep 102 = .ok (.iastore, 1) := by decide +kernel
theorem d_M_keep_103 : decode b_M_keep 103 = .ok (.iinc 1 1, 3) := by decide +kernel
theorem d_M_keep_106 : decode b_M_keep 106 = .ok (.goto (-35), 3) := by decide +kernel
theorem d_M_keep_109 : decode b_M_keep 109 = .ok (.aload_n 0, 1) := by decide +kernel
theorem d_M_keep_110 : decode b_M_keep 110 = .ok (.getfield 13, 3) := by decide +kernel
theorem d_M_keep_113 : decode b_M_keep 113 = .ok (.aload_n 0, 1) := by decide +kernel
theorem d_M_keep_114 : decode b_M_keep 114 = .ok (.getfield 78, 3) := by decide +kernel
theorem d_M_keep_117 : decode b_M_keep 117 = .ok (.aload_n 0, 1) := by decide +kernel
theorem d_M_keep_118 : decode b_M_keep 118 = .ok (.getfield 65, 3) := by decide +kernel
theorem d_M_keep_121 : decode b_M_keep 121 = .ok (.iastore, 1) := by decide +kernel
theorem d_M_keep_122 : decode b_M_keep 122 = .ok (.aload_n 0, 1) := by decide +kernel
theorem d_M_keep_123 : decode b_M_keep 123 = .ok (.getfield 16, 3) := by decide +kernel
theorem d_M_keep_126 : decode b_M_keep 126 = .ok (.aload_n 0, 1) := by decide +kernel
theorem d_M_keep_127 : decode b_M_keep 127 = .ok (.getfield 78, 3) := by decide +kernel
theorem d_M_keep_130 : decode b_M_keep 130 = .ok (.aload_n 0, 1) := by decide +kernel
theorem d_M_keep_131 : decode b_M_keep 131 = .ok (.bipush 32, 2) := by decide +kernel
theorem d_M_keep_133 : decode b_M_keep 133 = .ok (.aload_n 0, 1) := by decide +kernel
theorem d_M_keep_134 : decode b_M_keep 134 = .ok (.getfield 78, 3) := by decide +kernel
theorem d_M_keep_137 : decode b_M_keep 137 = .ok (.imul, 1) := by decide +kernel
theorem d_M_keep_138 : decode b_M_keep 138 = .ok (.invokevirtual 85, 3) := by decide +kernel
theorem d_M_keep_141 : decode b_M_keep 141 = .ok (.iastore, 1) := by decide +kernel
theorem d_M_keep_142 : decode b_M_keep 142 = .ok (.aload_n 0, 1) := by decide +kernel
theorem d_M_keep_143 : decode b_M_keep 143 = .ok (.dup, 1) := by decide +kernel
theorem d_M_keep_144 : decode b_M_keep 144 = .ok (.getfield 78, 3) := by decide +kernel
theorem d_M_keep_147 : decode b_M_keep 147 = .ok (.iconst 1, 1) := by decide +kernel
theorem d_M_keep_148 : decode b_M_keep 148 = .ok (.iadd, 1) := by decide +kernel
theorem d_M_keep_149 : decode b_M_keep 149 = .ok (.putfield 78, 3) := by decide +kernel
theorem d_M_keep_152 : decode b_M_keep 152 = .ok (.aload_n 0, 1) := by decide +kernel
theorem d_M_keep_153 : decode b_M_keep 153 = .ok (.getfield 78, 3) := by decide +kernel
theorem d_M_keep_156 : decode b_M_keep 156 = .ok (.iconst 1, 1) := by decide +kernel
theorem d_M_keep_157 : decode b_M_keep 157 = .ok (.isub, 1) := by decide +kernel
theorem d_M_keep_158 : decode b_M_keep 158 = .ok (.ireturn, 1) := by decide +kernel
theorem d_M_isType_0 : decode b_M_isType 0 = .ok (.iload_n 1, 1) := by decide +kernel
theorem d_M_isType_1 : decode b_M_isType 1 = .ok (.ifCond .lt 15, 3) := by decide +kernel
theorem d_M_isType_4 : decode b_M_isType 4 = .ok (.iload_n 1, 1) := by decide +kernel
theorem d_M_isType_5 : decode b_M_isType 5 = .ok (.aload_n 0, 1) := by decide +kernel
theorem d_M_isType_6 : decode b_M_isType 6 = .ok (.getfield 22, 3) := by decide +kernel
theorem d_M_isType_9 : decode b_M_isType 9 = .ok (.if_icmp .ge 7, 3) := by decide +kernel
theorem d_M_isType_12 : decode b_M_isType 12 = .ok (.iconst 1, 1) := by decide +kernel
theorem d_M_isType_13 : decode b_M_isType 13 = .ok (.goto 4, 3) := by decide +kernel
theorem d_M_isType_16 : decode b_M_isType 16 = .ok (.iconst 0, 1) := by decide +kernel
theorem d_M_isType_17 : decode b_M_isType 17 = .ok (.ireturn, 1) := by decide +kernel
theorem d_M_isTerm_0 : decode b_M_isTerm 0 = .ok (.iload_n 1, 1) := by decide +kernel
theorem d_M_isTerm_1 : decode b_M_isTerm 1 = .ok (.ifCond .lt 15, 3) := by decide +kernel
theorem d_M_isTerm_4 : decode b_M_isTerm 4 = .ok (.iload_n 1, 1) := by decide +kernel
theorem d_M_isTerm_5 : decode b_M_isTerm 5 = .ok (.aload_n 0, 1) := by decide +kernel
theorem d_M_isTerm_6 : decode b_M_isTerm 6 = .ok (.getfield 78, 3) := by decide +kernel
theorem d_M_isTerm_9 : decode b_M_isTerm 9 = .ok (.if_icmp .ge 7, 3) := by decide +kernel
theorem d_M_isTerm_12 : decode b_M_isTerm 12 = .ok (.iconst 1, 1) := by decide +kernel
theorem d_M_isTerm_13 : decode b_M_isTerm 13 = .ok (.goto 4, 3) := by decide +kernel
theorem d_M_isTerm_16 : decode b_M_isTerm 16 = .ok (.iconst 0, 1) := by decide +kernel
theorem d_M_isTerm_17 : decode b_M_isTerm 17 = .ok (.ireturn, 1) := by decide +kernel
theorem d_M_isVariableTerm_0 : decode b_M_isVariableTerm 0 = .ok (.aload_n 0, 1) := by decide +kernel
theorem d_M_isVariableTerm_1 : decode b_M_isVariableTerm 1 = .ok (.getfield 13, 3) := by decide +kernel
theorem d_M_isVariableTerm_4 : decode b_M_isVariableTerm 4 = .ok (.iload_n 1, 1) := by decide +kernel
theorem d_M_isVariableTerm_5 : decode b_M_isVariableTerm 5 = .ok (.iaload, 1) := by decide +kernel
theorem d_M_isVariableTerm_6 : decode b_M_isVariableTerm 6 = .ok (.iconst 1, 1) := by decide +kernel
theorem d_M_isVariableTerm_7 : decode b_M_isVariableTerm 7 = .ok (.if_icmp .ne 22, 3) := by decide +kernel
theorem d_M_isVariableTerm_10 : decode b_M_isVariableTerm 10 = .ok (.aload_n 0, 1) := by decide +kernel
theorem d_M_isVariableTerm_11 : decode b_M_isVariableTerm 11 = .ok (.getfield 7, 3) := by decide +kernel
theorem d_M_isVariableTerm_14 : decode b_M_isVariableTerm 14 = .ok (.bipush 32, 2) := by decide +kernel
theorem d_M_isVariableTerm_16 : decode b_M_isVariableTerm 16 = .ok (.iload_n 1, 1) := by decide +kernel
theorem d_M_isVariableTerm_17 : decode b_M_isVariableTerm 17 = .ok (.imul, 1) := by decide +kernel
theorem d_M_isVariableTerm_18 : decode b_M_isVariableTerm 18 = .ok (.iaload, 1) := by decide +kernel
theorem d_M_isVariableTerm_19 : decode b_M_isVariableTerm 19 = .ok (.invokestatic 88, 3) := by decide +kernel
theorem d_M_isVariableTerm_22 : decode b_M_isVariableTerm 22 = .ok (.ifCond .eq 7, 3) := by decide +kernel
theorem d_M_isVariableTerm_25 : decode b_M_isVariableTerm 25 = .ok (.iconst 1, 1) := by decide +kernel
theorem d_M_isVariableTerm_26 : decode b_M_isVariableTerm 26 = .ok (.goto 4, 3) := by decide +kernel
theorem d_M_isVariableTerm_29 : decode b_M_isVariableTerm 29 = .ok (.iconst 0, 1) := by decide +kernel
theorem d_M_isVariableTerm_30 : decode b_M_isVariableTerm 30 = .ok (.ireturn, 1) := by decide +kernel
theorem d_M_arrow_0 : decode b_M_arrow 0 = .ok (.aload_n 0, 1) := by decide +kernel
theorem d_M_arrow_1 : decode b_M_arrow 1 = .ok (.iload_n 1, 1) := by decide +kernel
theorem d_M_arrow_2 : decode b_M_arrow 2 = .ok (.invokevirtual 92, 3) := by decide +kernel
theorem d_M_arrow_5 : decode b_M_arrow 5 = .ok (.ifCond .eq 11, 3) := by decide +kernel
theorem d_M_arrow_8 : decode b_M_arrow 8 = .ok (.aload_n 0, 1) := by decide +kernel
theorem d_M_arrow_9 : decode b_M_arrow 9 = .ok (.iload_n 2, 1) := by decide +kernel
theorem d_M_arrow_10 : decode b_M_arrow 10 = .ok (.invokevirtual 92, 3) := by decide +kernel
theorem d_M_arrow_13 : decode b_M_arrow 13 = .ok (.ifCond .ne 5, 3) := by decide +kernel
theorem d_M_arrow_16 : decode b_M_arrow 16 = .ok (.iconst (-1), 1) := by decide +kernel
theorem d_M_arrow_17 : decode b_M_arrow 17 = .ok (.ireturn, 1) := by decide +kernel
theorem d_M_arrow_18 : decode b_M_arrow 18 = .ok (.aload_n 0, 1) := by decide +kernel
theorem d_M_arrow_19 : decode b_M_arrow 19 = .ok (.iload_n 1, 1) := by decide +kernel
theorem d_M_arrow_20 : decode b_M_arrow 20 = .ok (.iload_n 2, 1) := by decide +kernel
theorem d_M_arrow_21 : decode b_M_arrow 21 = .ok (.invokevirtual 61, 3) := by decide +kernel
theorem d_M_arrow_24 : decode b_M_arrow 24 = .ok (.istore_n 3, 1) := by decide +kernel
theorem d_M_arrow_25 : decode b_M_arrow 25 = .ok (.iload_n 3, 1) := by decide +kernel
theorem d_M_arrow_26 : decode b_M_arrow 26 = .ok (.ifCond .ge 12, 3) := by decide +kernel
theorem d_M_arrow_29 : decode b_M_arrow 29 = .ok (.aload_n 0, 1) := by decide +kernel
theorem d_M_arrow_30 : decode b_M_arrow 30 = .ok (.getfield 22, 3) := by decide +kernel
theorem d_M_arrow_33 : decode b_M_arrow 33 = .ok (.bipush 16, 2) := by decide +kernel
theorem d_M_arrow_35 : decode b_M_arrow 35 = .ok (.if_icmp .ne 14, 3) := by decide +kernel
theorem d_M_arrow_38 : decode b_M_arrow 38 = .ok (.iload_n 3, 1) := by decide +kernel
theorem d_M_arrow_39 : decode b_M_arrow 39 = .ok (.ifCond .lt 7, 3) := by decide +kernel
theorem d_M_arrow_42 : decode b_M_arrow 42 = .ok (.iload_n 3, 1) := by decide +kernel
theorem d_M_arrow_43 : decode b_M_arrow 43 = .ok (.goto 5, 3) := by decide +kernel
theorem d_M_arrow_46 : decode b_M_arrow 46 = .ok (.bipush (-4), 2) := by decide +kernel
theorem d_M_arrow_48 : decode b_M_arrow 48 = .ok (.ireturn, 1) := by decide +kernel
theorem d_M_arrow_49 : decode b_M_arrow 49 = .ok (.aload_n 0, 1) := by decide +kernel
theorem d_M_arrow_50 : decode b_M_arrow 50 = .ok (.getfield 26, 3) := by decide +kernel
theorem d_M_arrow_53 : decode b_M_arrow 53 = .ok (.aload_n 0, 1) := by decide +kernel
theorem d_M_arrow_54 : decode b_M_arrow 54 = .ok (.getfield 22, 3) := by decide +kernel
theorem d_M_arrow_57 : decode b_M_arrow 57 = .ok (.iload_n 1, 1) := by decide +kernel
theorem d_M_arrow_58 : decode b_M_arrow 58 = .ok (.iastore, 1) := by decide +kernel
theorem d_M_arrow_59 : decode b_M_arrow 59 = .ok (.aload_n 0, 1) := by decide +kernel
theorem d_M_arrow_60 : decode b_M_arrow 60 = .ok (.getfield 29, 3) := by decide +kernel
theorem d_M_arrow_63 : decode b_M_arrow 63 = .ok (.aload_n 0, 1) := by decide +kernel
theorem d_M_arrow_64 : decode b_M_arrow 64 = .ok (.getfield 22, 3) := by decide +kernel
theorem d_M_arrow_67 : decode b_M_arrow 67 = .ok (.iload_n 2, 1) := by decide +kernel
theorem d_M_arrow_68 : decode b_M_arrow 68 = .ok (.iastore, 1) := by decide +kernel
theorem d_M_arrow_69 : decode b_M_arrow 69 = .ok (.aload_n 0, 1) := by decide +kernel
theorem d_M_arrow_70 : decode b_M_arrow 70 = .ok (.dup, 1) := by decide +kernel
theorem d_M_arrow_71 : decode b_M_arrow 71 = .ok (.getfield 22, 3) := by decide +kernel
theorem d_M_arrow_74 : decode b_M_arrow 74 = .ok (.iconst 1, 1) := by decide +kernel
theorem d_M_arrow_75 : decode b_M_arrow 75 = .ok (.iadd, 1) := by decide +kernel
theorem d_M_arrow_76 : decode b_M_arrow 76 = .ok (.putfield 22, 3) := by decide +kernel
theorem d_M_arrow_79 : decode b_M_arrow 79 = .ok (.aload_n 0, 1) := by decide +kernel
theorem d_M_arrow_80 : decode b_M_arrow 80 = .ok (.getfield 22, 3) := by decide +kernel
theorem d_M_arrow_83 : decode b_M_arrow 83 = .ok (.iconst 1, 1) := by decide +kernel
theorem d_M_arrow_84 : decode b_M_arrow 84 = .ok (.isub, 1) := by decide +kernel
theorem d_M_arrow_85 : decode b_M_arrow 85 = .ok (.ireturn, 1) := by decide +kernel
theorem d_M_variable_0 : decode b_M_variable 0 = .ok (.iload_n 1, 1) := by decide +kernel
theorem d_M_variable_1 : decode b_M_variable 1 = .ok (.ifCond .lt 17, 3) := by decide +kernel
theorem d_M_variable_4 : decode b_M_variable 4 = .ok (.iload_n 1, 1) := by decide +kernel
theorem d_M_variable_5 : decode b_M_variable 5 = .ok (.bipush 9, 2) := by decide +kernel
theorem d_M_variable_7 : decode b_M_variable 7 = .ok (.if_icmp .gt 11, 3) := by decide +kernel
theorem d_M_variable_10 : decode b_M_variable 10 = .ok (.aload_n 0, 1) := by decide +kernel
theorem d_M_variable_11 : decode b_M_variable 11 = .ok (.iload_n 2, 1) := by decide +kernel
theorem d_M_variable_12 : decode b_M_variable 12 = .ok (.invokevirtual 92, 3) := by decide +kernel
theorem d_M_variable_15 : decode b_M_variable 15 = .ok (.ifCond .ne 5, 3) := by decide +kernel
theorem d_M_variable_18 : decode b_M_variable 18 = .ok (.iconst (-1), 1) := by decide +kernel
theorem d_M_variable_19 : decode b_M_variable 19 = .ok (.ireturn, 1) := by decide +kernel
theorem d_M_variable_20 : decode b_M_variable 20 = .ok (.aload_n 0, 1) := by decide +kernel
theorem d_M_variable_21 : decode b_M_variable 21 = .ok (.iconst 0, 1) := by decide +kernel
theorem d_M_variable_22 : decode b_M_variable 22 = .ok (.putfield 65, 3) := by decide +kernel
theorem d_M_variable_25 : decode b_M_variable 25 = .ok (.aload_n 0, 1) := by decide +kernel
theorem d_M_variable_26 : decode b_M_variable 26 = .ok (.bipush 64, 2) := by decide +kernel
theorem d_M_variable_28 : decode b_M_variable 28 = .ok (.bipush 16, 2) := by decide +kernel
theorem d_M_variable_30 : decode b_M_variable 30 = .ok (.iload_n 1, 1) := by decide +kernel
theorem d_M_variable_31 : decode b_M_variable 31 = .ok (.imul, 1) := by decide +kernel
theorem d_M_variable_32 : decode b_M_variable 32 = .ok (.iadd, 1) := by decide +kernel
theorem d_M_variable_33 : decode b_M_variable 33 = .ok (.iload_n 2, 1) := by decide +kernel
theorem d_M_variable_34 : decode b_M_variable 34 = .ok (.iadd, 1) := by decide +kernel
theorem d_M_variable_35 : decode b_M_variable 35 = .ok (.invokevirtual 68, 3) := by decide +kernel
theorem d_M_variable_38 : decode b_M_variable 38 = .ok (.aload_n 0, 1) := by decide +kernel
theorem d_M_variable_39 : decode b_M_variable 39 = .ok (.invokevirtual 95, 3) := by decide +kernel
theorem d_M_variable_42 : decode b_M_variable 42 = .ok (.ireturn, 1) := by decide +kernel
theorem d_M_constant_0 : decode b_M_constant 0 = .ok (.iload_n 1, 1) := by decide +kernel
theorem d_M_constant_1 : decode b_M_constant 1 = .ok (.ifCond .lt 16, 3) := by decide +kernel
theorem d_M_constant_4 : decode b_M_constant 4 = .ok (.iload_n 1, 1) := by decide +kernel
theorem d_M_constant_5 : decode b_M_constant 5 = .ok (.iconst 3, 1) := by decide +kernel
theorem d_M_constant_6 : decode b_M_constant 6 = .ok (.if_icmp .gt 11, 3) := by decide +kernel
theorem d_M_constant_9 : decode b_M_constant 9 = .ok (.aload_n 0, 1) := by decide +kernel
theorem d_M_constant_10 : decode b_M_constant 10 = .ok (.iload_n 2, 1) := by decide +kernel
theorem d_M_constant_11 : decode b_M_constant 11 = .ok (.invokevirtual 92, 3) := by decide +kernel
theorem d_M_constant_14 : decode b_M_constant 14 = .ok (.ifCond .ne 5, 3) := by decide +kernel
theorem d_M_constant_17 : decode b_M_constant 17 = .ok (.iconst (-1), 1) := by decide +kernel
theorem d_M_constant_18 : decode b_M_constant 18 = .ok (.ireturn, 1) := by decide +kernel
theorem d_M_constant_19 : decode b_M_constant 19 = .ok (.aload_n 0, 1) := by decide +kernel
theorem d_M_constant_20 : decode b_M_constant 20 = .ok (.getfield 32, 3) := by decide +kernel
theorem d_M_constant_23 : decode b_M_constant 23 = .ok (.iload_n 1, 1) := by decide +kernel
theorem d_M_constant_24 : decode b_M_constant 24 = .ok (.iaload, 1) := by decide +kernel
theorem d_M_constant_25 : decode b_M_constant 25 = .ok (.istore_n 3, 1) := by decide +kernel
theorem d_M_constant_26 : decode b_M_constant 26 = .ok (.iload_n 3, 1) := by decide +kernel
theorem d_M_constant_27 : decode b_M_constant 27 = .ok (.ifCond .le 13, 3) := by decide +kernel
theorem d_M_constant_30 : decode b_M_constant 30 = .ok (.iload_n 3, 1) := by decide +kernel
theorem d_M_constant_31 : decode b_M_constant 31 = .ok (.iload_n 2, 1) := by decide +kernel
theorem d_M_constant_32 : decode b_M_constant 32 = .ok (.iconst 1, 1) := by decide +kernel
theorem d_M_constant_33 : decode b_M_constant 33 = .ok (.iadd, 1) := by decide +kernel
theorem d_M_constant_34 : decode b_M_constant 34 = .ok (.if_icmp .eq 6, 3) := by decide +kernel
theorem d_M_constant_37 : decode b_M_constant 37 = .ok (.bipush (-2), 2) := by decide +kernel
theorem d_M_constant_39 : decode b_M_constant 39 = .ok (.ireturn, 1) := by decide +kernel
theorem d_M_constant_40 : decode b_M_constant 40 = .ok (.aload_n 0, 1) := by decide +kernel
theorem d_M_constant_41 : decode b_M_constant 41 = .ok (.getfield 32, 3) := by decide +kernel
theorem d_M_constant_44 : decode b_M_constant 44 = .ok (.iload_n 1, 1) := by decide +kernel
theorem d_M_constant_45 : decode b_M_constant 45 = .ok (.iload_n 2, 1) := by decide +kernel
theorem d_M_constant_46 : decode b_M_constant 46 = .ok (.iconst 1, 1) := by decide +kernel
theorem d_M_constant_47 : decode b_M_constant 47 = .ok (.iadd, 1) := by decide +kernel
theorem d_M_constant_48 : decode b_M_constant 48 = .ok (.iastore, 1) := by decide +kernel
theorem d_M_constant_49 : decode b_M_constant 49 = .ok (.aload_n 0, 1) := by decide +kernel
theorem d_M_constant_50 : decode b_M_constant 50 = .ok (.iconst 0, 1) := by decide +kernel
theorem d_M_constant_51 : decode b_M_constant 51 = .ok (.putfield 65, 3) := by decide +kernel
theorem d_M_constant_54 : decode b_M_constant 54 = .ok (.aload_n 0, 1) := by decide +kernel
theorem d_M_constant_55 : decode b_M_constant 55 = .ok (.sipush 240, 3) := by decide +kernel
theorem d_M_constant_58 : decode b_M_constant 58 = .ok (.iload_n 1, 1) := by decide +kernel
theorem d_M_constant_59 : decode b_M_constant 59 = .ok (.iadd, 1) := by decide +kernel
theorem d_M_constant_60 : decode b_M_constant 60 = .ok (.invokevirtual 68, 3) := by decide +kernel
theorem d_M_constant_63 : decode b_M_constant 63 = .ok (.aload_n 0, 1) := by decide +kernel
theorem d_M_constant_64 : decode b_M_constant 64 = .ok (.invokevirtual 95, 3) := by decide +kernel
theorem d_M_constant_67 : decode b_M_constant 67 = .ok (.istore 4, 2) := by decide +kernel
theorem d_M_constant_69 : decode b_M_constant 69 = .ok (.aload_n 0, 1) := by decide +kernel
theorem d_M_constant_70 : decode b_M_constant 70 = .ok (.getfield 32, 3) := by decide +kernel
theorem d_M_constant_73 : decode b_M_constant 73 = .ok (.iload_n 1, 1) := by decide +kernel
theorem d_M_constant_74 : decode b_M_constant 74 = .ok (.iload 4, 2) := by decide +kernel
theorem d_M_constant_76 : decode b_M_constant 76 = .ok (.ifCond .ge 7, 3) := by decide +kernel
theorem d_M_constant_79 : decode b_M_constant 79 = .ok (.iload_n 3, 1) := by decide +kernel
theorem d_M_constant_80 : decode b_M_constant 80 = .ok (.goto 6, 3) := by decide +kernel
theorem d_M_constant_83 : decode b_M_constant 83 = .ok (.iload_n 2, 1) := by decide +kernel
theorem d_M_constant_84 : decode b_M_constant 84 = .ok (.iconst 1, 1) := by decide +kernel
theorem d_M_constant_85 : decode b_M_constant 85 = .ok (.iadd, 1) := by decide +kernel
theorem d_M_constant_86 : decode b_M_constant 86 = .ok (.iastore, 1) := by decide +kernel
theorem d_M_constant_87 : decode b_M_constant 87 = .ok (.iload 4, 2) := by decide +kernel
theorem d_M_constant_89 : decode b_M_constant 89 = .ok (.ireturn, 1) := by decide +kernel
theorem d_M_fits_0 : decode b_M_fits 0 = .ok (.iload_n 1, 1) := by decide +kernel
theorem d_M_fits_1 : decode b_M_fits 1 = .ok (.iconst 2, 1) := by decide +kernel
theorem d_M_fits_2 : decode b_M_fits 2 = .ok (.if_icmp .le 17, 3) := by decide +kernel
theorem d_M_fits_5 : decode b_M_fits 5 = .ok (.aload_n 0, 1) := by decide +kernel
theorem d_M_fits_6 : decode b_M_fits 6 = .ok (.getfield 26, 3) := by decide +kernel
theorem d_M_fits_9 : decode b_M_fits 9 = .ok (.iload_n 1, 1) := by decide +kernel
theorem d_M_fits_10 : decode b_M_fits 10 = .ok (.iaload, 1) := by decide +kernel
theorem d_M_fits_11 : decode b_M_fits 11 = .ok (.iload_n 2, 1) := by decide +kernel
theorem d_M_fits_12 : decode b_M_fits 12 = .ok (.if_icmp .ne 7, 3) := by decide +kernel
theorem d_M_fits_15 : decode b_M_fits 15 = .ok (.iconst 1, 1) := by decide +kernel
theorem d_M_fits_16 : decode b_M_fits 16 = .ok (.goto 4, 3) := by decide +kernel
theorem d_M_fits_19 : decode b_M_fits 19 = .ok (.iconst 0, 1) := by decide +kernel
theorem d_M_fits_20 : decode b_M_fits 20 = .ok (.ireturn, 1) := by decide +kernel
theorem d_M_apply_0 : decode b_M_apply 0 = .ok (.aload_n 0, 1) := by decide +kernel
theorem d_M_apply_1 : decode b_M_apply 1 = .ok (.iload_n 1, 1) := by decide +kernel
theorem d_M_apply_2 : decode b_M_apply 2 = .ok (.invokevirtual 99, 3) := by decide +kernel
theorem d_M_apply_5 : decode b_M_apply 5 = .ok (.ifCond .eq 11, 3) := by decide +kernel
theorem d_M_apply_8 : decode b_M_apply 8 = .ok (.aload_n 0, 1) := by decide +kernel
theorem d_M_apply_9 : decode b_M_apply 9 = .ok (.iload_n 2, 1) := by decide +kernel
theorem d_M_apply_10 : decode b_M_apply 10 = .ok (.invokevirtual 99, 3) := by decide +kernel
theorem d_M_apply_13 : decode b_M_apply 13 = .ok (.ifCond .ne 5, 3) := by decide +kernel
theorem d_M_apply_16 : decode b_M_apply 16 = .ok (.iconst (-1), 1) := by decide +kernel
theorem d_M_apply_17 : decode b_M_apply 17 = .ok (.ireturn, 1) := by decide +kernel
theorem d_M_apply_18 : decode b_M_apply 18 = .ok (.aload_n 0, 1) := by decide +kernel
theorem d_M_apply_19 : decode b_M_apply 19 = .ok (.aload_n 0, 1) := by decide +kernel
theorem d_M_apply_20 : decode b_M_apply 20 = .ok (.getfield 16, 3) := by decide +kernel
theorem d_M_apply_23 : decode b_M_apply 23 = .ok (.iload_n 1, 1) := by decide +kernel
theorem d_M_apply_24 : decode b_M_apply 24 = .ok (.iaload, 1) := by decide +kernel
theorem d_M_apply_25 : decode b_M_apply 25 = .ok (.aload_n 0, 1) := by decide +kernel
theorem d_M_apply_26 : decode b_M_apply 26 = .ok (.getfield 16, 3) := by decide +kernel
theorem d_M_apply_29 : decode b_M_apply 29 = .ok (.iload_n 2, 1) := by decide +kernel
theorem d_M_apply_30 : decode b_M_apply 30 = .ok (.iaload, 1) := by decide +kernel
theorem d_M_apply_31 : decode b_M_apply 31 = .ok (.invokevirtual 102, 3) := by decide +kernel
theorem d_M_apply_34 : decode b_M_apply 34 = .ok (.ifCond .ne 6, 3) := by decide +kernel
theorem d_M_apply_37 : decode b_M_apply 37 = .ok (.bipush (-2), 2) := by decide +kernel
theorem d_M_apply_39 : decode b_M_apply 39 = .ok (.ireturn, 1) := by decide +kernel
theorem d_M_apply_40 : decode b_M_apply 40 = .ok (.aload_n 0, 1) := by decide +kernel
theorem d_M_apply_41 : decode b_M_apply 41 = .ok (.iconst 0, 1) := by decide +kernel
theorem d_M_apply_42 : decode b_M_apply 42 = .ok (.putfield 65, 3) := by decide +kernel
theorem d_M_apply_45 : decode b_M_apply 45 = .ok (.aload_n 0, 1) := by decide +kernel
theorem d_M_apply_46 : decode b_M_apply 46 = .ok (.iconst 1, 1) := by decide +kernel
theorem d_M_apply_47 : decode b_M_apply 47 = .ok (.invokevirtual 68, 3) := by decide +kernel
theorem d_M_apply_50 : decode b_M_apply 50 = .ok (.aload_n 0, 1) := by decide +kernel
theorem d_M_apply_51 : decode b_M_apply 51 = .ok (.bipush 32, 2) := by decide +kernel
theorem d_M_apply_53 : decode b_M_apply 53 = .ok (.iload_n 1, 1) := by decide +kernel
theorem d_M_apply_54 : decode b_M_apply 54 = .ok (.imul, 1) := by decide +kernel
theorem d_M_apply_55 : decode b_M_apply 55 = .ok (.invokevirtual 72, 3) := by decide +kernel
theorem d_M_apply_58 : decode b_M_apply 58 = .ok (.aload_n 0, 1) := by decide +kernel
theorem d_M_apply_59 : decode b_M_apply 59 = .ok (.bipush 32, 2) := by decide +kernel
theorem d_M_apply_61 : decode b_M_apply 61 = .ok (.iload_n 2, 1) := by decide +kernel
theorem d_M_apply_62 : decode b_M_apply 62 = .ok (.imul, 1) := by decide +kernel
theorem d_M_apply_63 : decode b_M_apply 63 = .ok (.invokevirtual 72, 3) := by decide +kernel
theorem d_M_apply_66 : decode b_M_apply 66 = .ok (.aload_n 0, 1) := by decide +kernel
theorem d_M_apply_67 : decode b_M_apply 67 = .ok (.invokevirtual 95, 3) := by decide +kernel
theorem d_M_apply_70 : decode b_M_apply 70 = .ok (.ireturn, 1) := by decide +kernel
theorem d_M_bind_0 : decode b_M_bind 0 = .ok (.aload_n 0, 1) := by decide +kernel
theorem d_M_bind_1 : decode b_M_bind 1 = .ok (.iload_n 2, 1) := by decide +kernel
theorem d_M_bind_2 : decode b_M_bind 2 = .ok (.invokevirtual 99, 3) := by decide +kernel
theorem d_M_bind_5 : decode b_M_bind 5 = .ok (.ifCond .eq 11, 3) := by decide +kernel
theorem d_M_bind_8 : decode b_M_bind 8 = .ok (.aload_n 0, 1) := by decide +kernel
theorem d_M_bind_9 : decode b_M_bind 9 = .ok (.iload_n 3, 1) := by decide +kernel
theorem d_M_bind_10 : decode b_M_bind 10 = .ok (.invokevirtual 99, 3) := by decide +kernel
theorem d_M_bind_13 : decode b_M_bind 13 = .ok (.ifCond .ne 5, 3) := by decide +kernel
theorem d_M_bind_16 : decode b_M_bind 16 = .ok (.iconst (-1), 1) := by decide +kernel
theorem d_M_bind_17 : decode b_M_bind 17 = .ok (.ireturn, 1) := by decide +kernel
theorem d_M_bind_18 : decode b_M_bind 18 = .ok (.aload_n 0, 1) := by decide +kernel
theorem d_M_bind_19 : decode b_M_bind 19 = .ok (.iload_n 2, 1) := by decide +kernel
theorem d_M_bind_20 : decode b_M_bind 20 = .ok (.invokevirtual 105, 3) := by decide +kernel
theorem d_M_bind_23 : decode b_M_bind 23 = .ok (.ifCond .eq 16, 3) := by decide +kernel
theorem d_M_bind_26 : decode b_M_bind 26 = .ok (.iload_n 1, 1) := by decide +kernel
theorem d_M_bind_27 : decode b_M_bind 27 = .ok (.ifCond .eq 15, 3) := by decide +kernel
theorem d_M_bind_30 : decode b_M_bind 30 = .ok (.aload_n 0, 1) := by decide +kernel
theorem d_M_bind_31 : decode b_M_bind 31 = .ok (.getfield 16, 3) := by decide +kernel
theorem d_M_bind_34 : decode b_M_bind 34 = .ok (.iload_n 3, 1) := by decide +kernel
theorem d_M_bind_35 : decode b_M_bind 35 = .ok (.iaload, 1) := by decide +kernel
theorem d_M_bind_36 : decode b_M_bind 36 = .ok (.ifCond .eq 6, 3) := by decide +kernel
theorem d_M_bind_39 : decode b_M_bind 39 = .ok (.bipush (-2), 2) := by decide +kernel
theorem d_M_bind_41 : decode b_M_bind 41 = .ok (.ireturn, 1) := by decide +kernel
theorem d_M_bind_42 : decode b_M_bind 42 = .ok (.aload_n 0, 1) := by decide +kernel
theorem d_M_bind_43 : decode b_M_bind 43 = .ok (.getfield 22, 3) := by decide +kernel
theorem d_M_bind_46 : decode b_M_bind 46 = .ok (.istore 4, 2) := by decide +kernel
theorem d_M_bind_48 : decode b_M_bind 48 = .ok (.iload_n 1, 1) := by decide +kernel
theorem d_M_bind_49 : decode b_M_bind 49 = .ok (.ifCond .ne 25, 3) := by decide +kernel
theorem d_M_bind_52 : decode b_M_bind 52 = .ok (.aload_n 0, 1) := by decide +kernel
theorem d_M_bind_53 : decode b_M_bind 53 = .ok (.aload_n 0, 1) := by decide +kernel
theorem d_M_bind_54 : decode b_M_bind 54 = .ok (.getfield 16, 3) := by decide +kernel
theorem d_M_bind_57 : decode b_M_bind 57 = .ok (.iload_n 2, 1) := by decide +kernel
theorem d_M_bind_58 : decode b_M_bind 58 = .ok (.iaload, 1) := by decide +kernel
theorem d_M_bind_59 : decode b_M_bind 59 = .ok (.aload_n 0, 1) := by decide +kernel
theorem d_M_bind_60 : decode b_M_bind 60 = .ok (.getfield 16, 3) := by decide +kernel
theorem d_M_bind_63 : decode b_M_bind 63 = .ok (.iload_n 3, 1) := by decide +kernel
theorem d_M_bind_64 : decode b_M_bind 64 = .ok (.iaload, 1) := by decide +kernel
theorem d_M_bind_65 : decode b_M_bind 65 = .ok (.invokevirtual 108, 3) := by decide +kernel
theorem d_M_bind_68 : decode b_M_bind 68 = .ok (.ifCond .ge 6, 3) := by decide +kernel
theorem d_M_bind_71 : decode b_M_bind 71 = .ok (.bipush (-4), 2) := by decide +kernel
theorem d_M_bind_73 : decode b_M_bind 73 = .ok (.ireturn, 1) := by decide +kernel
theorem d_M_bind_74 : decode b_M_bind 74 = .ok (.aload_n 0, 1) := by decide +kernel
theorem d_M_bind_75 : decode b_M_bind 75 = .ok (.iconst 0, 1) := by decide +kernel
theorem d_M_bind_76 : decode b_M_bind 76 = .ok (.putfield 65, 3) := by decide +kernel
theorem d_M_bind_79 : decode b_M_bind 79 = .ok (.aload_n 0, 1) := by decide +kernel
theorem d_M_bind_80 : decode b_M_bind 80 = .ok (.iload_n 1, 1) := by decide +kernel
theorem d_M_bind_81 : decode b_M_bind 81 = .ok (.ifCond .eq 8, 3) := by decide +kernel
theorem d_M_bind_84 : decode b_M_bind 84 = .ok (.bipush 32, 2) := by decide +kernel
theorem d_M_bind_86 : decode b_M_bind 86 = .ok (.goto 5, 3) := by decide +kernel
theorem d_M_bind_89 : decode b_M_bind 89 = .ok (.bipush 16, 2) := by decide +kernel
theorem d_M_bind_91 : decode b_M_bind 91 = .ok (.aload_n 0, 1) := by decide +kernel
theorem d_M_bind_92 : decode b_M_bind 92 = .ok (.getfield 16, 3) := by decide +kernel
theorem d_M_bind_95 : decode b_M_bind 95 = .ok (.iload_n 2, 1) := by decide +kernel
theorem d_M_bind_96 : decode b_M_bind 96 = .ok (.iaload, 1) := by decide +kernel
theorem d_M_bind_97 : decode b_M_bind 97 = .ok (.iadd, 1) := by decide +kernel
theorem d_M_bind_98 : decode b_M_bind 98 = .ok (.invokevirtual 68, 3) := by decide +kernel
theorem d_M_bind_101 : decode b_M_bind 101 = .ok (.aload_n 0, 1) := by decide +kernel
theorem d_M_bind_102 : decode b_M_bind 102 = .ok (.bipush 32, 2) := by decide +kernel
theorem d_M_bind_104 : decode b_M_bind 104 = .ok (.iload_n 3, 1) := by decide +kernel
theorem d_M_bind_105 : decode b_M_bind 105 = .ok (.imul, 1) := by decide +kernel
theorem d_M_bind_106 : decode b_M_bind 106 = .ok (.aload_n 0, 1) := by decide +kernel
theorem d_M_bind_107 : decode b_M_bind 107 = .ok (.getfield 7, 3) := by decide +kernel
theorem d_M_bind_110 : decode b_M_bind 110 = .ok (.bipush 32, 2) := by decide +kernel
theorem d_M_bind_112 : decode b_M_bind 112 = .ok (.iload_n 2, 1) := by decide +kernel
theorem d_M_bind_113 : decode b_M_bind 113 = .ok (.imul, 1) := by decide +kernel
theorem d_M_bind_114 : decode b_M_bind 114 = .ok (.iaload, 1) := by decide +kernel
theorem d_M_bind_115 : decode b_M_bind 115 = .ok (.iconst (-1), 1) := by decide +kernel
theorem d_M_bind_116 : decode b_M_bind 116 = .ok (.invokevirtual 111, 3) := by decide +kernel
theorem d_M_bind_119 : decode b_M_bind 119 = .ok (.aload_n 0, 1) := by decide +kernel
theorem d_M_bind_120 : decode b_M_bind 120 = .ok (.invokevirtual 95, 3) := by decide +kernel
theorem d_M_bind_123 : decode b_M_bind 123 = .ok (.istore 5, 2) := by decide +kernel
theorem d_M_bind_125 : decode b_M_bind 125 = .ok (.aload_n 0, 1) := by decide +kernel
theorem d_M_bind_126 : decode b_M_bind 126 = .ok (.iload 5, 2) := by decide +kernel
theorem d_M_bind_128 : decode b_M_bind 128 = .ok (.ifCond .ge 8, 3) := by decide +kernel
theorem d_M_bind_131 : decode b_M_bind 131 = .ok (.iload 4, 2) := by decide +kernel
theorem d_M_bind_133 : decode b_M_bind 133 = .ok (.goto 7, 3) := by decide +kernel
theorem d_M_bind_136 : decode b_M_bind 136 = .ok (.aload_n 0, 1) := by decide +kernel
theorem d_M_bind_137 : decode b_M_bind 137 = .ok (.getfield 22, 3) := by decide +kernel
theorem d_M_bind_140 : decode b_M_bind 140 = .ok (.putfield 22, 3) := by decide +kernel
theorem d_M_bind_143 : decode b_M_bind 143 = .ok (.iload 5, 2) := by decide +kernel
theorem d_M_bind_145 : decode b_M_bind 145 = .ok (.ireturn, 1) := by decide +kernel
theorem d_M_join_0 : decode b_M_join 0 = .ok (.aload_n 0, 1) := by decide +kernel
theorem d_M_join_1 : decode b_M_join 1 = .ok (.iload_n 2, 1) := by decide +kernel
theorem d_M_join_2 : decode b_M_join 2 = .ok (.invokevirtual 99, 3) := by decide +kernel
theorem d_M_join_5 : decode b_M_join 5 = .ok (.ifCond .eq 11, 3) := by decide +kernel
theorem d_M_join_8 : decode b_M_join 8 = .ok (.aload_n 0, 1) := by decide +kernel
theorem d_M_join_9 : decode b_M_join 9 = .ok (.iload_n 3, 1) := by decide +kernel
theorem d_M_join_10 : decode b_M_join 10 = .ok (.invokevirtual 99, 3) := by decide +kernel
theorem d_M_join_13 : decode b_M_join 13 = .ok (.ifCond .ne 5, 3) := by decide +kernel
theorem d_M_join_16 : decode b_M_join 16 = .ok (.iconst (-1), 1) := by decide +kernel
theorem d_M_join_17 : decode b_M_join 17 = .ok (.ireturn, 1) := by decide +kernel
theorem d_M_join_18 : decode b_M_join 18 = .ok (.aload_n 0, 1) := by decide +kernel
theorem d_M_join_19 : decode b_M_join 19 = .ok (.getfield 16, 3) := by decide +kernel
theorem d_M_join_22 : decode b_M_join 22 = .ok (.iload_n 2, 1) := by decide +kernel
theorem d_M_join_23 : decode b_M_join 23 = .ok (.iaload, 1) := by decide +kernel
theorem d_M_join_24 : decode b_M_join 24 = .ok (.aload_n 0, 1) := by decide +kernel
theorem d_M_join_25 : decode b_M_join 25 = .ok (.getfield 16, 3) := by decide +kernel
theorem d_M_join_28 : decode b_M_join 28 = .ok (.iload_n 3, 1) := by decide +kernel
theorem d_M_join_29 : decode b_M_join 29 = .ok (.iaload, 1) := by decide +kernel
theorem d_M_join_30 : decode b_M_join 30 = .ok (.if_icmp .ne 16, 3) := by decide +kernel
theorem d_M_join_33 : decode b_M_join 33 = .ok (.iload_n 1, 1) := by decide +kernel
theorem d_M_join_34 : decode b_M_join 34 = .ok (.ifCond .ne 15, 3) := by decide +kernel
theorem d_M_join_37 : decode b_M_join 37 = .ok (.aload_n 0, 1) := by decide +kernel
theorem d_M_join_38 : decode b_M_join 38 = .ok (.getfield 16, 3) := by decide +kernel
theorem d_M_join_41 : decode b_M_join 41 = .ok (.iload_n 2, 1) := by decide +kernel
theorem d_M_join_42 : decode b_M_join 42 = .ok (.iaload, 1) := by decide +kernel
theorem d_M_join_43 : decode b_M_join 43 = .ok (.ifCond .eq 6, 3) := by decide +kernel
theorem d_M_join_46 : decode b_M_join 46 = .ok (.bipush (-2), 2) := by decide +kernel
theorem d_M_join_48 : decode b_M_join 48 = .ok (.ireturn, 1) := by decide +kernel
theorem d_M_join_49 : decode b_M_join 49 = .ok (.aload_n 0, 1) := by decide +kernel
theorem d_M_join_50 : decode b_M_join 50 = .ok (.iconst 0, 1) := by decide +kernel
theorem d_M_join_51 : decode b_M_join 51 = .ok (.putfield 65, 3) := by decide +kernel
theorem d_M_join_54 : decode b_M_join 54 = .ok (.aload_n 0, 1) := by decide +kernel
theorem d_M_join_55 : decode b_M_join 55 = .ok (.iload_n 1, 1) := by decide +kernel
theorem d_M_join_56 : decode b_M_join 56 = .ok (.ifCond .eq 7, 3) := by decide +kernel
theorem d_M_join_59 : decode b_M_join 59 = .ok (.iconst 3, 1) := by decide +kernel
theorem d_M_join_60 : decode b_M_join 60 = .ok (.goto 4, 3) := by decide +kernel
theorem d_M_join_63 : decode b_M_join 63 = .ok (.iconst 2, 1) := by decide +kernel
theorem d_M_join_64 : decode b_M_join 64 = .ok (.invokevirtual 68, 3) := by decide +kernel
theorem d_M_join_67 : decode b_M_join 67 = .ok (.aload_n 0, 1) := by decide +kernel
theorem d_M_join_68 : decode b_M_join 68 = .ok (.bipush 32, 2) := by decide +kernel
theorem d_M_join_70 : decode b_M_join 70 = .ok (.iload_n 2, 1) := by decide +kernel
theorem d_M_join_71 : decode b_M_join 71 = .ok (.imul, 1) := by decide +kernel
theorem d_M_join_72 : decode b_M_join 72 = .ok (.invokevirtual 72, 3) := by decide +kernel
theorem d_M_join_75 : decode b_M_join 75 = .ok (.aload_n 0, 1) := by decide +kernel
theorem d_M_join_76 : decode b_M_join 76 = .ok (.bipush 32, 2) := by decide +kernel
theorem d_M_join_78 : decode b_M_join 78 = .ok (.iload_n 3, 1) := by decide +kernel
theorem d_M_join_79 : decode b_M_join 79 = .ok (.imul, 1) := by decide +kernel
theorem d_M_join_80 : decode b_M_join 80 = .ok (.invokevirtual 72, 3) := by decide +kernel
theorem d_M_join_83 : decode b_M_join 83 = .ok (.aload_n 0, 1) := by decide +kernel
theorem d_M_join_84 : decode b_M_join 84 = .ok (.invokevirtual 95, 3) := by decide +kernel
theorem d_M_join_87 : decode b_M_join 87 = .ok (.ireturn, 1) := by decide +kernel
theorem d_M_isTheorem_0 : decode b_M_isTheorem 0 = .ok (.iload_n 1, 1) := by decide +kernel
theorem d_M_isTheorem_1 : decode b_M_isTheorem 1 = .ok (.ifCond .lt 15, 3) := by decide +kernel
theorem d_M_isTheorem_4 : decode b_M_isTheorem 4 = .ok (.iload_n 1, 1) := by decide +kernel
theorem d_M_isTheorem_5 : decode b_M_isTheorem 5 = .ok (.aload_n 0, 1) := by decide +kernel
theorem d_M_isTheorem_6 : decode b_M_isTheorem 6 = .ok (.getfield 115, 3) := by decide +kernel
theorem d_M_isTheorem_9 : decode b_M_isTheorem 9 = .ok (.if_icmp .ge 7, 3) := by decide +kernel
theorem d_M_isTheorem_12 : decode b_M_isTheorem 12 = .ok (.iconst 1, 1) := by decide +kernel
theorem d_M_isTheorem_13 : decode b_M_isTheorem 13 = .ok (.goto 4, 3) := by decide +kernel
theorem d_M_isTheorem_16 : decode b_M_isTheorem 16 = .ok (.iconst 0, 1) := by decide +kernel
theorem d_M_isTheorem_17 : decode b_M_isTheorem 17 = .ok (.ireturn, 1) := by decide +kernel
theorem d_M_isIn_0 : decode b_M_isIn 0 = .ok (.iconst 0, 1) := by decide +kernel
theorem d_M_isIn_1 : decode b_M_isIn 1 = .ok (.istore_n 3, 1) := by decide +kernel
theorem d_M_isIn_2 : decode b_M_isIn 2 = .ok (.iconst 0, 1) := by decide +kernel
theorem d_M_isIn_3 : decode b_M_isIn 3 = .ok (.istore 4, 2) := by decide +kernel
theorem d_M_isIn_5 : decode b_M_isIn 5 = .ok (.iload 4, 2) := by decide +kernel
theorem d_M_isIn_7 : decode b_M_isIn 7 = .ok (.aload_n 0, 1) := by decide +kernel
theorem d_M_isIn_8 : decode b_M_isIn 8 = .ok (.getfield 13, 3) := by decide +kernel
theorem d_M_isIn_11 : decode b_M_isIn 11 = .ok (.iload_n 2, 1) := by decide +kernel
theorem d_M_isIn_12 : decode b_M_isIn 12 = .ok (.iaload, 1) := by decide +kernel
theorem d_M_isIn_13 : decode b_M_isIn 13 = .ok (.if_icmp .ge 35, 3) := by decide +kernel
theorem d_M_isIn_16 : decode b_M_isIn 16 = .ok (.iload_n 3, 1) := by decide +kernel
theorem d_M_isIn_17 : decode b_M_isIn 17 = .ok (.ifCond .ne 19, 3) := by decide +kernel
theorem d_M_isIn_20 : decode b_M_isIn 20 = .ok (.aload_n 0, 1) := by decide +kernel
theorem d_M_isIn_21 : decode b_M_isIn 21 = .ok (.getfield 7, 3) := by decide +kernel
theorem d_M_isIn_24 : decode b_M_isIn 24 = .ok (.bipush 32, 2) := by decide +kernel
theorem d_M_isIn_26 : decode b_M_isIn 26 = .ok (.iload_n 2, 1) := by decide +kernel
theorem d_M_isIn_27 : decode b_M_isIn 27 = .ok (.imul, 1) := by decide +kernel
theorem d_M_isIn_28 : decode b_M_isIn 28 = .ok (.iload 4, 2) := by decide +kernel
theorem d_M_isIn_30 : decode b_M_isIn 30 = .ok (.iadd, 1) := by decide +kernel
theorem d_M_isIn_31 : decode b_M_isIn 31 = .ok (.iaload, 1) := by decide +kernel
theorem d_M_isIn_32 : decode b_M_isIn 32 = .ok (.iload_n 1, 1) := by decide +kernel
theorem d_M_isIn_33 : decode b_M_isIn 33 = .ok (.if_icmp .ne 7, 3) := by decide +kernel
theorem d_M_isIn_36 : decode b_M_isIn 36 = .ok (.iconst 1, 1) := by decide +kernel
theorem d_M_isIn_37 : decode b_M_isIn 37 = .ok (.goto 4, 3) := by decide +kernel
theorem d_M_isIn_40 : decode b_M_isIn 40 = .ok (.iconst 0, 1) := by decide +kernel
theorem d_M_isIn_41 : decode b_M_isIn 41 = .ok (.istore_n 3, 1) := by decide +kernel
theorem d_M_isIn_42 : decode b_M_isIn 42 = .ok (.iinc 4 1, 3) := by decide +kernel
theorem d_M_isIn_45 : decode b_M_isIn 45 = .ok (.goto (-40), 3) := by decide +kernel
theorem d_M_isIn_48 : decode b_M_isIn 48 = .ok (.iload_n 3, 1) := by decide +kernel
theorem d_M_isIn_49 : decode b_M_isIn 49 = .ok (.ireturn, 1) := by decide +kernel
theorem d_M_freeInSet_0 : decode b_M_freeInSet 0 = .ok (.iconst 0, 1) := by decide +kernel
theorem d_M_freeInSet_1 : decode b_M_freeInSet 1 = .ok (.istore_n 2, 1) := by decide +kernel
theorem d_M_freeInSet_2 : decode b_M_freeInSet 2 = .ok (.iconst 0, 1) := by decide +kernel
theorem d_M_freeInSet_3 : decode b_M_freeInSet 3 = .ok (.istore_n 3, 1) := by decide +kernel
theorem d_M_freeInSet_4 : decode b_M_freeInSet 4 = .ok (.iload_n 3, 1) := by decide +kernel
theorem d_M_freeInSet_5 : decode b_M_freeInSet 5 = .ok (.aload_n 0, 1) := by decide +kernel
theorem d_M_freeInSet_6 : decode b_M_freeInSet 6 = .ok (.getfield 78, 3) := by decide +kernel
theorem d_M_freeInSet_9 : decode b_M_freeInSet 9 = .ok (.if_icmp .ge 41, 3) := by decide +kernel
theorem d_M_freeInSet_12 : decode b_M_freeInSet 12 = .ok (.iload_n 2, 1) := by decide +kernel
theorem d_M_freeInSet_13 : decode b_M_freeInSet 13 = .ok (.ifCond .ne 25, 3) := by decide +kernel
theorem d_M_freeInSet_16 : decode b_M_freeInSet 16 = .ok (.aload_n 0, 1) := by decide +kernel
theorem d_M_freeInSet_17 : decode b_M_freeInSet 17 = .ok (.getfield 118, 3) := by decide +kernel
theorem d_M_freeInSet_20 : decode b_M_freeInSet 20 = .ok (.iload_n 3, 1) := by decide +kernel
theorem d_M_freeInSet_21 : decode b_M_freeInSet 21 = .ok (.lshr, 1) := by decide +kernel
theorem d_M_freeInSet_22 : decode b_M_freeInSet 22 = .ok (.lconst 1, 1) := by decide +kernel
theorem d_M_freeInSet_23 : decode b_M_freeInSet 23 = .ok (.land, 1) := by decide +kernel
theorem d_M_freeInSet_24 : decode b_M_freeInSet 24 = .ok (.lconst 1, 1) := by decide +kernel
theorem d_M_freeInSet_25 : decode b_M_freeInSet 25 = .ok (.lcmp, 1) := by decide +kernel
theorem d_M_freeInSet_26 : decode b_M_freeInSet 26 = .ok (.ifCond .ne 16, 3) := by decide +kernel
theorem d_M_freeInSet_29 : decode b_M_freeInSet 29 = .ok (.aload_n 0, 1) := by decide +kernel
theorem d_M_freeInSet_30 : decode b_M_freeInSet 30 = .ok (.iload_n 1, 1) := by decide +kernel
theorem d_M_freeInSet_31 : decode b_M_freeInSet 31 = .ok (.iload_n 3, 1) := by decide +kernel
theorem d_M_freeInSet_32 : decode b_M_freeInSet 32 = .ok (.invokevirtual 122, 3) := by decide +kernel
theorem d_M_freeInSet_35 : decode b_M_freeInSet 35 = .ok (.ifCond .eq 7, 3) := by decide +kernel
theorem d_M_freeInSet_38 : decode b_M_freeInSet 38 = .ok (.iconst 1, 1) := by decide +kernel
theorem d_M_freeInSet_39 : decode b_M_freeInSet 39 = .ok (.goto 4, 3) := by decide +kernel
theorem d_M_freeInSet_42 : decode b_M_freeInSet 42 = .ok (.iconst 0, 1) := by decide +kernel
theorem d_M_freeInSet_43 : decode b_M_freeInSet 43 = .ok (.istore_n 2, 1) := by decide +kernel
theorem d_M_freeInSet_44 : decode b_M_freeInSet 44 = .ok (.iinc 3 1, 3) := by decide +kernel
theorem d_M_freeInSet_47 : decode b_M_freeInSet 47 = .ok (.goto (-43), 3) := by decide +kernel
theorem d_M_freeInSet_50 : decode b_M_freeInSet 50 = .ok (.iload_n 2, 1) := by decide +kernel
theorem d_M_freeInSet_51 : decode b_M_freeInSet 51 = .ok (.ireturn, 1) := by decide +kernel
theorem d_M_named_0 : decode b_M_named 0 = .ok (.iload_n 0, 1) := by decide +kernel
theorem d_M_named_1 : decode b_M_named 1 = .ok (.ifCond .eq 20, 3) := by decide +kernel
theorem d_M_named_4 : decode b_M_named 4 = .ok (.iload_n 0, 1) := by decide +kernel
theorem d_M_named_5 : decode b_M_named 5 = .ok (.iconst 1, 1) := by decide +kernel
theorem d_M_named_6 : decode b_M_named 6 = .ok (.if_icmp .eq 15, 3) := by decide +kernel
theorem d_M_named_9 : decode b_M_named 9 = .ok (.iload_n 0, 1) := by decide +kernel
theorem d_M_named_10 : decode b_M_named 10 = .ok (.bipush 6, 2) := by decide +kernel
theorem d_M_named_12 : decode b_M_named 12 = .ok (.if_icmp .eq 9, 3) := by decide +kernel
theorem d_M_named_15 : decode b_M_named 15 = .ok (.iload_n 0, 1) := by decide +kernel
theorem d_M_named_16 : decode b_M_named 16 = .ok (.bipush 11, 2) := by decide +kernel
theorem d_M_named_18 : decode b_M_named 18 = .ok (.if_icmp .ne 7, 3) := by decide +kernel
theorem d_M_named_21 : decode b_M_named 21 = .ok (.iconst 0, 1) := by decide +kernel
theorem d_M_named_22 : decode b_M_named 22 = .ok (.goto 31, 3) := by decide +kernel
theorem d_M_named_25 : decode b_M_named 25 = .ok (.iload_n 0, 1) := by decide +kernel
theorem d_M_named_26 : decode b_M_named 26 = .ok (.iconst 3, 1) := by decide +kernel
theorem d_M_named_27 : decode b_M_named 27 = .ok (.if_icmp .eq 21, 3) := by decide +kernel
theorem d_M_named_30 : decode b_M_named 30 = .ok (.iload_n 0, 1) := by decide +kernel
theorem d_M_named_31 : decode b_M_named 31 = .ok (.bipush 8, 2) := by decide +kernel
theorem d_M_named_33 : decode b_M_named 33 = .ok (.if_icmp .eq 15, 3) := by decide +kernel
theorem d_M_named_36 : decode b_M_named 36 = .ok (.iload_n 0, 1) := by decide +kernel
theorem d_M_named_37 : decode b_M_named 37 = .ok (.bipush 9, 2) := by decide +kernel
theorem d_M_named_39 : decode b_M_named 39 = .ok (.if_icmp .eq 9, 3) := by decide +kernel
theorem d_M_named_42 : decode b_M_named 42 = .ok (.iload_n 0, 1) := by decide +kernel
theorem d_M_named_43 : decode b_M_named 43 = .ok (.bipush 12, 2) := by decide +kernel
theorem d_M_named_45 : decode b_M_named 45 = .ok (.if_icmp .ne 7, 3) := by decide +kernel
theorem d_M_named_48 : decode b_M_named 48 = .ok (.iconst 2, 1) := by decide +kernel
theorem d_M_named_49 : decode b_M_named 49 = .ok (.goto 4, 3) := by decide +kernel
theorem d_M_named_52 : decode b_M_named 52 = .ok (.iconst 1, 1) := by decide +kernel
theorem d_M_named_53 : decode b_M_named 53 = .ok (.ireturn, 1) := by decide +kernel
theorem d_M_there_0 : decode b_M_there 0 = .ok (.iload_n 1, 1) := by decide +kernel
theorem d_M_there_1 : decode b_M_there 1 = .ok (.invokestatic 125, 3) := by decide +kernel
theorem d_M_there_4 : decode b_M_there 4 = .ok (.istore 4, 2) := by decide +kernel
theorem d_M_there_6 : decode b_M_there 6 = .ok (.iload 4, 2) := by decide +kernel
theorem d_M_there_8 : decode b_M_there 8 = .ok (.ifCond .ne 9, 3) := by decide +kernel
theorem d_M_there_11 : decode b_M_there 11 = .ok (.aload_n 0, 1) := by decide +kernel
theorem d_M_there_12 : decode b_M_there 12 = .ok (.iload_n 2, 1) := by decide +kernel
theorem d_M_there_13 : decode b_M_there 13 = .ok (.invokevirtual 99, 3) := by decide +kernel
theorem d_M_there_16 : decode b_M_there 16 = .ok (.ireturn, 1) := by decide +kernel
theorem d_M_there_17 : decode b_M_there 17 = .ok (.aload_n 0, 1) := by decide +kernel
theorem d_M_there_18 : decode b_M_there 18 = .ok (.iload_n 2, 1) := by decide +kernel
theorem d_M_there_19 : decode b_M_there 19 = .ok (.invokevirtual 128, 3) := by decide +kernel
theorem d_M_there_22 : decode b_M_there 22 = .ok (.ifCond .ne 5, 3) := by decide +kernel
theorem d_M_there_25 : decode b_M_there 25 = .ok (.iconst 0, 1) := by decide +kernel
theorem d_M_there_26 : decode b_M_there 26 = .ok (.ireturn, 1) := by decide +kernel
theorem d_M_there_27 : decode b_M_there 27 = .ok (.iload 4, 2) := by decide +kernel
theorem d_M_there_29 : decode b_M_there 29 = .ok (.iconst 2, 1) := by decide +kernel
theorem d_M_there_30 : decode b_M_there 30 = .ok (.if_icmp .ne 9, 3) := by decide +kernel
theorem d_M_there_33 : decode b_M_there 33 = .ok (.aload_n 0, 1) := by decide +kernel
theorem d_M_there_34 : decode b_M_there 34 = .ok (.iload_n 3, 1) := by decide +kernel
theorem d_M_there_35 : decode b_M_there 35 = .ok (.invokevirtual 128, 3) := by decide +kernel
theorem d_M_there_38 : decode b_M_there 38 = .ok (.ireturn, 1) := by decide +kernel
theorem d_M_there_39 : decode b_M_there 39 = .ok (.iload_n 1, 1) := by decide +kernel
theorem d_M_there_40 : decode b_M_there 40 = .ok (.bipush 7, 2) := by decide +kernel
theorem d_M_there_42 : decode b_M_there 42 = .ok (.if_icmp .eq 46, 3) := by decide +kernel
theorem d_M_there_45 : decode b_M_there 45 = .ok (.iload_n 1, 1) := by decide +kernel
theorem d_M_there_46 : decode b_M_there 46 = .ok (.bipush 13, 2) := by decide +kernel
theorem d_M_there_48 : decode b_M_there 48 = .ok (.if_icmp .ne 32, 3) := by decide +kernel
theorem d_M_there_51 : decode b_M_there 51 = .ok (.iload_n 3, 1) := by decide +kernel
theorem d_M_there_52 : decode b_M_there 52 = .ok (.ifCond .lt 40, 3) := by decide +kernel
theorem d_M_there_55 : decode b_M_there 55 = .ok (.aload_n 0, 1) := by decide +kernel
theorem d_M_there_56 : decode b_M_there 56 = .ok (.iload_n 3, 1) := by decide +kernel
theorem d_M_there_57 : decode b_M_there 57 = .ok (.bipush 64, 2) := by decide +kernel
theorem d_M_there_59 : decode b_M_there 59 = .ok (.idiv, 1) := by decide +kernel
theorem d_M_there_60 : decode b_M_there 60 = .ok (.invokevirtual 99, 3) := by decide +kernel
theorem d_M_there_63 : decode b_M_there 63 = .ok (.ifCond .eq 29, 3) := by decide +kernel
theorem d_M_there_66 : decode b_M_there 66 = .ok (.aload_n 0, 1) := by decide +kernel
theorem d_M_there_67 : decode b_M_there 67 = .ok (.iload_n 3, 1) := by decide +kernel
theorem d_M_there_68 : decode b_M_there 68 = .ok (.bipush 64, 2) := by decide +kernel
theorem d_M_there_70 : decode b_M_there 70 = .ok (.irem, 1) := by decide +kernel
theorem d_M_there_71 : decode b_M_there 71 = .ok (.invokevirtual 99, 3) := by decide +kernel
theorem d_M_there_74 : decode b_M_there 74 = .ok (.ifCond .eq 18, 3) := by decide +kernel
theorem d_M_there_77 : decode b_M_there 77 = .ok (.goto 11, 3) := by decide +kernel
theorem d_M_there_80 : decode b_M_there 80 = .ok (.aload_n 0, 1) := by decide +kernel
theorem d_M_there_81 : decode b_M_there 81 = .ok (.iload_n 3, 1) := by decide +kernel
theorem d_M_there_82 : decode b_M_there 82 = .ok (.invokevirtual 99, 3) := by decide +kernel
theorem d_M_there_85 : decode b_M_there 85 = .ok (.ifCond .eq 7, 3) := by decide +kernel
theorem d_M_there_88 : decode b_M_there 88 = .ok (.iconst 1, 1) := by decide +kernel
theorem d_M_there_89 : decode b_M_there 89 = .ok (.goto 4, 3) := by decide +kernel
theorem d_M_there_92 : decode b_M_there 92 = .ok (.iconst 0, 1) := by decide +kernel
theorem d_M_there_93 : decode b_M_there 93 = .ok (.ireturn, 1) := by decide +kernel
theorem d_M_reason_0 : decode b_M_reason 0 = .ok (.iload_n 1, 1) := by decide +kernel
theorem d_M_reason_1 : decode b_M_reason 1 = .ok (.iconst 2, 1) := by decide +kernel
theorem d_M_reason_2 : decode b_M_reason 2 = .ok (.if_icmp .ge 10, 3) := by decide +kernel
theorem d_M_reason_5 : decode b_M_reason 5 = .ok (.bipush 32, 2) := by decide +kernel
theorem d_M_reason_7 : decode b_M_reason 7 = .ok (.iload_n 2, 1) := by decide +kernel
theorem d_M_reason_8 : decode b_M_reason 8 = .ok (.imul, 1) := by decide +kernel
theorem d_M_reason_9 : decode b_M_reason 9 = .ok (.goto 12, 3) := by decide +kernel
theorem d_M_reason_12 : decode b_M_reason 12 = .ok (.bipush 32, 2) := by decide +kernel
theorem d_M_reason_14 : decode b_M_reason 14 = .ok (.aload_n 0, 1) := by decide +kernel
theorem d_M_reason_15 : decode b_M_reason 15 = .ok (.getfield 39, 3) := by decide +kernel
theorem d_M_reason_18 : decode b_M_reason 18 = .ok (.iload_n 2, 1) := by decide +kernel
theorem d_M_reason_19 : decode b_M_reason 19 = .ok (.iaload, 1) := by decide +kernel
theorem d_M_reason_20 : decode b_M_reason 20 = .ok (.imul, 1) := by decide +kernel
theorem d_M_reason_21 : decode b_M_reason 21 = .ok (.istore 4, 2) := by decide +kernel
theorem d_M_reason_23 : decode b_M_reason 23 = .ok (.iload_n 1, 1) := by decide +kernel
theorem d_M_reason_24 : decode b_M_reason 24 = .ok (.iconst 2, 1) := by decide +kernel
theorem d_M_reason_25 : decode b_M_reason 25 = .ok (.if_icmp .ge 7, 3) := by decide +kernel
theorem d_M_reason_28 : decode b_M_reason 28 = .ok (.iload_n 2, 1) := by decide +kernel
theorem d_M_reason_29 : decode b_M_reason 29 = .ok (.goto 4, 3) := by decide +kernel
theorem d_M_reason_32 : decode b_M_reason 32 = .ok (.iload_n 3, 1) := by decide +kernel
theorem d_M_reason_33 : decode b_M_reason 33 = .ok (.istore 5, 2) := by decide +kernel
theorem d_M_reason_35 : decode b_M_reason 35 = .ok (.iload_n 1, 1) := by decide +kernel
theorem d_M_reason_36 : decode b_M_reason 36 = .ok (.iconst 3, 1) := by decide +kernel
theorem d_M_reason_37 : decode b_M_reason 37 = .ok (.if_icmp .ge 88, 3) := by decide +kernel
theorem d_M_reason_40 : decode b_M_reason 40 = .ok (.aload_n 0, 1) := by decide +kernel
theorem d_M_reason_41 : decode b_M_reason 41 = .ok (.getfield 16, 3) := by decide +kernel
theorem d_M_reason_44 : decode b_M_reason 44 = .ok (.iload 5, 2) := by decide +kernel
theorem d_M_reason_46 : decode b_M_reason 46 = .ok (.iaload, 1) := by decide +kernel
theorem d_M_reason_47 : decode b_M_reason 47 = .ok (.ifCond .eq 6, 3) := by decide +kernel
theorem d_M_reason_50 : decode b_M_reason 50 = .ok (.bipush (-2), 2) := by decide +kernel
theorem d_M_reason_52 : decode b_M_reason 52 = .ok (.ireturn, 1) := by decide +kernel
theorem d_M_reason_53 : decode b_M_reason 53 = .ok (.iload_n 1, 1) := by decide +kernel
theorem d_M_reason_54 : decode b_M_reason 54 = .ok (.iconst 2, 1) := by decide +kernel
theorem d_M_reason_55 : decode b_M_reason 55 = .ok (.if_icmp .ne 8, 3) := by decide +kernel
theorem d_M_reason_58 : decode b_M_reason 58 = .ok (.aload_n 0, 1) := by decide +kernel
theorem d_M_reason_59 : decode b_M_reason 59 = .ok (.iconst 2, 1) := by decide +kernel
theorem d_M_reason_60 : decode b_M_reason 60 = .ok (.invokevirtual 68, 3) := by decide +kernel
theorem d_M_reason_63 : decode b_M_reason 63 = .ok (.aload_n 0, 1) := by decide +kernel
theorem d_M_reason_64 : decode b_M_reason 64 = .ok (.bipush 32, 2) := by decide +kernel
theorem d_M_reason_66 : decode b_M_reason 66 = .ok (.iload 5, 2) := by decide +kernel
theorem d_M_reason_68 : decode b_M_reason 68 = .ok (.imul, 1) := by decide +kernel
theorem d_M_reason_69 : decode b_M_reason 69 = .ok (.invokevirtual 72, 3) := by decide +kernel
theorem d_M_reason_72 : decode b_M_reason 72 = .ok (.iload_n 1, 1) := by decide +kernel
theorem d_M_reason_73 : decode b_M_reason 73 = .ok (.iconst 2, 1) := by decide +kernel
theorem d_M_reason_74 : decode b_M_reason 74 = .ok (.if_icmp .ne 9, 3) := by decide +kernel
theorem d_M_reason_77 : decode b_M_reason 77 = .ok (.aload_n 0, 1) := by decide +kernel
theorem d_M_reason_78 : decode b_M_reason 78 = .ok (.iload 4, 2) := by decide +kernel
theorem d_M_reason_80 : decode b_M_reason 80 = .ok (.invokevirtual 72, 3) := by decide +kernel
theorem d_M_reason_83 : decode b_M_reason 83 = .ok (.aload_n 0, 1) := by decide +kernel
theorem d_M_reason_84 : decode b_M_reason 84 = .ok (.iload_n 1, 1) := by decide +kernel
theorem d_M_reason_85 : decode b_M_reason 85 = .ok (.iconst 1, 1) := by decide +kernel
theorem d_M_reason_86 : decode b_M_reason 86 = .ok (.if_icmp .ne 9, 3) := by decide +kernel
theorem d_M_reason_89 : decode b_M_reason 89 = .ok (.lconst 1, 1) := by decide +kernel
theorem d_M_reason_90 : decode b_M_reason 90 = .ok (.iload_n 2, 1) := by decide +kernel
theorem d_M_reason_91 : decode b_M_reason 91 = .ok (.lshl, 1) := by decide +kernel
theorem d_M_reason_92 : decode b_M_reason 92 = .ok (.goto 27, 3) := by decide +kernel
theorem d_M_reason_95 : decode b_M_reason 95 = .ok (.iload_n 1, 1) := by decide +kernel
theorem d_M_reason_96 : decode b_M_reason 96 = .ok (.iconst 2, 1) := by decide +kernel
theorem d_M_reason_97 : decode b_M_reason 97 = .ok (.if_icmp .ne 18, 3) := by decide +kernel
theorem d_M_reason_100 : decode b_M_reason 100 = .ok (.aload_n 0, 1) := by decide +kernel
theorem d_M_reason_101 : decode b_M_reason 101 = .ok (.getfield 118, 3) := by decide +kernel
theorem d_M_reason_104 : decode b_M_reason 104 = .ok (.lconst 1, 1) := by decide +kernel
theorem d_M_reason_105 : decode b_M_reason 105 = .ok (.iload_n 3, 1) := by decide +kernel
theorem d_M_reason_106 : decode b_M_reason 106 = .ok (.lshl, 1) := by decide +kernel
theorem d_M_reason_107 : decode b_M_reason 107 = .ok (.ldc2_w 131, 3) := by decide +kernel
theorem d_M_reason_110 : decode b_M_reason 110 = .ok (.lxor, 1) := by decide +kernel
theorem d_M_reason_111 : decode b_M_reason 111 = .ok (.land, 1) := by decide +kernel
theorem d_M_reason_112 : decode b_M_reason 112 = .ok (.goto 7, 3) := by decide +kernel
theorem d_M_reason_115 : decode b_M_reason 115 = .ok (.aload_n 0, 1) := by decide +kernel
theorem d_M_reason_116 : decode b_M_reason 116 = .ok (.getfield 118, 3) := by decide +kernel
theorem d_M_reason_119 : decode b_M_reason 119 = .ok (.putfield 118, 3) := by decide +kernel
theorem d_M_reason_122 : decode b_M_reason 122 = .ok (.goto 197, 3) := by decide +kernel
theorem d_M_reason_125 : decode b_M_reason 125 = .ok (.iload_n 1, 1) := by decide +kernel
theorem d_M_reason_126 : decode b_M_reason 126 = .ok (.iconst 3, 1) := by decide +kernel
theorem d_M_reason_127 : decode b_M_reason 127 = .ok (.if_icmp .eq 9, 3) := by decide +kernel
theorem d_M_reason_130 : decode b_M_reason 130 = .ok (.iload_n 1, 1) := by decide +kernel
theorem d_M_reason_131 : decode b_M_reason 131 = .ok (.bipush 12, 2) := by decide +kernel
theorem d_M_reason_133 : decode b_M_reason 133 = .ok (.if_icmp .ne 61, 3) := by decide +kernel
theorem d_M_reason_136 : decode b_M_reason 136 = .ok (.aload_n 0, 1) := by decide +kernel
theorem d_M_reason_137 : decode b_M_reason 137 = .ok (.getfield 7, 3) := by decide +kernel
theorem d_M_reason_140 : decode b_M_reason 140 = .ok (.iload 4, 2) := by decide +kernel
theorem d_M_reason_142 : decode b_M_reason 142 = .ok (.iaload, 1) := by decide +kernel
theorem d_M_reason_143 : decode b_M_reason 143 = .ok (.iload_n 1, 1) := by decide +kernel
theorem d_M_reason_144 : decode b_M_reason 144 = .ok (.iconst 3, 1) := by decide +kernel
theorem d_M_reason_145 : decode b_M_reason 145 = .ok (.if_icmp .ne 7, 3) := by decide +kernel
theorem d_M_reason_148 : decode b_M_reason 148 = .ok (.iconst 2, 1) := by decide +kernel
theorem d_M_reason_149 : decode b_M_reason 149 = .ok (.goto 4, 3) := by decide +kernel
theorem d_M_reason_152 : decode b_M_reason 152 = .ok (.iconst 3, 1) := by decide +kernel
theorem d_M_reason_153 : decode b_M_reason 153 = .ok (.if_icmp .ne 23, 3) := by decide +kernel
theorem d_M_reason_156 : decode b_M_reason 156 = .ok (.aload_n 0, 1) := by decide +kernel
theorem d_M_reason_157 : decode b_M_reason 157 = .ok (.iload 4, 2) := by decide +kernel
theorem d_M_reason_159 : decode b_M_reason 159 = .ok (.iconst 1, 1) := by decide +kernel
theorem d_M_reason_160 : decode b_M_reason 160 = .ok (.iadd, 1) := by decide +kernel
theorem d_M_reason_161 : decode b_M_reason 161 = .ok (.bipush 32, 2) := by decide +kernel
theorem d_M_reason_163 : decode b_M_reason 163 = .ok (.aload_n 0, 1) := by decide +kernel
theorem d_M_reason_164 : decode b_M_reason 164 = .ok (.getfield 39, 3) := by decide +kernel
theorem d_M_reason_167 : decode b_M_reason 167 = .ok (.iload_n 3, 1) := by decide +kernel
theorem d_M_reason_168 : decode b_M_reason 168 = .ok (.iaload, 1) := by decide +kernel
theorem d_M_reason_169 : decode b_M_reason 169 = .ok (.imul, 1) := by decide +kernel
theorem d_M_reason_170 : decode b_M_reason 170 = .ok (.invokevirtual 81, 3) := by decide +kernel
theorem d_M_reason_173 : decode b_M_reason 173 = .ok (.ifCond .ne 6, 3) := by decide +kernel
theorem d_M_reason_176 : decode b_M_reason 176 = .ok (.bipush (-2), 2) := by decide +kernel
theorem d_M_reason_178 : decode b_M_reason 178 = .ok (.ireturn, 1) := by decide +kernel
theorem d_M_reason_179 : decode b_M_reason 179 = .ok (.aload_n 0, 1) := by decide +kernel
theorem d_M_reason_180 : decode b_M_reason 180 = .ok (.aload_n 0, 1) := by decide +kernel
theorem d_M_reason_181 : decode b_M_reason 181 = .ok (.iload 4, 2) := by decide +kernel
theorem d_M_reason_183 : decode b_M_reason 183 = .ok (.iconst 1, 1) := by decide +kernel
theorem d_M_reason_184 : decode b_M_reason 184 = .ok (.iadd, 1) := by decide +kernel
theorem d_M_reason_185 : decode b_M_reason 185 = .ok (.invokevirtual 55, 3) := by decide +kernel
theorem d_M_reason_188 : decode b_M_reason 188 = .ok (.invokevirtual 72, 3) := by decide +kernel
theorem d_M_reason_191 : decode b_M_reason 191 = .ok (.goto 128, 3) := by decide +kernel
theorem d_M_reason_194 : decode b_M_reason 194 = .ok (.iload_n 1, 1) := by decide +kernel
theorem d_M_reason_195 : decode b_M_reason 195 = .ok (.iconst 4, 1) := by decide +kernel
theorem d_M_reason_196 : decode b_M_reason 196 = .ok (.if_icmp .ne 65, 3) := by decide +kernel
theorem d_M_reason_199 : decode b_M_reason 199 = .ok (.aload_n 0, 1) := by decide +kernel
theorem d_M_reason_200 : decode b_M_reason 200 = .ok (.iload_n 3, 1) := by decide +kernel
theorem d_M_reason_201 : decode b_M_reason 201 = .ok (.invokevirtual 105, 3) := by decide +kernel
theorem d_M_reason_204 : decode b_M_reason 204 = .ok (.ifCond .ne 6, 3) := by decide +kernel
theorem d_M_reason_207 : decode b_M_reason 207 = .ok (.bipush (-2), 2) := by decide +kernel
theorem d_M_reason_209 : decode b_M_reason 209 = .ok (.ireturn, 1) := by decide +kernel
theorem d_M_reason_210 : decode b_M_reason 210 = .ok (.aload_n 0, 1) := by decide +kernel
theorem d_M_reason_211 : decode b_M_reason 211 = .ok (.aload_n 0, 1) := by decide +kernel
theorem d_M_reason_212 : decode b_M_reason 212 = .ok (.getfield 7, 3) := by decide +kernel
theorem d_M_reason_215 : decode b_M_reason 215 = .ok (.bipush 32, 2) := by decide +kernel
theorem d_M_reason_217 : decode b_M_reason 217 = .ok (.iload_n 3, 1) := by decide +kernel
theorem d_M_reason_218 : decode b_M_reason 218 = .ok (.imul, 1) := by decide +kernel
theorem d_M_reason_219 : decode b_M_reason 219 = .ok (.iaload, 1) := by decide +kernel
theorem d_M_reason_220 : decode b_M_reason 220 = .ok (.invokevirtual 133, 3) := by decide +kernel
theorem d_M_reason_223 : decode b_M_reason 223 = .ok (.ifCond .eq 6, 3) := by decide +kernel
theorem d_M_reason_226 : decode b_M_reason 226 = .ok (.bipush (-3), 2) := by decide +kernel
theorem d_M_reason_228 : decode b_M_reason 228 = .ok (.ireturn, 1) := by decide +kernel
theorem d_M_reason_229 : decode b_M_reason 229 = .ok (.aload_n 0, 1) := by decide +kernel
theorem d_M_reason_230 : decode b_M_reason 230 = .ok (.bipush 32, 2) := by decide +kernel
theorem d_M_reason_232 : decode b_M_reason 232 = .ok (.aload_n 0, 1) := by decide +kernel
theorem d_M_reason_233 : decode b_M_reason 233 = .ok (.getfield 16, 3) := by decide +kernel
theorem d_M_reason_236 : decode b_M_reason 236 = .ok (.iload_n 3, 1) := by decide +kernel
theorem d_M_reason_237 : decode b_M_reason 237 = .ok (.iaload, 1) := by decide +kernel
theorem d_M_reason_238 : decode b_M_reason 238 = .ok (.iadd, 1) := by decide +kernel
theorem d_M_reason_239 : decode b_M_reason 239 = .ok (.invokevirtual 68, 3) := by decide +kernel
theorem d_M_reason_242 : decode b_M_reason 242 = .ok (.aload_n 0, 1) := by decide +kernel
theorem d_M_reason_243 : decode b_M_reason 243 = .ok (.iload 4, 2) := by decide +kernel
theorem d_M_reason_245 : decode b_M_reason 245 = .ok (.aload_n 0, 1) := by decide +kernel
theorem d_M_reason_246 : decode b_M_reason 246 = .ok (.getfield 7, 3) := by decide +kernel
theorem d_M_reason_249 : decode b_M_reason 249 = .ok (.bipush 32, 2) := by decide +kernel
theorem d_M_reason_251 : decode b_M_reason 251 = .ok (.iload_n 3, 1) := by decide +kernel
theorem d_M_reason_252 : decode b_M_reason 252 = .ok (.imul, 1) := by decide +kernel
theorem d_M_reason_253 : decode b_M_reason 253 = .ok (.iaload, 1) := by decide +kernel
theorem d_M_reason_254 : decode b_M_reason 254 = .ok (.iconst (-1), 1) := by decide +kernel
theorem d_M_reason_255 : decode b_M_reason 255 = .ok (.invokevirtual 111, 3) := by decide +kernel
theorem d_M_reason_258 : decode b_M_reason 258 = .ok (.goto 61, 3) := by decide +kernel
theorem d_M_reason_261 : decode b_M_reason 261 = .ok (.aload_n 0, 1) := by decide +kernel
theorem d_M_reason_262 : decode b_M_reason 262 = .ok (.getfield 7, 3) := by decide +kernel
theorem d_M_reason_265 : decode b_M_reason 265 = .ok (.iload 4, 2) := by decide +kernel
theorem d_M_reason_267 : decode b_M_reason 267 = .ok (.iaload, 1) := by decide +kernel
theorem d_M_reason_268 : decode b_M_reason 268 = .ok (.bipush 32, 2) := by decide +kernel
theorem d_M_reason_270 : decode b_M_reason 270 = .ok (.if_icmp .lt 34, 3) := by decide +kernel
theorem d_M_reason_273 : decode b_M_reason 273 = .ok (.aload_n 0, 1) := by decide +kernel
theorem d_M_reason_274 : decode b_M_reason 274 = .ok (.getfield 7, 3) := by decide +kernel
theorem d_M_reason_277 : decode b_M_reason 277 = .ok (.iload 4, 2) := by decide +kernel
theorem d_M_reason_279 : decode b_M_reason 279 = .ok (.iaload, 1) := by decide +kernel
theorem d_M_reason_280 : decode b_M_reason 280 = .ok (.bipush 64, 2) := by decide +kernel
theorem d_M_reason_282 : decode b_M_reason 282 = .ok (.if_icmp .ge 22, 3) := by decide +kernel
theorem d_M_reason_285 : decode b_M_reason 285 = .ok (.aload_n 0, 1) := by decide +kernel
theorem d_M_reason_286 : decode b_M_reason 286 = .ok (.getfield 7, 3) := by decide +kernel
theorem d_M_reason_289 : decode b_M_reason 289 = .ok (.iload 4, 2) := by decide +kernel
theorem d_M_reason_291 : decode b_M_reason 291 = .ok (.iaload, 1) := by decide +kernel
theorem d_M_reason_292 : decode b_M_reason 292 = .ok (.bipush 32, 2) := by decide +kernel
theorem d_M_reason_294 : decode b_M_reason 294 = .ok (.isub, 1) := by decide +kernel
theorem d_M_reason_295 : decode b_M_reason 295 = .ok (.aload_n 0, 1) := by decide +kernel
theorem d_M_reason_296 : decode b_M_reason 296 = .ok (.getfield 16, 3) := by decide +kernel
theorem d_M_reason_299 : decode b_M_reason 299 = .ok (.iload_n 3, 1) := by decide +kernel
theorem d_M_reason_300 : decode b_M_reason 300 = .ok (.iaload, 1) := by decide +kernel
theorem d_M_reason_301 : decode b_M_reason 301 = .ok (.if_icmp .eq 6, 3) := by decide +kernel
theorem d_M_reason_304 : decode b_M_reason 304 = .ok (.bipush (-2), 2) := by decide +kernel
theorem d_M_reason_306 : decode b_M_reason 306 = .ok (.ireturn, 1) := by decide +kernel
theorem d_M_reason_307 : decode b_M_reason 307 = .ok (.aload_n 0, 1) := by decide +kernel
theorem d_M_reason_308 : decode b_M_reason 308 = .ok (.iload 4, 2) := by decide +kernel
theorem d_M_reason_310 : decode b_M_reason 310 = .ok (.iconst 1, 1) := by decide +kernel
theorem d_M_reason_311 : decode b_M_reason 311 = .ok (.iadd, 1) := by decide +kernel
theorem d_M_reason_312 : decode b_M_reason 312 = .ok (.bipush 32, 2) := by decide +kernel
theorem d_M_reason_314 : decode b_M_reason 314 = .ok (.iload_n 3, 1) := by decide +kernel
theorem d_M_reason_315 : decode b_M_reason 315 = .ok (.imul, 1) := by decide +kernel
theorem d_M_reason_316 : decode b_M_reason 316 = .ok (.invokevirtual 136, 3) := by decide +kernel
theorem d_M_reason_319 : decode b_M_reason 319 = .ok (.iconst 0, 1) := by decide +kernel
theorem d_M_reason_320 : decode b_M_reason 320 = .ok (.ireturn, 1) := by decide +kernel
theorem d_M_equate_0 : decode b_M_equate 0 = .ok (.aload_n 0, 1) := by decide +kernel
theorem d_M_equate_1 : decode b_M_equate 1 = .ok (.iconst 3, 1) := by decide +kernel
theorem d_M_equate_2 : decode b_M_equate 2 = .ok (.invokevirtual 68, 3) := by decide +kernel
theorem d_M_equate_5 : decode b_M_equate 5 = .ok (.iload_n 1, 1) := by decide +kernel
theorem d_M_equate_6 : decode b_M_equate 6 = .ok (.bipush 6, 2) := by decide +kernel
theorem d_M_equate_8 : decode b_M_equate 8 = .ok (.if_icmp .eq 9, 3) := by decide +kernel
theorem d_M_equate_11 : decode b_M_equate 11 = .ok (.iload_n 1, 1) := by decide +kernel
theorem d_M_equate_12 : decode b_M_equate 12 = .ok (.bipush 11, 2) := by decide +kernel
theorem d_M_equate_14 : decode b_M_equate 14 = .ok (.if_icmp .ne 10, 3) := by decide +kernel
theorem d_M_equate_17 : decode b_M_equate 17 = .ok (.bipush 32, 2) := by decide +kernel
theorem d_M_equate_19 : decode b_M_equate 19 = .ok (.iload_n 2, 1) := by decide +kernel
theorem d_M_equate_20 : decode b_M_equate 20 = .ok (.imul, 1) := by decide +kernel
theorem d_M_equate_21 : decode b_M_equate 21 = .ok (.goto 12, 3) := by decide +kernel
theorem d_M_equate_24 : decode b_M_equate 24 = .ok (.bipush 32, 2) := by decide +kernel
theorem d_M_equate_26 : decode b_M_equate 26 = .ok (.aload_n 0, 1) := by decide +kernel
theorem d_M_equate_27 : decode b_M_equate 27 = .ok (.getfield 39, 3) := by decide +kernel
theorem d_M_equate_30 : decode b_M_equate 30 = .ok (.iload_n 2, 1) := by decide +kernel
theorem d_M_equate_31 : decode b_M_equate 31 = .ok (.iaload, 1) := by decide +kernel
theorem d_M_equate_32 : decode b_M_equate 32 = .ok (.imul, 1) := by decide +kernel
theorem d_M_equate_33 : decode b_M_equate 33 = .ok (.istore 4, 2) := by decide +kernel
theorem d_M_equate_35 : decode b_M_equate 35 = .ok (.iload_n 1, 1) := by decide +kernel
theorem d_M_equate_36 : decode b_M_equate 36 = .ok (.bipush 6, 2) := by decide +kernel
theorem d_M_equate_38 : decode b_M_equate 38 = .ok (.if_icmp .ne 18, 3) := by decide +kernel
theorem d_M_equate_41 : decode b_M_equate 41 = .ok (.aload_n 0, 1) := by decide +kernel
theorem d_M_equate_42 : decode b_M_equate 42 = .ok (.iload 4, 2) := by decide +kernel
theorem d_M_equate_44 : decode b_M_equate 44 = .ok (.invokevirtual 72, 3) := by decide +kernel
theorem d_M_equate_47 : decode b_M_equate 47 = .ok (.aload_n 0, 1) := by decide +kernel
theorem d_M_equate_48 : decode b_M_equate 48 = .ok (.iload 4, 2) := by decide +kernel
theorem d_M_equate_50 : decode b_M_equate 50 = .ok (.invokevirtual 72, 3) := by decide +kernel
theorem d_M_equate_53 : decode b_M_equate 53 = .ok (.goto 160, 3) := by decide +kernel
theorem d_M_equate_56 : decode b_M_equate 56 = .ok (.iload_n 1, 1) := by decide +kernel
theorem d_M_equate_57 : decode b_M_equate 57 = .ok (.bipush 11, 2) := by decide +kernel
theorem d_M_equate_59 : decode b_M_equate 59 = .ok (.if_icmp .ne 70, 3) := by decide +kernel
theorem d_M_equate_62 : decode b_M_equate 62 = .ok (.aload_n 0, 1) := by decide +kernel
theorem d_M_equate_63 : decode b_M_equate 63 = .ok (.getfield 7, 3) := by decide +kernel
theorem d_M_equate_66 : decode b_M_equate 66 = .ok (.iload 4, 2) := by decide +kernel
theorem d_M_equate_68 : decode b_M_equate 68 = .ok (.iaload, 1) := by decide +kernel
theorem d_M_equate_69 : decode b_M_equate 69 = .ok (.iconst 1, 1) := by decide +kernel
theorem d_M_equate_70 : decode b_M_equate 70 = .ok (.if_icmp .ne 31, 3) := by decide +kernel
theorem d_M_equate_73 : decode b_M_equate 73 = .ok (.aload_n 0, 1) := by decide +kernel
theorem d_M_equate_74 : decode b_M_equate 74 = .ok (.getfield 7, 3) := by decide +kernel
theorem d_M_equate_77 : decode b_M_equate 77 = .ok (.iload 4, 2) := by decide +kernel
theorem d_M_equate_79 : decode b_M_equate 79 = .ok (.iconst 1, 1) := by decide +kernel
theorem d_M_equate_80 : decode b_M_equate 80 = .ok (.iadd, 1) := by decide +kernel
theorem d_M_equate_81 : decode b_M_equate 81 = .ok (.iaload, 1) := by decide +kernel
theorem d_M_equate_82 : decode b_M_equate 82 = .ok (.bipush 16, 2) := by decide +kernel
theorem d_M_equate_84 : decode b_M_equate 84 = .ok (.if_icmp .lt 17, 3) := by decide +kernel
theorem d_M_equate_87 : decode b_M_equate 87 = .ok (.aload_n 0, 1) := by decide +kernel
theorem d_M_equate_88 : decode b_M_equate 88 = .ok (.getfield 7, 3) := by decide +kernel
theorem d_M_equate_91 : decode b_M_equate 91 = .ok (.iload 4, 2) := by decide +kernel
theorem d_M_equate_93 : decode b_M_equate 93 = .ok (.iconst 1, 1) := by decide +kernel
theorem d_M_equate_94 : decode b_M_equate 94 = .ok (.iadd, 1) := by decide +kernel
theorem d_M_equate_95 : decode b_M_equate 95 = .ok (.iaload, 1) := by decide +kernel
theorem d_M_equate_96 : decode b_M_equate 96 = .ok (.bipush 32, 2) := by decide +kernel
theorem d_M_equate_98 : decode b_M_equate 98 = .ok (.if_icmp .lt 6, 3) := by decide +kernel
theorem d_M_equate_101 : decode b_M_equate 101 = .ok (.bipush (-2), 2) := by decide +kernel
theorem d_M_equate_103 : decode b_M_equate 103 = .ok (.ireturn, 1) := by decide +kernel
theorem d_M_equate_104 : decode b_M_equate 104 = .ok (.aload_n 0, 1) := by decide +kernel
theorem d_M_equate_105 : decode b_M_equate 105 = .ok (.iload 4, 2) := by decide +kernel
theorem d_M_equate_107 : decode b_M_equate 107 = .ok (.invokevirtual 72, 3) := by decide +kernel
theorem d_M_equate_110 : decode b_M_equate 110 = .ok (.aload_n 0, 1) := by decide +kernel
theorem d_M_equate_111 : decode b_M_equate 111 = .ok (.iload 4, 2) := by decide +kernel
theorem d_M_equate_113 : decode b_M_equate 113 = .ok (.iconst 2, 1) := by decide +kernel
theorem d_M_equate_114 : decode b_M_equate 114 = .ok (.iadd, 1) := by decide +kernel
theorem d_M_equate_115 : decode b_M_equate 115 = .ok (.aload_n 0, 1) := by decide +kernel
theorem d_M_equate_116 : decode b_M_equate 116 = .ok (.iload 4, 2) := by decide +kernel
theorem d_M_equate_118 : decode b_M_equate 118 = .ok (.iconst 1, 1) := by decide +kernel
theorem d_M_equate_119 : decode b_M_equate 119 = .ok (.iadd, 1) := by decide +kernel
theorem d_M_equate_120 : decode b_M_equate 120 = .ok (.invokevirtual 55, 3) := by decide +kernel
theorem d_M_equate_123 : decode b_M_equate 123 = .ok (.invokevirtual 136, 3) := by decide +kernel
theorem d_M_equate_126 : decode b_M_equate 126 = .ok (.goto 87, 3) := by decide +kernel
theorem d_M_equate_129 : decode b_M_equate 129 = .ok (.aload_n 0, 1) := by decide +kernel
theorem d_M_equate_130 : decode b_M_equate 130 = .ok (.getfield 7, 3) := by decide +kernel
theorem d_M_equate_133 : decode b_M_equate 133 = .ok (.iload 4, 2) := by decide +kernel
theorem d_M_equate_135 : decode b_M_equate 135 = .ok (.iaload, 1) := by decide +kernel
theorem d_M_equate_136 : decode b_M_equate 136 = .ok (.iconst 3, 1) := by decide +kernel
theorem d_M_equate_137 : decode b_M_equate 137 = .ok (.if_icmp .eq 6, 3) := by decide +kernel
theorem d_M_equate_140 : decode b_M_equate 140 = .ok (.bipush (-2), 2) := by decide +kernel
theorem d_M_equate_142 : decode b_M_equate 142 = .ok (.ireturn, 1) := by decide +kernel
theorem d_M_equate_143 : decode b_M_equate 143 = .ok (.iload 4, 2) := by decide +kernel
theorem d_M_equate_145 : decode b_M_equate 145 = .ok (.iconst 1, 1) := by decide +kernel
theorem d_M_equate_146 : decode b_M_equate 146 = .ok (.iadd, 1) := by decide +kernel
theorem d_M_equate_147 : decode b_M_equate 147 = .ok (.istore 5, 2) := by decide +kernel
theorem d_M_equate_149 : decode b_M_equate 149 = .ok (.aload_n 0, 1) := by decide +kernel
theorem d_M_equate_150 : decode b_M_equate 150 = .ok (.iload 5, 2) := by decide +kernel
theorem d_M_equate_152 : decode b_M_equate 152 = .ok (.invokevirtual 55, 3) := by decide +kernel
theorem d_M_equate_155 : decode b_M_equate 155 = .ok (.istore 6, 2) := by decide +kernel
theorem d_M_equate_157 : decode b_M_equate 157 = .ok (.iload_n 1, 1) := by decide +kernel
theorem d_M_equate_158 : decode b_M_equate 158 = .ok (.bipush 7, 2) := by decide +kernel
theorem d_M_equate_160 : decode b_M_equate 160 = .ok (.if_icmp .ne 18, 3) := by decide +kernel
theorem d_M_equate_163 : decode b_M_equate 163 = .ok (.aload_n 0, 1) := by decide +kernel
theorem d_M_equate_164 : decode b_M_equate 164 = .ok (.iload 6, 2) := by decide +kernel
theorem d_M_equate_166 : decode b_M_equate 166 = .ok (.invokevirtual 72, 3) := by decide +kernel
theorem d_M_equate_169 : decode b_M_equate 169 = .ok (.aload_n 0, 1) := by decide +kernel
theorem d_M_equate_170 : decode b_M_equate 170 = .ok (.iload 5, 2) := by decide +kernel
theorem d_M_equate_172 : decode b_M_equate 172 = .ok (.invokevirtual 72, 3) := by decide +kernel
theorem d_M_equate_175 : decode b_M_equate 175 = .ok (.goto 38, 3) := by decide +kernel
theorem d_M_equate_178 : decode b_M_equate 178 = .ok (.iload_n 1, 1) := by decide +kernel
theorem d_M_equate_179 : decode b_M_equate 179 = .ok (.bipush 10, 2) := by decide +kernel
theorem d_M_equate_181 : decode b_M_equate 181 = .ok (.if_icmp .ne 13, 3) := by decide +kernel
theorem d_M_equate_184 : decode b_M_equate 184 = .ok (.aload_n 0, 1) := by decide +kernel
theorem d_M_equate_185 : decode b_M_equate 185 = .ok (.iload_n 3, 1) := by decide +kernel
theorem d_M_equate_186 : decode b_M_equate 186 = .ok (.iload 5, 2) := by decide +kernel
theorem d_M_equate_188 : decode b_M_equate 188 = .ok (.iload 6, 2) := by decide +kernel
theorem d_M_equate_190 : decode b_M_equate 190 = .ok (.invokevirtual 140, 3) := by decide +kernel
theorem d_M_equate_193 : decode b_M_equate 193 = .ok (.ireturn, 1) := by decide +kernel
theorem d_M_equate_194 : decode b_M_equate 194 = .ok (.aload_n 0, 1) := by decide +kernel
theorem d_M_equate_195 : decode b_M_equate 195 = .ok (.iload_n 1, 1) := by decide +kernel
theorem d_M_equate_196 : decode b_M_equate 196 = .ok (.iload 5, 2) := by decide +kernel
theorem d_M_equate_198 : decode b_M_equate 198 = .ok (.iload 6, 2) := by decide +kernel
theorem d_M_equate_200 : decode b_M_equate 200 = .ok (.bipush 32, 2) := by decide +kernel
theorem d_M_equate_202 : decode b_M_equate 202 = .ok (.aload_n 0, 1) := by decide +kernel
theorem d_M_equate_203 : decode b_M_equate 203 = .ok (.getfield 39, 3) := by decide +kernel
theorem d_M_equate_206 : decode b_M_equate 206 = .ok (.iload_n 3, 1) := by decide +kernel
theorem d_M_equate_207 : decode b_M_equate 207 = .ok (.iaload, 1) := by decide +kernel
theorem d_M_equate_208 : decode b_M_equate 208 = .ok (.imul, 1) := by decide +kernel
theorem d_M_equate_209 : decode b_M_equate 209 = .ok (.invokevirtual 144, 3) := by decide +kernel
theorem d_M_equate_212 : decode b_M_equate 212 = .ok (.ireturn, 1) := by decide +kernel
theorem d_M_equate_213 : decode b_M_equate 213 = .ok (.iconst 0, 1) := by decide +kernel
theorem d_M_equate_214 : decode b_M_equate 214 = .ok (.ireturn, 1) := by decide +kernel
theorem d_M_abstraction_0 : decode b_M_abstraction 0 = .ok (.aload_n 0, 1) := by decide +kernel
theorem d_M_abstraction_1 : decode b_M_abstraction 1 = .ok (.iload_n 1, 1) := by decide +kernel
theorem d_M_abstraction_2 : decode b_M_abstraction 2 = .ok (.invokevirtual 105, 3) := by decide +kernel
theorem d_M_abstraction_5 : decode b_M_abstraction 5 = .ok (.ifCond .ne 6, 3) := by decide +kernel
theorem d_M_abstraction_8 : decode b_M_abstraction 8 = .ok (.bipush (-2), 2) := by decide +kernel
theorem d_M_abstraction_10 : decode b_M_abstraction 10 = .ok (.ireturn, 1) := by decide +kernel
theorem d_M_abstraction_11 : decode b_M_abstraction 11 = .ok (.aload_n 0, 1) := by decide +kernel
theorem d_M_abstraction_12 : decode b_M_abstraction 12 = .ok (.getfield 7, 3) := by decide +kernel
theorem d_M_abstraction_15 : decode b_M_abstraction 15 = .ok (.bipush 32, 2) := by decide +kernel
theorem d_M_abstraction_17 : decode b_M_abstraction 17 = .ok (.iload_n 1, 1) := by decide +kernel
theorem d_M_abstraction_18 : decode b_M_abstraction 18 = .ok (.imul, 1) := by decide +kernel
theorem d_M_abstraction_19 : decode b_M_abstraction 19 = .ok (.iaload, 1) := by decide +kernel
theorem d_M_abstraction_20 : decode b_M_abstraction 20 = .ok (.istore 4, 2) := by decide +kernel
theorem d_M_abstraction_22 : decode b_M_abstraction 22 = .ok (.aload_n 0, 1) := by decide +kernel
theorem d_M_abstraction_23 : decode b_M_abstraction 23 = .ok (.iload 4, 2) := by decide +kernel
theorem d_M_abstraction_25 : decode b_M_abstraction 25 = .ok (.invokevirtual 133, 3) := by decide +kernel
theorem d_M_abstraction_28 : decode b_M_abstraction 28 = .ok (.ifCond .eq 6, 3) := by decide +kernel
theorem d_M_abstraction_31 : decode b_M_abstraction 31 = .ok (.bipush (-3), 2) := by decide +kernel
theorem d_M_abstraction_33 : decode b_M_abstraction 33 = .ok (.ireturn, 1) := by decide +kernel
theorem d_M_abstraction_34 : decode b_M_abstraction 34 = .ok (.aload_n 0, 1) := by decide +kernel
theorem d_M_abstraction_35 : decode b_M_abstraction 35 = .ok (.aload_n 0, 1) := by decide +kernel
theorem d_M_abstraction_36 : decode b_M_abstraction 36 = .ok (.getfield 16, 3) := by decide +kernel
theorem d_M_abstraction_39 : decode b_M_abstraction 39 = .ok (.iload_n 1, 1) := by decide +kernel
theorem d_M_abstraction_40 : decode b_M_abstraction 40 = .ok (.iaload, 1) := by decide +kernel
theorem d_M_abstraction_41 : decode b_M_abstraction 41 = .ok (.aload_n 0, 1) := by decide +kernel
theorem d_M_abstraction_42 : decode b_M_abstraction 42 = .ok (.iload_n 2, 1) := by decide +kernel
theorem d_M_abstraction_43 : decode b_M_abstraction 43 = .ok (.invokevirtual 85, 3) := by decide +kernel
theorem d_M_abstraction_46 : decode b_M_abstraction 46 = .ok (.invokevirtual 108, 3) := by decide +kernel
theorem d_M_abstraction_49 : decode b_M_abstraction 49 = .ok (.ifCond .ge 6, 3) := by decide +kernel
theorem d_M_abstraction_52 : decode b_M_abstraction 52 = .ok (.bipush (-4), 2) := by decide +kernel
theorem d_M_abstraction_54 : decode b_M_abstraction 54 = .ok (.ireturn, 1) := by decide +kernel
theorem d_M_abstraction_55 : decode b_M_abstraction 55 = .ok (.aload_n 0, 1) := by decide +kernel
theorem d_M_abstraction_56 : decode b_M_abstraction 56 = .ok (.bipush 16, 2) := by decide +kernel
theorem d_M_abstraction_58 : decode b_M_abstraction 58 = .ok (.aload_n 0, 1) := by decide +kernel
theorem d_M_abstraction_59 : decode b_M_abstraction 59 = .ok (.getfield 16, 3) := by decide +kernel
theorem d_M_abstraction_62 : decode b_M_abstraction 62 = .ok (.iload_n 1, 1) := by decide +kernel
theorem d_M_abstraction_63 : decode b_M_abstraction 63 = .ok (.iaload, 1) := by decide +kernel
theorem d_M_abstraction_64 : decode b_M_abstraction 64 = .ok (.iadd, 1) := by decide +kernel
theorem d_M_abstraction_65 : decode b_M_abstraction 65 = .ok (.invokevirtual 68, 3) := by decide +kernel
theorem d_M_abstraction_68 : decode b_M_abstraction 68 = .ok (.aload_n 0, 1) := by decide +kernel
theorem d_M_abstraction_69 : decode b_M_abstraction 69 = .ok (.iload_n 2, 1) := by decide +kernel
theorem d_M_abstraction_70 : decode b_M_abstraction 70 = .ok (.iload 4, 2) := by decide +kernel
theorem d_M_abstraction_72 : decode b_M_abstraction 72 = .ok (.iconst (-1), 1) := by decide +kernel
theorem d_M_abstraction_73 : decode b_M_abstraction 73 = .ok (.invokevirtual 111, 3) := by decide +kernel
theorem d_M_abstraction_76 : decode b_M_abstraction 76 = .ok (.aload_n 0, 1) := by decide +kernel
theorem d_M_abstraction_77 : decode b_M_abstraction 77 = .ok (.bipush 16, 2) := by decide +kernel
theorem d_M_abstraction_79 : decode b_M_abstraction 79 = .ok (.aload_n 0, 1) := by decide +kernel
theorem d_M_abstraction_80 : decode b_M_abstraction 80 = .ok (.getfield 16, 3) := by decide +kernel
theorem d_M_abstraction_83 : decode b_M_abstraction 83 = .ok (.iload_n 1, 1) := by decide +kernel
theorem d_M_abstraction_84 : decode b_M_abstraction 84 = .ok (.iaload, 1) := by decide +kernel
theorem d_M_abstraction_85 : decode b_M_abstraction 85 = .ok (.iadd, 1) := by decide +kernel
theorem d_M_abstraction_86 : decode b_M_abstraction 86 = .ok (.invokevirtual 68, 3) := by decide +kernel
theorem d_M_abstraction_89 : decode b_M_abstraction 89 = .ok (.aload_n 0, 1) := by decide +kernel
theorem d_M_abstraction_90 : decode b_M_abstraction 90 = .ok (.iload_n 3, 1) := by decide +kernel
theorem d_M_abstraction_91 : decode b_M_abstraction 91 = .ok (.iload 4, 2) := by decide +kernel
theorem d_M_abstraction_93 : decode b_M_abstraction 93 = .ok (.iconst (-1), 1) := by decide +kernel
theorem d_M_abstraction_94 : decode b_M_abstraction 94 = .ok (.invokevirtual 111, 3) := by decide +kernel
theorem d_M_abstraction_97 : decode b_M_abstraction 97 = .ok (.iconst 0, 1) := by decide +kernel
theorem d_M_abstraction_98 : decode b_M_abstraction 98 = .ok (.ireturn, 1) := by decide +kernel
theorem d_M_two_0 : decode b_M_two 0 = .ok (.aload_n 0, 1) := by decide +kernel
theorem d_M_two_1 : decode b_M_two 1 = .ok (.getfield 7, 3) := by decide +kernel
theorem d_M_two_4 : decode b_M_two 4 = .ok (.iload 4, 2) := by decide +kernel
theorem d_M_two_6 : decode b_M_two 6 = .ok (.iaload, 1) := by decide +kernel
theorem d_M_two_7 : decode b_M_two 7 = .ok (.iconst 3, 1) := by decide +kernel
theorem d_M_two_8 : decode b_M_two 8 = .ok (.if_icmp .eq 6, 3) := by decide +kernel
theorem d_M_two_11 : decode b_M_two 11 = .ok (.bipush (-2), 2) := by decide +kernel
theorem d_M_two_13 : decode b_M_two 13 = .ok (.ireturn, 1) := by decide +kernel
theorem d_M_two_14 : decode b_M_two 14 = .ok (.iload 4, 2) := by decide +kernel
theorem d_M_two_16 : decode b_M_two 16 = .ok (.iconst 1, 1) := by decide +kernel
theorem d_M_two_17 : decode b_M_two 17 = .ok (.iadd, 1) := by decide +kernel
theorem d_M_two_18 : decode b_M_two 18 = .ok (.istore 5, 2) := by decide +kernel
theorem d_M_two_20 : decode b_M_two 20 = .ok (.aload_n 0, 1) := by decide +kernel
theorem d_M_two_21 : decode b_M_two 21 = .ok (.iload 5, 2) := by decide +kernel
theorem d_M_two_23 : decode b_M_two 23 = .ok (.invokevirtual 55, 3) := by decide +kernel
theorem d_M_two_26 : decode b_M_two 26 = .ok (.istore 6, 2) := by decide +kernel
theorem d_M_two_28 : decode b_M_two 28 = .ok (.iload_n 1, 1) := by decide +kernel
theorem d_M_two_29 : decode b_M_two 29 = .ok (.bipush 8, 2) := by decide +kernel
theorem d_M_two_31 : decode b_M_two 31 = .ok (.if_icmp .ne 29, 3) := by decide +kernel
theorem d_M_two_34 : decode b_M_two 34 = .ok (.aload_n 0, 1) := by decide +kernel
theorem d_M_two_35 : decode b_M_two 35 = .ok (.iload_n 3, 1) := by decide +kernel
theorem d_M_two_36 : decode b_M_two 36 = .ok (.iload 5, 2) := by decide +kernel
theorem d_M_two_38 : decode b_M_two 38 = .ok (.invokevirtual 81, 3) := by decide +kernel
theorem d_M_two_41 : decode b_M_two 41 = .ok (.ifCond .ne 6, 3) := by decide +kernel
theorem d_M_two_44 : decode b_M_two 44 = .ok (.bipush (-2), 2) := by decide +kernel
theorem d_M_two_46 : decode b_M_two 46 = .ok (.ireturn, 1) := by decide +kernel
theorem d_M_two_47 : decode b_M_two 47 = .ok (.aload_n 0, 1) := by decide +kernel
theorem d_M_two_48 : decode b_M_two 48 = .ok (.iload_n 2, 1) := by decide +kernel
theorem d_M_two_49 : decode b_M_two 49 = .ok (.invokevirtual 72, 3) := by decide +kernel
theorem d_M_two_52 : decode b_M_two 52 = .ok (.aload_n 0, 1) := by decide +kernel
theorem d_M_two_53 : decode b_M_two 53 = .ok (.iload 6, 2) := by decide +kernel
theorem d_M_two_55 : decode b_M_two 55 = .ok (.invokevirtual 72, 3) := by decide +kernel
theorem d_M_two_58 : decode b_M_two 58 = .ok (.iconst 0, 1) := by decide +kernel
theorem d_M_two_59 : decode b_M_two 59 = .ok (.ireturn, 1) := by decide +kernel
theorem d_M_two_60 : decode b_M_two 60 = .ok (.aload_n 0, 1) := by decide +kernel
theorem d_M_two_61 : decode b_M_two 61 = .ok (.iload_n 2, 1) := by decide +kernel
theorem d_M_two_62 : decode b_M_two 62 = .ok (.invokevirtual 85, 3) := by decide +kernel
theorem d_M_two_65 : decode b_M_two 65 = .ok (.istore 7, 2) := by decide +kernel
theorem d_M_two_67 : decode b_M_two 67 = .ok (.aload_n 0, 1) := by decide +kernel
theorem d_M_two_68 : decode b_M_two 68 = .ok (.iload 7, 2) := by decide +kernel
theorem d_M_two_70 : decode b_M_two 70 = .ok (.aload_n 0, 1) := by decide +kernel
theorem d_M_two_71 : decode b_M_two 71 = .ok (.iload 5, 2) := by decide +kernel
theorem d_M_two_73 : decode b_M_two 73 = .ok (.invokevirtual 85, 3) := by decide +kernel
theorem d_M_two_76 : decode b_M_two 76 = .ok (.invokevirtual 102, 3) := by decide +kernel
theorem d_M_two_79 : decode b_M_two 79 = .ok (.ifCond .ne 6, 3) := by decide +kernel
theorem d_M_two_82 : decode b_M_two 82 = .ok (.bipush (-2), 2) := by decide +kernel
theorem d_M_two_84 : decode b_M_two 84 = .ok (.ireturn, 1) := by decide +kernel
theorem d_M_two_85 : decode b_M_two 85 = .ok (.aload_n 0, 1) := by decide +kernel
theorem d_M_two_86 : decode b_M_two 86 = .ok (.iconst 1, 1) := by decide +kernel
theorem d_M_two_87 : decode b_M_two 87 = .ok (.invokevirtual 68, 3) := by decide +kernel
theorem d_M_two_90 : decode b_M_two 90 = .ok (.aload_n 0, 1) := by decide +kernel
theorem d_M_two_91 : decode b_M_two 91 = .ok (.iload_n 2, 1) := by decide +kernel
theorem d_M_two_92 : decode b_M_two 92 = .ok (.invokevirtual 72, 3) := by decide +kernel
theorem d_M_two_95 : decode b_M_two 95 = .ok (.aload_n 0, 1) := by decide +kernel
theorem d_M_two_96 : decode b_M_two 96 = .ok (.iload 5, 2) := by decide +kernel
theorem d_M_two_98 : decode b_M_two 98 = .ok (.invokevirtual 72, 3) := by decide +kernel
theorem d_M_two_101 : decode b_M_two 101 = .ok (.aload_n 0, 1) := by decide +kernel
theorem d_M_two_102 : decode b_M_two 102 = .ok (.iconst 1, 1) := by decide +kernel
theorem d_M_two_103 : decode b_M_two 103 = .ok (.invokevirtual 68, 3) := by decide +kernel
theorem d_M_two_106 : decode b_M_two 106 = .ok (.aload_n 0, 1) := by decide +kernel
theorem d_M_two_107 : decode b_M_two 107 = .ok (.iload_n 3, 1) := by decide +kernel
theorem d_M_two_108 : decode b_M_two 108 = .ok (.invokevirtual 72, 3) := by decide +kernel
theorem d_M_two_111 : decode b_M_two 111 = .ok (.aload_n 0, 1) := by decide +kernel
theorem d_M_two_112 : decode b_M_two 112 = .ok (.iload 6, 2) := by decide +kernel
theorem d_M_two_114 : decode b_M_two 114 = .ok (.invokevirtual 72, 3) := by decide +kernel
theorem d_M_two_117 : decode b_M_two 117 = .ok (.iconst 0, 1) := by decide +kernel
theorem d_M_two_118 : decode b_M_two 118 = .ok (.ireturn, 1) := by decide +kernel
theorem d_M_substitute_0 : decode b_M_substitute 0 = .ok (.aload_n 0, 1) := by decide +kernel
theorem d_M_substitute_1 : decode b_M_substitute 1 = .ok (.iload_n 2, 1) := by decide +kernel
theorem d_M_substitute_2 : decode b_M_substitute 2 = .ok (.invokevirtual 105, 3) := by decide +kernel
theorem d_M_substitute_5 : decode b_M_substitute 5 = .ok (.ifCond .eq 18, 3) := by decide +kernel
theorem d_M_substitute_8 : decode b_M_substitute 8 = .ok (.aload_n 0, 1) := by decide +kernel
theorem d_M_substitute_9 : decode b_M_substitute 9 = .ok (.getfield 16, 3) := by decide +kernel
theorem d_M_substitute_12 : decode b_M_substitute 12 = .ok (.iload_n 2, 1) := by decide +kernel
theorem d_M_substitute_13 : decode b_M_substitute 13 = .ok (.iaload, 1) := by decide +kernel
theorem d_M_substitute_14 : decode b_M_substitute 14 = .ok (.aload_n 0, 1) := by decide +kernel
theorem d_M_substitute_15 : decode b_M_substitute 15 = .ok (.getfield 16, 3) := by decide +kernel
theorem d_M_substitute_18 : decode b_M_substitute 18 = .ok (.iload_n 3, 1) := by decide +kernel
theorem d_M_substitute_19 : decode b_M_substitute 19 = .ok (.iaload, 1) := by decide +kernel
theorem d_M_substitute_20 : decode b_M_substitute 20 = .ok (.if_icmp .eq 6, 3) := by decide +kernel
theorem d_M_substitute_23 : decode b_M_substitute 23 = .ok (.bipush (-2), 2) := by decide +kernel
theorem d_M_substitute_25 : decode b_M_substitute 25 = .ok (.ireturn, 1) := by decide +kernel
theorem d_M_substitute_26 : decode b_M_substitute 26 = .ok (.aload_n 0, 1) := by decide +kernel
theorem d_M_substitute_27 : decode b_M_substitute 27 = .ok (.getfield 7, 3) := by decide +kernel
theorem d_M_substitute_30 : decode b_M_substitute 30 = .ok (.bipush 32, 2) := by decide +kernel
theorem d_M_substitute_32 : decode b_M_substitute 32 = .ok (.iload_n 2, 1) := by decide +kernel
theorem d_M_substitute_33 : decode b_M_substitute 33 = .ok (.imul, 1) := by decide +kernel
theorem d_M_substitute_34 : decode b_M_substitute 34 = .ok (.iaload, 1) := by decide +kernel
theorem d_M_substitute_35 : decode b_M_substitute 35 = .ok (.istore 4, 2) := by decide +kernel
theorem d_M_substitute_37 : decode b_M_substitute 37 = .ok (.aload_n 0, 1) := by decide +kernel
theorem d_M_substitute_38 : decode b_M_substitute 38 = .ok (.getfield 118, 3) := by decide +kernel
theorem d_M_substitute_41 : decode b_M_substitute 41 = .ok (.lstore 5, 2) := by decide +kernel
theorem d_M_substitute_43 : decode b_M_substitute 43 = .ok (.aload_n 0, 1) := by decide +kernel
theorem d_M_substitute_44 : decode b_M_substitute 44 = .ok (.lconst 0, 1) := by decide +kernel
theorem d_M_substitute_45 : decode b_M_substitute 45 = .ok (.putfield 118, 3) := by decide +kernel
theorem d_M_substitute_48 : decode b_M_substitute 48 = .ok (.aload_n 0, 1) := by decide +kernel
theorem d_M_substitute_49 : decode b_M_substitute 49 = .ok (.getfield 78, 3) := by decide +kernel
theorem d_M_substitute_52 : decode b_M_substitute 52 = .ok (.istore 7, 2) := by decide +kernel
theorem d_M_substitute_54 : decode b_M_substitute 54 = .ok (.iconst 0, 1) := by decide +kernel
theorem d_M_substitute_55 : decode b_M_substitute 55 = .ok (.istore 8, 2) := by decide +kernel
theorem d_M_substitute_57 : decode b_M_substitute 57 = .ok (.iload 8, 2) := by decide +kernel
theorem d_M_substitute_59 : decode b_M_substitute 59 = .ok (.iload 7, 2) := by decide +kernel
theorem d_M_substitute_61 : decode b_M_substitute 61 = .ok (.if_icmp .ge 68, 3) := by decide +kernel
theorem d_M_substitute_64 : decode b_M_substitute 64 = .ok (.lload 5, 2) := by decide +kernel
theorem d_M_substitute_66 : decode b_M_substitute 66 = .ok (.iload 8, 2) := by decide +kernel
theorem d_M_substitute_68 : decode b_M_substitute 68 = .ok (.lshr, 1) := by decide +kernel
theorem d_M_substitute_69 : decode b_M_substitute 69 = .ok (.lconst 1, 1) := by decide +kernel
theorem d_M_substitute_70 : decode b_M_substitute 70 = .ok (.land, 1) := by decide +kernel
theorem d_M_substitute_71 : decode b_M_substitute 71 = .ok (.lconst 1, 1) := by decide +kernel
theorem d_M_substitute_72 : decode b_M_substitute 72 = .ok (.lcmp, 1) := by decide +kernel
theorem d_M_substitute_73 : decode b_M_substitute 73 = .ok (.ifCond .ne 50, 3) := by decide +kernel
theorem d_M_substitute_76 : decode b_M_substitute 76 = .ok (.aload_n 0, 1) := by decide +kernel
theorem d_M_substitute_77 : decode b_M_substitute 77 = .ok (.iconst 0, 1) := by decide +kernel
theorem d_M_substitute_78 : decode b_M_substitute 78 = .ok (.putfield 65, 3) := by decide +kernel
theorem d_M_substitute_81 : decode b_M_substitute 81 = .ok (.aload_n 0, 1) := by decide +kernel
theorem d_M_substitute_82 : decode b_M_substitute 82 = .ok (.bipush 32, 2) := by decide +kernel
theorem d_M_substitute_84 : decode b_M_substitute 84 = .ok (.iload 8, 2) := by decide +kernel
theorem d_M_substitute_86 : decode b_M_substitute 86 = .ok (.imul, 1) := by decide +kernel
theorem d_M_substitute_87 : decode b_M_substitute 87 = .ok (.iload 4, 2) := by decide +kernel
theorem d_M_substitute_89 : decode b_M_substitute 89 = .ok (.bipush 32, 2) := by decide +kernel
theorem d_M_substitute_91 : decode b_M_substitute 91 = .ok (.iload_n 3, 1) := by decide +kernel
theorem d_M_substitute_92 : decode b_M_substitute 92 = .ok (.imul, 1) := by decide +kernel
theorem d_M_substitute_93 : decode b_M_substitute 93 = .ok (.invokevirtual 111, 3) := by decide +kernel
theorem d_M_substitute_96 : decode b_M_substitute 96 = .ok (.aload_n 0, 1) := by decide +kernel
theorem d_M_substitute_97 : decode b_M_substitute 97 = .ok (.invokevirtual 95, 3) := by decide +kernel
theorem d_M_substitute_100 : decode b_M_substitute 100 = .ok (.istore 9, 2) := by decide +kernel
theorem d_M_substitute_102 : decode b_M_substitute 102 = .ok (.iload 9, 2) := by decide +kernel
theorem d_M_substitute_104 : decode b_M_substitute 104 = .ok (.ifCond .ge 6, 3) := by decide +kernel
theorem d_M_substitute_107 : decode b_M_substitute 107 = .ok (.bipush (-4), 2) := by decide +kernel
theorem d_M_substitute_109 : decode b_M_substitute 109 = .ok (.ireturn, 1) := by decide +kernel
theorem d_M_substitute_110 : decode b_M_substitute 110 = .ok (.aload_n 0, 1) := by decide +kernel
theorem d_M_substitute_111 : decode b_M_substitute 111 = .ok (.aload_n 0, 1) := by decide +kernel
theorem d_M_substitute_112 : decode b_M_substitute 112 = .ok (.getfield 118, 3) := by decide +kernel
theorem d_M_substitute_115 : decode b_M_substitute 115 = .ok (.lconst 1, 1) := by decide +kernel
theorem d_M_substitute_116 : decode b_M_substitute 116 = .ok (.iload 9, 2) := by decide +kernel
theorem d_M_substitute_118 : decode b_M_substitute 118 = .ok (.lshl, 1) := by decide +kernel
theorem d_M_substitute_119 : decode b_M_substitute 119 = .ok (.lor, 1) := by decide +kernel
theorem d_M_substitute_120 : decode b_M_substitute 120 = .ok (.putfield 118, 3) := by decide +kernel
theorem d_M_substitute_123 : decode b_M_substitute 123 = .ok (.iinc 8 1, 3) := by decide +kernel
theorem d_M_substitute_126 : decode b_M_substitute 126 = .ok (.goto (-69), 3) := by decide +kernel
theorem d_M_substitute_129 : decode b_M_substitute 129 = .ok (.aload_n 0, 1) := by decide +kernel
theorem d_M_substitute_130 : decode b_M_substitute 130 = .ok (.iconst 0, 1) := by decide +kernel
theorem d_M_substitute_131 : decode b_M_substitute 131 = .ok (.putfield 65, 3) := by decide +kernel
theorem d_M_substitute_134 : decode b_M_substitute 134 = .ok (.aload_n 0, 1) := by decide +kernel
theorem d_M_substitute_135 : decode b_M_substitute 135 = .ok (.bipush 32, 2) := by decide +kernel
theorem d_M_substitute_137 : decode b_M_substitute 137 = .ok (.aload_n 0, 1) := by decide +kernel
theorem d_M_substitute_138 : decode b_M_substitute 138 = .ok (.getfield 39, 3) := by decide +kernel
theorem d_M_substitute_141 : decode b_M_substitute 141 = .ok (.iload_n 1, 1) := by decide +kernel
theorem d_M_substitute_142 : decode b_M_substitute 142 = .ok (.iaload, 1) := by decide +kernel
theorem d_M_substitute_143 : decode b_M_substitute 143 = .ok (.imul, 1) := by decide +kernel
theorem d_M_substitute_144 : decode b_M_substitute 144 = .ok (.iload 4, 2) := by decide +kernel
theorem d_M_substitute_146 : decode b_M_substitute 146 = .ok (.bipush 32, 2) := by decide +kernel
theorem d_M_substitute_148 : decode b_M_substitute 148 = .ok (.iload_n 3, 1) := by decide +kernel
theorem d_M_substitute_149 : decode b_M_substitute 149 = .ok (.imul, 1) := by decide +kernel
theorem d_M_substitute_150 : decode b_M_substitute 150 = .ok (.invokevirtual 111, 3) := by decide +kernel
theorem d_M_substitute_153 : decode b_M_substitute 153 = .ok (.iconst 0, 1) := by decide +kernel
theorem d_M_substitute_154 : decode b_M_substitute 154 = .ok (.ireturn, 1) := by decide +kernel
theorem d_M_rule_0 : decode b_M_rule 0 = .ok (.iload_n 1, 1) := by decide +kernel
theorem d_M_rule_1 : decode b_M_rule 1 = .ok (.ifCond .lt 19, 3) := by decide +kernel
theorem d_M_rule_4 : decode b_M_rule 4 = .ok (.iload_n 1, 1) := by decide +kernel
theorem d_M_rule_5 : decode b_M_rule 5 = .ok (.bipush 13, 2) := by decide +kernel
theorem d_M_rule_7 : decode b_M_rule 7 = .ok (.if_icmp .gt 13, 3) := by decide +kernel
theorem d_M_rule_10 : decode b_M_rule 10 = .ok (.aload_n 0, 1) := by decide +kernel
theorem d_M_rule_11 : decode b_M_rule 11 = .ok (.iload_n 1, 1) := by decide +kernel
theorem d_M_rule_12 : decode b_M_rule 12 = .ok (.iload_n 2, 1) := by decide +kernel
theorem d_M_rule_13 : decode b_M_rule 13 = .ok (.iload_n 3, 1) := by decide +kernel
theorem d_M_rule_14 : decode b_M_rule 14 = .ok (.invokevirtual 148, 3) := by decide +kernel
theorem d_M_rule_17 : decode b_M_rule 17 = .ok (.ifCond .ne 5, 3) := by decide +kernel
theorem d_M_rule_20 : decode b_M_rule 20 = .ok (.iconst (-1), 1) := by decide +kernel
theorem d_M_rule_21 : decode b_M_rule 21 = .ok (.ireturn, 1) := by decide +kernel
theorem d_M_rule_22 : decode b_M_rule 22 = .ok (.iload_n 1, 1) := by decide +kernel
theorem d_M_rule_23 : decode b_M_rule 23 = .ok (.invokestatic 125, 3) := by decide +kernel
theorem d_M_rule_26 : decode b_M_rule 26 = .ok (.istore 4, 2) := by decide +kernel
theorem d_M_rule_28 : decode b_M_rule 28 = .ok (.aload_n 0, 1) := by decide +kernel
theorem d_M_rule_29 : decode b_M_rule 29 = .ok (.getfield 78, 3) := by decide +kernel
theorem d_M_rule_32 : decode b_M_rule 32 = .ok (.istore 5, 2) := by decide +kernel
theorem d_M_rule_34 : decode b_M_rule 34 = .ok (.aload_n 0, 1) := by decide +kernel
theorem d_M_rule_35 : decode b_M_rule 35 = .ok (.getfield 22, 3) := by decide +kernel
theorem d_M_rule_38 : decode b_M_rule 38 = .ok (.istore 6, 2) := by decide +kernel
theorem d_M_rule_40 : decode b_M_rule 40 = .ok (.aload_n 0, 1) := by decide +kernel
theorem d_M_rule_41 : decode b_M_rule 41 = .ok (.iload 4, 2) := by decide +kernel
theorem d_M_rule_43 : decode b_M_rule 43 = .ok (.ifCond .le 12, 3) := by decide +kernel
theorem d_M_rule_46 : decode b_M_rule 46 = .ok (.aload_n 0, 1) := by decide +kernel
theorem d_M_rule_47 : decode b_M_rule 47 = .ok (.getfield 35, 3) := by decide +kernel
theorem d_M_rule_50 : decode b_M_rule 50 = .ok (.iload_n 2, 1) := by decide +kernel
theorem d_M_rule_51 : decode b_M_rule 51 = .ok (.laload, 1) := by decide +kernel
theorem d_M_rule_52 : decode b_M_rule 52 = .ok (.goto 4, 3) := by decide +kernel
theorem d_M_rule_55 : decode b_M_rule 55 = .ok (.lconst 0, 1) := by decide +kernel
theorem d_M_rule_56 : decode b_M_rule 56 = .ok (.iload 4, 2) := by decide +kernel
theorem d_M_rule_58 : decode b_M_rule 58 = .ok (.iconst 1, 1) := by decide +kernel
theorem d_M_rule_59 : decode b_M_rule 59 = .ok (.if_icmp .le 12, 3) := by decide +kernel
theorem d_M_rule_62 : decode b_M_rule 62 = .ok (.aload_n 0, 1) := by decide +kernel
theorem d_M_rule_63 : decode b_M_rule 63 = .ok (.getfield 35, 3) := by decide +kernel
theorem d_M_rule_66 : decode b_M_rule 66 = .ok (.iload_n 3, 1) := by decide +kernel
theorem d_M_rule_67 : decode b_M_rule 67 = .ok (.laload, 1) := by decide +kernel
theorem d_M_rule_68 : decode b_M_rule 68 = .ok (.goto 4, 3) := by decide +kernel
theorem d_M_rule_71 : decode b_M_rule 71 = .ok (.lconst 0, 1) := by decide +kernel
theorem d_M_rule_72 : decode b_M_rule 72 = .ok (.lor, 1) := by decide +kernel
theorem d_M_rule_73 : decode b_M_rule 73 = .ok (.putfield 118, 3) := by decide +kernel
theorem d_M_rule_76 : decode b_M_rule 76 = .ok (.aload_n 0, 1) := by decide +kernel
theorem d_M_rule_77 : decode b_M_rule 77 = .ok (.iconst 0, 1) := by decide +kernel
theorem d_M_rule_78 : decode b_M_rule 78 = .ok (.putfield 65, 3) := by decide +kernel
theorem d_M_rule_81 : decode b_M_rule 81 = .ok (.iload_n 1, 1) := by decide +kernel
theorem d_M_rule_82 : decode b_M_rule 82 = .ok (.bipush 13, 2) := by decide +kernel
theorem d_M_rule_84 : decode b_M_rule 84 = .ok (.if_icmp .ne 19, 3) := by decide +kernel
theorem d_M_rule_87 : decode b_M_rule 87 = .ok (.aload_n 0, 1) := by decide +kernel
theorem d_M_rule_88 : decode b_M_rule 88 = .ok (.iload_n 2, 1) := by decide +kernel
theorem d_M_rule_89 : decode b_M_rule 89 = .ok (.iload_n 3, 1) := by decide +kernel
theorem d_M_rule_90 : decode b_M_rule 90 = .ok (.bipush 64, 2) := by decide +kernel
theorem d_M_rule_92 : decode b_M_rule 92 = .ok (.idiv, 1) := by decide +kernel
theorem d_M_rule_93 : decode b_M_rule 93 = .ok (.iload_n 3, 1) := by decide +kernel
theorem d_M_rule_94 : decode b_M_rule 94 = .ok (.bipush 64, 2) := by decide +kernel
theorem d_M_rule_96 : decode b_M_rule 96 = .ok (.irem, 1) := by decide +kernel
theorem d_M_rule_97 : decode b_M_rule 97 = .ok (.invokevirtual 152, 3) := by decide +kernel
theorem d_M_rule_100 : decode b_M_rule 100 = .ok (.goto 32, 3) := by decide +kernel
theorem d_M_rule_103 : decode b_M_rule 103 = .ok (.iload_n 1, 1) := by decide +kernel
theorem d_M_rule_104 : decode b_M_rule 104 = .ok (.bipush 6, 2) := by decide +kernel
theorem d_M_rule_106 : decode b_M_rule 106 = .ok (.if_icmp .lt 9, 3) := by decide +kernel
theorem d_M_rule_109 : decode b_M_rule 109 = .ok (.iload_n 1, 1) := by decide +kernel
theorem d_M_rule_110 : decode b_M_rule 110 = .ok (.bipush 12, 2) := by decide +kernel
theorem d_M_rule_112 : decode b_M_rule 112 = .ok (.if_icmp .ne 13, 3) := by decide +kernel
theorem d_M_rule_115 : decode b_M_rule 115 = .ok (.aload_n 0, 1) := by decide +kernel
theorem d_M_rule_116 : decode b_M_rule 116 = .ok (.iload_n 1, 1) := by decide +kernel
theorem d_M_rule_117 : decode b_M_rule 117 = .ok (.iload_n 2, 1) := by decide +kernel
theorem d_M_rule_118 : decode b_M_rule 118 = .ok (.iload_n 3, 1) := by decide +kernel
theorem d_M_rule_119 : decode b_M_rule 119 = .ok (.invokevirtual 155, 3) := by decide +kernel
theorem d_M_rule_122 : decode b_M_rule 122 = .ok (.goto 10, 3) := by decide +kernel
theorem d_M_rule_125 : decode b_M_rule 125 = .ok (.aload_n 0, 1) := by decide +kernel
theorem d_M_rule_126 : decode b_M_rule 126 = .ok (.iload_n 1, 1) := by decide +kernel
theorem d_M_rule_127 : decode b_M_rule 127 = .ok (.iload_n 2, 1) := by decide +kernel
theorem d_M_rule_128 : decode b_M_rule 128 = .ok (.iload_n 3, 1) := by decide +kernel
theorem d_M_rule_129 : decode b_M_rule 129 = .ok (.invokevirtual 158, 3) := by decide +kernel
theorem d_M_rule_132 : decode b_M_rule 132 = .ok (.istore 7, 2) := by decide +kernel
theorem d_M_rule_134 : decode b_M_rule 134 = .ok (.iload 7, 2) := by decide +kernel
theorem d_M_rule_136 : decode b_M_rule 136 = .ok (.ifCond .ne 17, 3) := by decide +kernel
theorem d_M_rule_139 : decode b_M_rule 139 = .ok (.aload_n 0, 1) := by decide +kernel
theorem d_M_rule_140 : decode b_M_rule 140 = .ok (.getfield 115, 3) := by decide +kernel
theorem d_M_rule_143 : decode b_M_rule 143 = .ok (.bipush 40, 2) := by decide +kernel
theorem d_M_rule_145 : decode b_M_rule 145 = .ok (.if_icmp .ne 8, 3) := by decide +kernel
theorem d_M_rule_148 : decode b_M_rule 148 = .ok (.bipush (-4), 2) := by decide +kernel
theorem d_M_rule_150 : decode b_M_rule 150 = .ok (.goto 5, 3) := by decide +kernel
theorem d_M_rule_153 : decode b_M_rule 153 = .ok (.iload 7, 2) := by decide +kernel
theorem d_M_rule_155 : decode b_M_rule 155 = .ok (.istore 7, 2) := by decide +kernel
theorem d_M_rule_157 : decode b_M_rule 157 = .ok (.iload 7, 2) := by decide +kernel
theorem d_M_rule_159 : decode b_M_rule 159 = .ok (.ifCond .ne 10, 3) := by decide +kernel
theorem d_M_rule_162 : decode b_M_rule 162 = .ok (.aload_n 0, 1) := by decide +kernel
theorem d_M_rule_163 : decode b_M_rule 163 = .ok (.invokevirtual 95, 3) := by decide +kernel
theorem d_M_rule_166 : decode b_M_rule 166 = .ok (.goto 5, 3) := by decide +kernel
theorem d_M_rule_169 : decode b_M_rule 169 = .ok (.iload 7, 2) := by decide +kernel
theorem d_M_rule_171 : decode b_M_rule 171 = .ok (.istore 8, 2) := by decide +kernel
theorem d_M_rule_173 : decode b_M_rule 173 = .ok (.iload 8, 2) := by decide +kernel
theorem d_M_rule_175 : decode b_M_rule 175 = .ok (.ifCond .ge 18, 3) := by decide +kernel
theorem d_M_rule_178 : decode b_M_rule 178 = .ok (.aload_n 0, 1) := by decide +kernel
theorem d_M_rule_179 : decode b_M_rule 179 = .ok (.iload 5, 2) := by decide +kernel
theorem d_M_rule_181 : decode b_M_rule 181 = .ok (.putfield 78, 3) := by decide +kernel
theorem d_M_rule_184 : decode b_M_rule 184 = .ok (.aload_n 0, 1) := by decide +kernel
theorem d_M_rule_185 : decode b_M_rule 185 = .ok (.iload 6, 2) := by decide +kernel
theorem d_M_rule_187 : decode b_M_rule 187 = .ok (.putfield 22, 3) := by decide +kernel
theorem d_M_rule_190 : decode b_M_rule 190 = .ok (.iload 8, 2) := by decide +kernel
theorem d_M_rule_192 : decode b_M_rule 192 = .ok (.ireturn, 1) := by decide +kernel
theorem d_M_rule_193 : decode b_M_rule 193 = .ok (.aload_n 0, 1) := by decide +kernel
theorem d_M_rule_194 : decode b_M_rule 194 = .ok (.getfield 115, 3) := by decide +kernel
theorem d_M_rule_197 : decode b_M_rule 197 = .ok (.istore 9, 2) := by decide +kernel
theorem d_M_rule_199 : decode b_M_rule 199 = .ok (.aload_n 0, 1) := by decide +kernel
theorem d_M_rule_200 : decode b_M_rule 200 = .ok (.getfield 35, 3) := by decide +kernel
theorem d_M_rule_203 : decode b_M_rule 203 = .ok (.iload 9, 2) := by decide +kernel
theorem d_M_rule_205 : decode b_M_rule 205 = .ok (.aload_n 0, 1) := by decide +kernel
theorem d_M_rule_206 : decode b_M_rule 206 = .ok (.getfield 118, 3) := by decide +kernel
theorem d_M_rule_209 : decode b_M_rule 209 = .ok (.lastore, 1) := by decide +kernel
theorem d_M_rule_210 : decode b_M_rule 210 = .ok (.aload_n 0, 1) := by decide +kernel
theorem d_M_rule_211 : decode b_M_rule 211 = .ok (.getfield 39, 3) := by decide +kernel
theorem d_M_rule_214 : decode b_M_rule 214 = .ok (.iload 9, 2) := by decide +kernel
theorem d_M_rule_216 : decode b_M_rule 216 = .ok (.iload 8, 2) := by decide +kernel
theorem d_M_rule_218 : decode b_M_rule 218 = .ok (.iastore, 1) := by decide +kernel
theorem d_M_rule_219 : decode b_M_rule 219 = .ok (.aload_n 0, 1) := by decide +kernel
theorem d_M_rule_220 : decode b_M_rule 220 = .ok (.getfield 42, 3) := by decide +kernel
theorem d_M_rule_223 : decode b_M_rule 223 = .ok (.iload 9, 2) := by decide +kernel
theorem d_M_rule_225 : decode b_M_rule 225 = .ok (.iload 4, 2) := by decide +kernel
theorem d_M_rule_227 : decode b_M_rule 227 = .ok (.ifCond .le 12, 3) := by decide +kernel
theorem d_M_rule_230 : decode b_M_rule 230 = .ok (.aload_n 0, 1) := by decide +kernel
theorem d_M_rule_231 : decode b_M_rule 231 = .ok (.getfield 42, 3) := by decide +kernel
theorem d_M_rule_234 : decode b_M_rule 234 = .ok (.iload_n 2, 1) := by decide +kernel
theorem d_M_rule_235 : decode b_M_rule 235 = .ok (.laload, 1) := by decide +kernel
theorem d_M_rule_236 : decode b_M_rule 236 = .ok (.goto 4, 3) := by decide +kernel
theorem d_M_rule_239 : decode b_M_rule 239 = .ok (.lconst 0, 1) := by decide +kernel
theorem d_M_rule_240 : decode b_M_rule 240 = .ok (.iload 4, 2) := by decide +kernel
theorem d_M_rule_242 : decode b_M_rule 242 = .ok (.iconst 1, 1) := by decide +kernel
theorem d_M_rule_243 : decode b_M_rule 243 = .ok (.if_icmp .le 12, 3) := by decide +kernel
theorem d_M_rule_246 : decode b_M_rule 246 = .ok (.aload_n 0, 1) := by decide +kernel
theorem d_M_rule_247 : decode b_M_rule 247 = .ok (.getfield 42, 3) := by decide +kernel
theorem d_M_rule_250 : decode b_M_rule 250 = .ok (.iload_n 3, 1) := by decide +kernel
theorem d_M_rule_251 : decode b_M_rule 251 = .ok (.laload, 1) := by decide +kernel
theorem d_M_rule_252 : decode b_M_rule 252 = .ok (.goto 4, 3) := by decide +kernel
theorem d_M_rule_255 : decode b_M_rule 255 = .ok (.lconst 0, 1) := by decide +kernel
theorem d_M_rule_256 : decode b_M_rule 256 = .ok (.lor, 1) := by decide +kernel
theorem d_M_rule_257 : decode b_M_rule 257 = .ok (.iload_n 1, 1) := by decide +kernel
theorem d_M_rule_258 : decode b_M_rule 258 = .ok (.ifCond .ne 10, 3) := by decide +kernel
theorem d_M_rule_261 : decode b_M_rule 261 = .ok (.lconst 1, 1) := by decide +kernel
theorem d_M_rule_262 : decode b_M_rule 262 = .ok (.iload 9, 2) := by decide +kernel
theorem d_M_rule_264 : decode b_M_rule 264 = .ok (.lshl, 1) := by decide +kernel
theorem d_M_rule_265 : decode b_M_rule 265 = .ok (.goto 4, 3) := by decide +kernel
theorem d_M_rule_268 : decode b_M_rule 268 = .ok (.lconst 0, 1) := by decide +kernel
theorem d_M_rule_269 : decode b_M_rule 269 = .ok (.lor, 1) := by decide +kernel
theorem d_M_rule_270 : decode b_M_rule 270 = .ok (.lastore, 1) := by decide +kernel
theorem d_M_rule_271 : decode b_M_rule 271 = .ok (.iconst 1, 1) := by decide +kernel
theorem d_M_rule_272 : decode b_M_rule 272 = .ok (.iload 4, 2) := by decide +kernel
theorem d_M_rule_274 : decode b_M_rule 274 = .ok (.ifCond .le 12, 3) := by decide +kernel
theorem d_M_rule_277 : decode b_M_rule 277 = .ok (.aload_n 0, 1) := by decide +kernel
theorem d_M_rule_278 : decode b_M_rule 278 = .ok (.getfield 45, 3) := by decide +kernel
theorem d_M_rule_281 : decode b_M_rule 281 = .ok (.iload_n 2, 1) := by decide +kernel
theorem d_M_rule_282 : decode b_M_rule 282 = .ok (.iaload, 1) := by decide +kernel
theorem d_M_rule_283 : decode b_M_rule 283 = .ok (.goto 4, 3) := by decide +kernel
theorem d_M_rule_286 : decode b_M_rule 286 = .ok (.iconst 0, 1) := by decide +kernel
theorem d_M_rule_287 : decode b_M_rule 287 = .ok (.iadd, 1) := by decide +kernel
theorem d_M_rule_288 : decode b_M_rule 288 = .ok (.iload 4, 2) := by decide +kernel
theorem d_M_rule_290 : decode b_M_rule 290 = .ok (.iconst 1, 1) := by decide +kernel
theorem d_M_rule_291 : decode b_M_rule 291 = .ok (.if_icmp .le 12, 3) := by decide +kernel
theorem d_M_rule_294 : decode b_M_rule 294 = .ok (.aload_n 0, 1) := by decide +kernel
theorem d_M_rule_295 : decode b_M_rule 295 = .ok (.getfield 45, 3) := by decide +kernel
theorem d_M_rule_298 : decode b_M_rule 298 = .ok (.iload_n 3, 1) := by decide +kernel
theorem d_M_rule_299 : decode b_M_rule 299 = .ok (.iaload, 1) := by decide +kernel
theorem d_M_rule_300 : decode b_M_rule 300 = .ok (.goto 4, 3) := by decide +kernel
theorem d_M_rule_303 : decode b_M_rule 303 = .ok (.iconst 0, 1) := by decide +kernel
theorem d_M_rule_304 : decode b_M_rule 304 = .ok (.iadd, 1) := by decide +kernel
theorem d_M_rule_305 : decode b_M_rule 305 = .ok (.istore 10, 2) := by decide +kernel
theorem d_M_rule_307 : decode b_M_rule 307 = .ok (.aload_n 0, 1) := by decide +kernel
theorem d_M_rule_308 : decode b_M_rule 308 = .ok (.getfield 45, 3) := by decide +kernel
theorem d_M_rule_311 : decode b_M_rule 311 = .ok (.iload 9, 2) := by decide +kernel
theorem d_M_rule_313 : decode b_M_rule 313 = .ok (.iload 10, 2) := by decide +kernel
theorem d_M_rule_315 : decode b_M_rule 315 = .ok (.ldc 161, 2) := by decide +kernel
theorem d_M_rule_317 : decode b_M_rule 317 = .ok (.if_icmp .le 8, 3) := by decide +kernel
theorem d_M_rule_320 : decode b_M_rule 320 = .ok (.ldc 161, 2) := by decide +kernel
theorem d_M_rule_322 : decode b_M_rule 322 = .ok (.goto 5, 3) := by decide +kernel
theorem d_M_rule_325 : decode b_M_rule 325 = .ok (.iload 10, 2) := by decide +kernel
theorem d_M_rule_327 : decode b_M_rule 327 = .ok (.iastore, 1) := by decide +kernel
theorem d_M_rule_328 : decode b_M_rule 328 = .ok (.aload_n 0, 1) := by decide +kernel
theorem d_M_rule_329 : decode b_M_rule 329 = .ok (.dup, 1) := by decide +kernel
theorem d_M_rule_330 : decode b_M_rule 330 = .ok (.getfield 115, 3) := by decide +kernel
theorem d_M_rule_333 : decode b_M_rule 333 = .ok (.iconst 1, 1) := by decide +kernel
theorem d_M_rule_334 : decode b_M_rule 334 = .ok (.iadd, 1) := by decide +kernel
theorem d_M_rule_335 : decode b_M_rule 335 = .ok (.putfield 115, 3) := by decide +kernel
theorem d_M_rule_338 : decode b_M_rule 338 = .ok (.iload 9, 2) := by decide +kernel
theorem d_M_rule_340 : decode b_M_rule 340 = .ok (.ireturn, 1) := by decide +kernel
theorem d_M_terms_0 : decode b_M_terms 0 = .ok (.aload_n 0, 1) := by decide +kernel
theorem d_M_terms_1 : decode b_M_terms 1 = .ok (.getfield 78, 3) := by decide +kernel
theorem d_M_terms_4 : decode b_M_terms 4 = .ok (.ireturn, 1) := by decide +kernel
theorem d_M_theorems_0 : decode b_M_theorems 0 = .ok (.aload_n 0, 1) := by decide +kernel
theorem d_M_theorems_1 : decode b_M_theorems 1 = .ok (.getfield 115, 3) := by decide +kernel
theorem d_M_theorems_4 : decode b_M_theorems 4 = .ok (.ireturn, 1) := by decide +kernel
theorem d_M_typeOf_0 : decode b_M_typeOf 0 = .ok (.aload_n 0, 1) := by decide +kernel
theorem d_M_typeOf_1 : decode b_M_typeOf 1 = .ok (.iload_n 1, 1) := by decide +kernel
theorem d_M_typeOf_2 : decode b_M_typeOf 2 = .ok (.invokevirtual 99, 3) := by decide +kernel
theorem d_M_typeOf_5 : decode b_M_typeOf 5 = .ok (.ifCond .eq 12, 3) := by decide +kernel
theorem d_M_typeOf_8 : decode b_M_typeOf 8 = .ok (.aload_n 0, 1) := by decide +kernel
theorem d_M_typeOf_9 : decode b_M_typeOf 9 = .ok (.getfield 16, 3) := by decide +kernel
theorem d_M_typeOf_12 : decode b_M_typeOf 12 = .ok (.iload_n 1, 1) := by decide +kernel
theorem d_M_typeOf_13 : decode b_M_typeOf 13 = .ok (.iaload, 1) := by decide +kernel
theorem d_M_typeOf_14 : decode b_M_typeOf 14 = .ok (.goto 4, 3) := by decide +kernel
theorem d_M_typeOf_17 : decode b_M_typeOf 17 = .ok (.iconst (-1), 1) := by decide +kernel
theorem d_M_typeOf_18 : decode b_M_typeOf 18 = .ok (.ireturn, 1) := by decide +kernel
theorem d_M_size_0 : decode b_M_size 0 = .ok (.aload_n 0, 1) := by decide +kernel
theorem d_M_size_1 : decode b_M_size 1 = .ok (.iload_n 1, 1) := by decide +kernel
theorem d_M_size_2 : decode b_M_size 2 = .ok (.invokevirtual 99, 3) := by decide +kernel
theorem d_M_size_5 : decode b_M_size 5 = .ok (.ifCond .eq 12, 3) := by decide +kernel
theorem d_M_size_8 : decode b_M_size 8 = .ok (.aload_n 0, 1) := by decide +kernel
theorem d_M_size_9 : decode b_M_size 9 = .ok (.getfield 13, 3) := by decide +kernel
theorem d_M_size_12 : decode b_M_size 12 = .ok (.iload_n 1, 1) := by decide +kernel
theorem d_M_size_13 : decode b_M_size 13 = .ok (.iaload, 1) := by decide +kernel
theorem d_M_size_14 : decode b_M_size 14 = .ok (.goto 4, 3) := by decide +kernel
theorem d_M_size_17 : decode b_M_size 17 = .ok (.iconst (-1), 1) := by decide +kernel
theorem d_M_size_18 : decode b_M_size 18 = .ok (.ireturn, 1) := by decide +kernel
theorem d_M_free_0 : decode b_M_free 0 = .ok (.aload_n 0, 1) := by decide +kernel
theorem d_M_free_1 : decode b_M_free 1 = .ok (.iload_n 1, 1) := by decide +kernel
theorem d_M_free_2 : decode b_M_free 2 = .ok (.invokevirtual 99, 3) := by decide +kernel
theorem d_M_free_5 : decode b_M_free 5 = .ok (.ifCond .eq 40, 3) := by decide +kernel
theorem d_M_free_8 : decode b_M_free 8 = .ok (.aload_n 0, 1) := by decide +kernel
theorem d_M_free_9 : decode b_M_free 9 = .ok (.iload_n 2, 1) := by decide +kernel
theorem d_M_free_10 : decode b_M_free 10 = .ok (.invokevirtual 99, 3) := by decide +kernel
theorem d_M_free_13 : decode b_M_free 13 = .ok (.ifCond .eq 32, 3) := by decide +kernel
theorem d_M_free_16 : decode b_M_free 16 = .ok (.aload_n 0, 1) := by decide +kernel
theorem d_M_free_17 : decode b_M_free 17 = .ok (.iload_n 1, 1) := by decide +kernel
theorem d_M_free_18 : decode b_M_free 18 = .ok (.invokevirtual 105, 3) := by decide +kernel
theorem d_M_free_21 : decode b_M_free 21 = .ok (.ifCond .eq 24, 3) := by decide +kernel
theorem d_M_free_24 : decode b_M_free 24 = .ok (.aload_n 0, 1) := by decide +kernel
theorem d_M_free_25 : decode b_M_free 25 = .ok (.aload_n 0, 1) := by decide +kernel
theorem d_M_free_26 : decode b_M_free 26 = .ok (.getfield 7, 3) := by decide +kernel
theorem d_M_free_29 : decode b_M_free 29 = .ok (.bipush 32, 2) := by decide +kernel
theorem d_M_free_31 : decode b_M_free 31 = .ok (.iload_n 1, 1) := by decide +kernel
theorem d_M_free_32 : decode b_M_free 32 = .ok (.imul, 1) := by decide +kernel
theorem d_M_free_33 : decode b_M_free 33 = .ok (.iaload, 1) := by decide +kernel
theorem d_M_free_34 : decode b_M_free 34 = .ok (.iload_n 2, 1) := by decide +kernel
theorem d_M_free_35 : decode b_M_free 35 = .ok (.invokevirtual 122, 3) := by decide +kernel
theorem d_M_free_38 : decode b_M_free 38 = .ok (.ifCond .eq 7, 3) := by decide +kernel
theorem d_M_free_41 : decode b_M_free 41 = .ok (.iconst 1, 1) := by decide +kernel
theorem d_M_free_42 : decode b_M_free 42 = .ok (.goto 4, 3) := by decide +kernel
theorem d_M_free_45 : decode b_M_free 45 = .ok (.iconst 0, 1) := by decide +kernel
theorem d_M_free_46 : decode b_M_free 46 = .ok (.ireturn, 1) := by decide +kernel
theorem d_M_say_0 : decode b_M_say 0 = .ok (.aload_n 0, 1) := by decide +kernel
theorem d_M_say_1 : decode b_M_say 1 = .ok (.getfield 48, 3) := by decide +kernel
theorem d_M_say_4 : decode b_M_say 4 = .ok (.aload_n 0, 1) := by decide +kernel
theorem d_M_say_5 : decode b_M_say 5 = .ok (.getfield 162, 3) := by decide +kernel
theorem d_M_say_8 : decode b_M_say 8 = .ok (.iload_n 1, 1) := by decide +kernel
theorem d_M_say_9 : decode b_M_say 9 = .ok (.iastore, 1) := by decide +kernel
theorem d_M_say_10 : decode b_M_say 10 = .ok (.aload_n 0, 1) := by decide +kernel
theorem d_M_say_11 : decode b_M_say 11 = .ok (.dup, 1) := by decide +kernel
theorem d_M_say_12 : decode b_M_say 12 = .ok (.getfield 162, 3) := by decide +kernel
theorem d_M_say_15 : decode b_M_say 15 = .ok (.iconst 1, 1) := by decide +kernel
theorem d_M_say_16 : decode b_M_say 16 = .ok (.iadd, 1) := by decide +kernel
theorem d_M_say_17 : decode b_M_say 17 = .ok (.putfield 162, 3) := by decide +kernel
theorem d_M_say_20 : decode b_M_say 20 = .ok (.return_, 1) := by decide +kernel
theorem d_M_printed_0 : decode b_M_printed 0 = .ok (.aload_n 0, 1) := by decide +kernel
theorem d_M_printed_1 : decode b_M_printed 1 = .ok (.iload_n 1, 1) := by decide +kernel
theorem d_M_printed_2 : decode b_M_printed 2 = .ok (.invokevirtual 99, 3) := by decide +kernel
theorem d_M_printed_5 : decode b_M_printed 5 = .ok (.ifCond .eq 8, 3) := by decide +kernel
theorem d_M_printed_8 : decode b_M_printed 8 = .ok (.iload_n 2, 1) := by decide +kernel
theorem d_M_printed_9 : decode b_M_printed 9 = .ok (.iconst (-1), 1) := by decide +kernel
theorem d_M_printed_10 : decode b_M_printed 10 = .ok (.if_icmp .ge 5, 3) := by decide +kernel
theorem d_M_printed_13 : decode b_M_printed 13 = .ok (.iconst (-1), 1) := by decide +kernel
theorem d_M_printed_14 : decode b_M_printed 14 = .ok (.ireturn, 1) := by decide +kernel
theorem d_M_printed_15 : decode b_M_printed 15 = .ok (.aload_n 0, 1) := by decide +kernel
theorem d_M_printed_16 : decode b_M_printed 16 = .ok (.iconst 0, 1) := by decide +kernel
theorem d_M_printed_17 : decode b_M_printed 17 = .ok (.putfield 162, 3) := by decide +kernel
theorem d_M_printed_20 : decode b_M_printed 20 = .ok (.bipush 32, 2) := by decide +kernel
theorem d_M_printed_22 : decode b_M_printed 22 = .ok (.iload_n 1, 1) := by decide +kernel
theorem d_M_printed_23 : decode b_M_printed 23 = .ok (.imul, 1) := by decide +kernel
theorem d_M_printed_24 : decode b_M_printed 24 = .ok (.istore_n 3, 1) := by decide +kernel
theorem d_M_printed_25 : decode b_M_printed 25 = .ok (.iload_n 3, 1) := by decide +kernel
theorem d_M_printed_26 : decode b_M_printed 26 = .ok (.bipush 32, 2) := by decide +kernel
theorem d_M_printed_28 : decode b_M_printed 28 = .ok (.iload_n 1, 1) := by decide +kernel
theorem d_M_printed_29 : decode b_M_printed 29 = .ok (.imul, 1) := by decide +kernel
theorem d_M_printed_30 : decode b_M_printed 30 = .ok (.aload_n 0, 1) := by decide +kernel
theorem d_M_printed_31 : decode b_M_printed 31 = .ok (.getfield 13, 3) := by decide +kernel
theorem d_M_printed_34 : decode b_M_printed 34 = .ok (.iload_n 1, 1) := by decide +kernel
theorem d_M_printed_35 : decode b_M_printed 35 = .ok (.iaload, 1) := by decide +kernel
theorem d_M_printed_36 : decode b_M_printed 36 = .ok (.iadd, 1) := by decide +kernel
theorem d_M_printed_37 : decode b_M_printed 37 = .ok (.if_icmp .ge 160, 3) := by decide +kernel
theorem d_M_printed_40 : decode b_M_printed 40 = .ok (.aload_n 0, 1) := by decide +kernel
theorem d_M_printed_41 : decode b_M_printed 41 = .ok (.getfield 7, 3) := by decide +kernel
theorem d_M_printed_44 : decode b_M_printed 44 = .ok (.iload_n 3, 1) := by decide +kernel
theorem d_M_printed_45 : decode b_M_printed 45 = .ok (.iaload, 1) := by decide +kernel
theorem d_M_printed_46 : decode b_M_printed 46 = .ok (.istore 4, 2) := by decide +kernel
theorem d_M_printed_48 : decode b_M_printed 48 = .ok (.iload 4, 2) := by decide +kernel
theorem d_M_printed_50 : decode b_M_printed 50 = .ok (.iconst 1, 1) := by decide +kernel
theorem d_M_printed_51 : decode b_M_printed 51 = .ok (.if_icmp .ne 8, 3) := by decide +kernel
theorem d_M_printed_54 : decode b_M_printed 54 = .ok (.bipush 64, 2) := by decide +kernel
theorem d_M_printed_56 : decode b_M_printed 56 = .ok (.goto 100, 3) := by decide +kernel
theorem d_M_printed_59 : decode b_M_printed 59 = .ok (.iload 4, 2) := by decide +kernel
theorem d_M_printed_61 : decode b_M_printed 61 = .ok (.iconst 2, 1) := by decide +kernel
theorem d_M_printed_62 : decode b_M_printed 62 = .ok (.if_icmp .ne 8, 3) := by decide +kernel
theorem d_M_printed_65 : decode b_M_printed 65 = .ok (.bipush 62, 2) := by decide +kernel
theorem d_M_printed_67 : decode b_M_printed 67 = .ok (.goto 89, 3) := by decide +kernel
theorem d_M_printed_70 : decode b_M_printed 70 = .ok (.iload 4, 2) := by decide +kernel
theorem d_M_printed_72 : decode b_M_printed 72 = .ok (.iconst 3, 1) := by decide +kernel
theorem d_M_printed_73 : decode b_M_printed 73 = .ok (.if_icmp .ne 8, 3) := by decide +kernel
theorem d_M_printed_76 : decode b_M_printed 76 = .ok (.bipush 61, 2) := by decide +kernel
theorem d_M_printed_78 : decode b_M_printed 78 = .ok (.goto 78, 3) := by decide +kernel
theorem d_M_printed_81 : decode b_M_printed 81 = .ok (.iload 4, 2) := by decide +kernel
theorem d_M_printed_83 : decode b_M_printed 83 = .ok (.bipush 32, 2) := by decide +kernel
theorem d_M_printed_85 : decode b_M_printed 85 = .ok (.if_icmp .ge 8, 3) := by decide +kernel
theorem d_M_printed_88 : decode b_M_printed 88 = .ok (.bipush 47, 2) := by decide +kernel
theorem d_M_printed_90 : decode b_M_printed 90 = .ok (.goto 66, 3) := by decide +kernel
theorem d_M_printed_93 : decode b_M_printed 93 = .ok (.iload 4, 2) := by decide +kernel
theorem d_M_printed_95 : decode b_M_printed 95 = .ok (.bipush 64, 2) := by decide +kernel
theorem d_M_printed_97 : decode b_M_printed 97 = .ok (.if_icmp .ge 8, 3) := by decide +kernel
theorem d_M_printed_100 : decode b_M_printed 100 = .ok (.bipush 33, 2) := by decide +kernel
theorem d_M_printed_102 : decode b_M_printed 102 = .ok (.goto 54, 3) := by decide +kernel
theorem d_M_printed_105 : decode b_M_printed 105 = .ok (.iload 4, 2) := by decide +kernel
theorem d_M_printed_107 : decode b_M_printed 107 = .ok (.sipush 240, 3) := by decide +kernel
theorem d_M_printed_110 : decode b_M_printed 110 = .ok (.if_icmp .ge 17, 3) := by decide +kernel
theorem d_M_printed_113 : decode b_M_printed 113 = .ok (.bipush 97, 2) := by decide +kernel
theorem d_M_printed_115 : decode b_M_printed 115 = .ok (.iload 4, 2) := by decide +kernel
theorem d_M_printed_117 : decode b_M_printed 117 = .ok (.bipush 64, 2) := by decide +kernel
theorem d_M_printed_119 : decode b_M_printed 119 = .ok (.isub, 1) := by decide +kernel
theorem d_M_printed_120 : decode b_M_printed 120 = .ok (.bipush 16, 2) := by decide +kernel
theorem d_M_printed_122 : decode b_M_printed 122 = .ok (.idiv, 1) := by decide +kernel
theorem d_M_printed_123 : decode b_M_printed 123 = .ok (.iadd, 1) := by decide +kernel
theorem d_M_printed_124 : decode b_M_printed 124 = .ok (.goto 32, 3) := by decide +kernel
theorem d_M_printed_127 : decode b_M_printed 127 = .ok (.iload 4, 2) := by decide +kernel
theorem d_M_printed_129 : decode b_M_printed 129 = .ok (.sipush 256, 3) := by decide +kernel
theorem d_M_printed_132 : decode b_M_printed 132 = .ok (.if_icmp .ge 15, 3) := by decide +kernel
theorem d_M_printed_135 : decode b_M_printed 135 = .ok (.bipush 48, 2) := by decide +kernel
theorem d_M_printed_137 : decode b_M_printed 137 = .ok (.iload 4, 2) := by decide +kernel
theorem d_M_printed_139 : decode b_M_printed 139 = .ok (.iadd, 1) := by decide +kernel
theorem d_M_printed_140 : decode b_M_printed 140 = .ok (.sipush 240, 3) := by decide +kernel
theorem d_M_printed_143 : decode b_M_printed 143 = .ok (.isub, 1) := by decide +kernel
theorem d_M_printed_144 : decode b_M_printed 144 = .ok (.goto 12, 3) := by decide +kernel
theorem d_M_printed_147 : decode b_M_printed 147 = .ok (.bipush 122, 2) := by decide +kernel
theorem d_M_printed_149 : decode b_M_printed 149 = .ok (.iload 4, 2) := by decide +kernel
theorem d_M_printed_151 : decode b_M_printed 151 = .ok (.sipush 256, 3) := by decide +kernel
theorem d_M_printed_154 : decode b_M_printed 154 = .ok (.isub, 1) := by decide +kernel
theorem d_M_printed_155 : decode b_M_printed 155 = .ok (.isub, 1) := by decide +kernel
theorem d_M_printed_156 : decode b_M_printed 156 = .ok (.istore 5, 2) := by decide +kernel
theorem d_M_printed_158 : decode b_M_printed 158 = .ok (.aload_n 0, 1) := by decide +kernel
theorem d_M_printed_159 : decode b_M_printed 159 = .ok (.iload 5, 2) := by decide +kernel
theorem d_M_printed_161 : decode b_M_printed 161 = .ok (.invokevirtual 165, 3) := by decide +kernel
theorem d_M_printed_164 : decode b_M_printed 164 = .ok (.iload 4, 2) := by decide +kernel
theorem d_M_printed_166 : decode b_M_printed 166 = .ok (.bipush 16, 2) := by decide +kernel
theorem d_M_printed_168 : decode b_M_printed 168 = .ok (.if_icmp .lt 23, 3) := by decide +kernel
theorem d_M_printed_171 : decode b_M_printed 171 = .ok (.iload 4, 2) := by decide +kernel
theorem d_M_printed_173 : decode b_M_printed 173 = .ok (.sipush 240, 3) := by decide +kernel
theorem d_M_printed_176 : decode b_M_printed 176 = .ok (.if_icmp .ge 15, 3) := by decide +kernel
theorem d_M_printed_179 : decode b_M_printed 179 = .ok (.aload_n 0, 1) := by decide +kernel
theorem d_M_printed_180 : decode b_M_printed 180 = .ok (.bipush 65, 2) := by decide +kernel
theorem d_M_printed_182 : decode b_M_printed 182 = .ok (.iload 4, 2) := by decide +kernel
theorem d_M_printed_184 : decode b_M_printed 184 = .ok (.bipush 15, 2) := by decide +kernel
theorem d_M_printed_186 : decode b_M_printed 186 = .ok (.iand, 1) := by decide +kernel
theorem d_M_printed_187 : decode b_M_printed 187 = .ok (.iadd, 1) := by decide +kernel
theorem d_M_printed_188 : decode b_M_printed 188 = .ok (.invokevirtual 165, 3) := by decide +kernel
theorem d_M_printed_191 : decode b_M_printed 191 = .ok (.iinc 3 1, 3) := by decide +kernel
theorem d_M_printed_194 : decode b_M_printed 194 = .ok (.goto (-169), 3) := by decide +kernel
theorem d_M_printed_197 : decode b_M_printed 197 = .ok (.iload_n 2, 1) := by decide +kernel
theorem d_M_printed_198 : decode b_M_printed 198 = .ok (.iconst (-1), 1) := by decide +kernel
theorem d_M_printed_199 : decode b_M_printed 199 = .ok (.if_icmp .ne 10, 3) := by decide +kernel
theorem d_M_printed_202 : decode b_M_printed 202 = .ok (.aload_n 0, 1) := by decide +kernel
theorem d_M_printed_203 : decode b_M_printed 203 = .ok (.getfield 162, 3) := by decide +kernel
theorem d_M_printed_206 : decode b_M_printed 206 = .ok (.goto 21, 3) := by decide +kernel
theorem d_M_printed_209 : decode b_M_printed 209 = .ok (.iload_n 2, 1) := by decide +kernel
theorem d_M_printed_210 : decode b_M_printed 210 = .ok (.aload_n 0, 1) := by decide +kernel
theorem d_M_printed_211 : decode b_M_printed 211 = .ok (.getfield 162, 3) := by decide +kernel
theorem d_M_printed_214 : decode b_M_printed 214 = .ok (.if_icmp .ge 12, 3) := by decide +kernel
theorem d_M_printed_217 : decode b_M_printed 217 = .ok (.aload_n 0, 1) := by decide +kernel
theorem d_M_printed_218 : decode b_M_printed 218 = .ok (.getfield 48, 3) := by decide +kernel
theorem d_M_printed_221 : decode b_M_printed 221 = .ok (.iload_n 2, 1) := by decide +kernel
theorem d_M_printed_222 : decode b_M_printed 222 = .ok (.iaload, 1) := by decide +kernel
theorem d_M_printed_223 : decode b_M_printed 223 = .ok (.goto 4, 3) := by decide +kernel
theorem d_M_printed_226 : decode b_M_printed 226 = .ok (.iconst (-1), 1) := by decide +kernel
theorem d_M_printed_227 : decode b_M_printed 227 = .ok (.ireturn, 1) := by decide +kernel
theorem d_M_conclusion_0 : decode b_M_conclusion 0 = .ok (.aload_n 0, 1) := by decide +kernel
theorem d_M_conclusion_1 : decode b_M_conclusion 1 = .ok (.iload_n 1, 1) := by decide +kernel
theorem d_M_conclusion_2 : decode b_M_conclusion 2 = .ok (.invokevirtual 128, 3) := by decide +kernel
theorem d_M_conclusion_5 : decode b_M_conclusion 5 = .ok (.ifCond .eq 12, 3) := by decide +kernel
theorem d_M_conclusion_8 : decode b_M_conclusion 8 = .ok (.aload_n 0, 1) := by decide +kernel
theorem d_M_conclusion_9 : decode b_M_conclusion 9 = .ok (.getfield 39, 3) := by decide +kernel
theorem d_M_conclusion_12 : decode b_M_conclusion 12 = .ok (.iload_n 1, 1) := by decide +kernel
theorem d_M_conclusion_13 : decode b_M_conclusion 13 = .ok (.iaload, 1) := by decide +kernel
theorem d_M_conclusion_14 : decode b_M_conclusion 14 = .ok (.goto 4, 3) := by decide +kernel
theorem d_M_conclusion_17 : decode b_M_conclusion 17 = .ok (.iconst (-1), 1) := by decide +kernel
theorem d_M_conclusion_18 : decode b_M_conclusion 18 = .ok (.ireturn, 1) := by decide +kernel
theorem d_M_hypotheses_0 : decode b_M_hypotheses 0 = .ok (.aload_n 0, 1) := by decide +kernel
theorem d_M_hypotheses_1 : decode b_M_hypotheses 1 = .ok (.iload_n 1, 1) := by decide +kernel
theorem d_M_hypotheses_2 : decode b_M_hypotheses 2 = .ok (.invokevirtual 128, 3) := by decide +kernel
theorem d_M_hypotheses_5 : decode b_M_hypotheses 5 = .ok (.ifCond .eq 12, 3) := by decide +kernel
theorem d_M_hypotheses_8 : decode b_M_hypotheses 8 = .ok (.aload_n 0, 1) := by decide +kernel
theorem d_M_hypotheses_9 : decode b_M_hypotheses 9 = .ok (.getfield 35, 3) := by decide +kernel
theorem d_M_hypotheses_12 : decode b_M_hypotheses 12 = .ok (.iload_n 1, 1) := by decide +kernel
theorem d_M_hypotheses_13 : decode b_M_hypotheses 13 = .ok (.laload, 1) := by decide +kernel
theorem d_M_hypotheses_14 : decode b_M_hypotheses 14 = .ok (.goto 6, 3) := by decide +kernel
theorem d_M_hypotheses_17 : decode b_M_hypotheses 17 = .ok (.ldc2_w 131, 3) := by decide +kernel
theorem d_M_hypotheses_20 : decode b_M_hypotheses 20 = .ok (.lreturn, 1) := by decide +kernel
theorem d_M_axioms_0 : decode b_M_axioms 0 = .ok (.aload_n 0, 1) := by decide +kernel
theorem d_M_axioms_1 : decode b_M_axioms 1 = .ok (.iload_n 1, 1) := by decide +kernel
theorem d_M_axioms_2 : decode b_M_axioms 2 = .ok (.invokevirtual 128, 3) := by decide +kernel
theorem d_M_axioms_5 : decode b_M_axioms 5 = .ok (.ifCond .eq 12, 3) := by decide +kernel
theorem d_M_axioms_8 : decode b_M_axioms 8 = .ok (.aload_n 0, 1) := by decide +kernel
theorem d_M_axioms_9 : decode b_M_axioms 9 = .ok (.getfield 42, 3) := by decide +kernel
theorem d_M_axioms_12 : decode b_M_axioms 12 = .ok (.iload_n 1, 1) := by decide +kernel
theorem d_M_axioms_13 : decode b_M_axioms 13 = .ok (.laload, 1) := by decide +kernel
theorem d_M_axioms_14 : decode b_M_axioms 14 = .ok (.goto 6, 3) := by decide +kernel
theorem d_M_axioms_17 : decode b_M_axioms 17 = .ok (.ldc2_w 131, 3) := by decide +kernel
theorem d_M_axioms_20 : decode b_M_axioms 20 = .ok (.lreturn, 1) := by decide +kernel
theorem d_M_steps_0 : decode b_M_steps 0 = .ok (.aload_n 0, 1) := by decide +kernel
theorem d_M_steps_1 : decode b_M_steps 1 = .ok (.iload_n 1, 1) := by decide +kernel
theorem d_M_steps_2 : decode b_M_steps 2 = .ok (.invokevirtual 128, 3) := by decide +kernel
theorem d_M_steps_5 : decode b_M_steps 5 = .ok (.ifCond .eq 12, 3) := by decide +kernel
theorem d_M_steps_8 : decode b_M_steps 8 = .ok (.aload_n 0, 1) := by decide +kernel
theorem d_M_steps_9 : decode b_M_steps 9 = .ok (.getfield 45, 3) := by decide +kernel
theorem d_M_steps_12 : decode b_M_steps 12 = .ok (.iload_n 1, 1) := by decide +kernel
theorem d_M_steps_13 : decode b_M_steps 13 = .ok (.iaload, 1) := by decide +kernel
theorem d_M_steps_14 : decode b_M_steps 14 = .ok (.goto 4, 3) := by decide +kernel
theorem d_M_steps_17 : decode b_M_steps 17 = .ok (.iconst (-1), 1) := by decide +kernel
theorem d_M_steps_18 : decode b_M_steps 18 = .ok (.ireturn, 1) := by decide +kernel
