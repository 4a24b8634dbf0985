theorem d_B_init_0 : decode b_B_init 0 = .ok (.aload_n 0, 1) := by decide +kernel
theorem d_B_init_1 : decode b_B_init 1 = .ok (.invokespecial 3, 3) := by decide +kernel
theorem d_B_init_4 : decode b_B_init 4 = .ok (.aload_n 0, 1) := by decide +kernel
theorem d_B_init_5 : decode b_B_init 5 = .ok (.bipush 40, 2) := by decide +kernel
theorem d_B_init_7 : decode b_B_init 7 = .ok (.newarray .long, 2) := by decide +kernel
theorem d_B_init_9 : decode b_B_init 9 = .ok (.putfield 9, 3) := by decide +kernel
theorem d_B_init_12 : decode b_B_init 12 = .ok (.aload_n 0, 1) := by decide +kernel
theorem d_B_init_13 : decode b_B_init 13 = .ok (.bipush 40, 2) := by decide +kernel
theorem d_B_init_15 : decode b_B_init 15 = .ok (.newarray .int, 2) := by decide +kernel
theorem d_B_init_17 : decode b_B_init 17 = .ok (.putfield 15, 3) := by decide +kernel
theorem d_B_init_20 : decode b_B_init 20 = .ok (.aload_n 0, 1) := by decide +kernel
theorem d_B_init_21 : decode b_B_init 21 = .ok (.bipush 40, 2) := by decide +kernel
theorem d_B_init_23 : decode b_B_init 23 = .ok (.newarray .int, 2) := by decide +kernel
theorem d_B_init_25 : decode b_B_init 25 = .ok (.putfield 19, 3) := by decide +kernel
theorem d_B_init_28 : decode b_B_init 28 = .ok (.aload_n 0, 1) := by decide +kernel
theorem d_B_init_29 : decode b_B_init 29 = .ok (.bipush 40, 2) := by decide +kernel
theorem d_B_init_31 : decode b_B_init 31 = .ok (.newarray .int, 2) := by decide +kernel
theorem d_B_init_33 : decode b_B_init 33 = .ok (.putfield 22, 3) := by decide +kernel
theorem d_B_init_36 : decode b_B_init 36 = .ok (.aload_n 0, 1) := by decide +kernel
theorem d_B_init_37 : decode b_B_init 37 = .ok (.bipush 40, 2) := by decide +kernel
theorem d_B_init_39 : decode b_B_init 39 = .ok (.newarray .int, 2) := by decide +kernel
theorem d_B_init_41 : decode b_B_init 41 = .ok (.putfield 25, 3) := by decide +kernel
theorem d_B_init_44 : decode b_B_init 44 = .ok (.aload_n 0, 1) := by decide +kernel
theorem d_B_init_45 : decode b_B_init 45 = .ok (.bipush 40, 2) := by decide +kernel
theorem d_B_init_47 : decode b_B_init 47 = .ok (.newarray .int, 2) := by decide +kernel
theorem d_B_init_49 : decode b_B_init 49 = .ok (.putfield 28, 3) := by decide +kernel
theorem d_B_init_52 : decode b_B_init 52 = .ok (.return_, 1) := by decide +kernel
theorem d_B_count_0 : decode b_B_count 0 = .ok (.aload_n 0, 1) := by decide +kernel
theorem d_B_count_1 : decode b_B_count 1 = .ok (.getfield 31, 3) := by decide +kernel
theorem d_B_count_4 : decode b_B_count 4 = .ok (.ireturn, 1) := by decide +kernel
theorem d_B_has_0 : decode b_B_has 0 = .ok (.iload_n 1, 1) := by decide +kernel
theorem d_B_has_1 : decode b_B_has 1 = .ok (.ifCond .lt 15, 3) := by decide +kernel
theorem d_B_has_4 : decode b_B_has 4 = .ok (.iload_n 1, 1) := by decide +kernel
theorem d_B_has_5 : decode b_B_has 5 = .ok (.aload_n 0, 1) := by decide +kernel
theorem d_B_has_6 : decode b_B_has 6 = .ok (.getfield 31, 3) := by decide +kernel
theorem d_B_has_9 : decode b_B_has 9 = .ok (.if_icmp .ge 7, 3) := by decide +kernel
theorem d_B_has_12 : decode b_B_has 12 = .ok (.iconst 1, 1) := by decide +kernel
theorem d_B_has_13 : decode b_B_has 13 = .ok (.goto 4, 3) := by decide +kernel
theorem d_B_has_16 : decode b_B_has 16 = .ok (.iconst 0, 1) := by decide +kernel
theorem d_B_has_17 : decode b_B_has 17 = .ok (.ireturn, 1) := by decide +kernel
theorem d_B_isFull_0 : decode b_B_isFull 0 = .ok (.aload_n 0, 1) := by decide +kernel
theorem d_B_isFull_1 : decode b_B_isFull 1 = .ok (.getfield 31, 3) := by decide +kernel
theorem d_B_isFull_4 : decode b_B_isFull 4 = .ok (.bipush 40, 2) := by decide +kernel
theorem d_B_isFull_6 : decode b_B_isFull 6 = .ok (.if_icmp .ne 7, 3) := by decide +kernel
theorem d_B_isFull_9 : decode b_B_isFull 9 = .ok (.iconst 1, 1) := by decide +kernel
theorem d_B_isFull_10 : decode b_B_isFull 10 = .ok (.goto 4, 3) := by decide +kernel
theorem d_B_isFull_13 : decode b_B_isFull 13 = .ok (.iconst 0, 1) := by decide +kernel
theorem d_B_isFull_14 : decode b_B_isFull 14 = .ok (.ireturn, 1) := by decide +kernel
theorem d_B_hypothesesOf_0 : decode b_B_hypothesesOf 0 = .ok (.aload_n 0, 1) := by decide +kernel
theorem d_B_hypothesesOf_1 : decode b_B_hypothesesOf 1 = .ok (.getfield 9, 3) := by decide +kernel
theorem d_B_hypothesesOf_4 : decode b_B_hypothesesOf 4 = .ok (.iload_n 1, 1) := by decide +kernel
theorem d_B_hypothesesOf_5 : decode b_B_hypothesesOf 5 = .ok (.laload, 1) := by decide +kernel
theorem d_B_hypothesesOf_6 : decode b_B_hypothesesOf 6 = .ok (.lreturn, 1) := by decide +kernel
theorem d_B_conclusionOf_0 : decode b_B_conclusionOf 0 = .ok (.aload_n 0, 1) := by decide +kernel
theorem d_B_conclusionOf_1 : decode b_B_conclusionOf 1 = .ok (.getfield 15, 3) := by decide +kernel
theorem d_B_conclusionOf_4 : decode b_B_conclusionOf 4 = .ok (.iload_n 1, 1) := by decide +kernel
theorem d_B_conclusionOf_5 : decode b_B_conclusionOf 5 = .ok (.iaload, 1) := by decide +kernel
theorem d_B_conclusionOf_6 : decode b_B_conclusionOf 6 = .ok (.ireturn, 1) := by decide +kernel
theorem d_B_axiomsOf_0 : decode b_B_axiomsOf 0 = .ok (.lconst 1, 1) := by decide +kernel
theorem d_B_axiomsOf_1 : decode b_B_axiomsOf 1 = .ok (.iload_n 1, 1) := by decide +kernel
theorem d_B_axiomsOf_2 : decode b_B_axiomsOf 2 = .ok (.lshl, 1) := by decide +kernel
theorem d_B_axiomsOf_3 : decode b_B_axiomsOf 3 = .ok (.lstore_n 2, 1) := by decide +kernel
theorem d_B_axiomsOf_4 : decode b_B_axiomsOf 4 = .ok (.lconst 0, 1) := by decide +kernel
theorem d_B_axiomsOf_5 : decode b_B_axiomsOf 5 = .ok (.lstore 4, 2) := by decide +kernel
theorem d_B_axiomsOf_7 : decode b_B_axiomsOf 7 = .ok (.iload_n 1, 1) := by decide +kernel
theorem d_B_axiomsOf_8 : decode b_B_axiomsOf 8 = .ok (.istore 6, 2) := by decide +kernel
theorem d_B_axiomsOf_10 : decode b_B_axiomsOf 10 = .ok (.iload 6, 2) := by decide +kernel
theorem d_B_axiomsOf_12 : decode b_B_axiomsOf 12 = .ok (.ifCond .lt 59, 3) := by decide +kernel
theorem d_B_axiomsOf_15 : decode b_B_axiomsOf 15 = .ok (.lload_n 2, 1) := by decide +kernel
theorem d_B_axiomsOf_16 : decode b_B_axiomsOf 16 = .ok (.iload 6, 2) := by decide +kernel
theorem d_B_axiomsOf_18 : decode b_B_axiomsOf 18 = .ok (.invokestatic 35, 3) := by decide +kernel
theorem d_B_axiomsOf_21 : decode b_B_axiomsOf 21 = .ok (.ifCond .eq 44, 3) := by decide +kernel
theorem d_B_axiomsOf_24 : decode b_B_axiomsOf 24 = .ok (.lload_n 2, 1) := by decide +kernel
theorem d_B_axiomsOf_25 : decode b_B_axiomsOf 25 = .ok (.aload_n 0, 1) := by decide +kernel
theorem d_B_axiomsOf_26 : decode b_B_axiomsOf 26 = .ok (.iload 6, 2) := by decide +kernel
theorem d_B_axiomsOf_28 : decode b_B_axiomsOf 28 = .ok (.invokevirtual 39, 3) := by decide +kernel
theorem d_B_axiomsOf_31 : decode b_B_axiomsOf 31 = .ok (.invokestatic 43, 3) := by decide +kernel
theorem d_B_axiomsOf_34 : decode b_B_axiomsOf 34 = .ok (.aload_n 0, 1) := by decide +kernel
theorem d_B_axiomsOf_35 : decode b_B_axiomsOf 35 = .ok (.iload 6, 2) := by decide +kernel
theorem d_B_axiomsOf_37 : decode b_B_axiomsOf 37 = .ok (.invokevirtual 47, 3) := by decide +kernel
theorem d_B_axiomsOf_40 : decode b_B_axiomsOf 40 = .ok (.invokestatic 43, 3) := by decide +kernel
theorem d_B_axiomsOf_43 : decode b_B_axiomsOf 43 = .ok (.lor, 1) := by decide +kernel
theorem d_B_axiomsOf_44 : decode b_B_axiomsOf 44 = .ok (.lor, 1) := by decide +kernel
theorem d_B_axiomsOf_45 : decode b_B_axiomsOf 45 = .ok (.lstore_n 2, 1) := by decide +kernel
theorem d_B_axiomsOf_46 : decode b_B_axiomsOf 46 = .ok (.aload_n 0, 1) := by decide +kernel
theorem d_B_axiomsOf_47 : decode b_B_axiomsOf 47 = .ok (.getfield 19, 3) := by decide +kernel
theorem d_B_axiomsOf_50 : decode b_B_axiomsOf 50 = .ok (.iload 6, 2) := by decide +kernel
theorem d_B_axiomsOf_52 : decode b_B_axiomsOf 52 = .ok (.iaload, 1) := by decide +kernel
theorem d_B_axiomsOf_53 : decode b_B_axiomsOf 53 = .ok (.ifCond .ne 12, 3) := by decide +kernel
theorem d_B_axiomsOf_56 : decode b_B_axiomsOf 56 = .ok (.lload 4, 2) := by decide +kernel
theorem d_B_axiomsOf_58 : decode b_B_axiomsOf 58 = .ok (.lconst 1, 1) := by decide +kernel
theorem d_B_axiomsOf_59 : decode b_B_axiomsOf 59 = .ok (.iload 6, 2) := by decide +kernel
theorem d_B_axiomsOf_61 : decode b_B_axiomsOf 61 = .ok (.lshl, 1) := by decide +kernel
theorem d_B_axiomsOf_62 : decode b_B_axiomsOf 62 = .ok (.lor, 1) := by decide +kernel
theorem d_B_axiomsOf_63 : decode b_B_axiomsOf 63 = .ok (.lstore 4, 2) := by decide +kernel
theorem d_B_axiomsOf_65 : decode b_B_axiomsOf 65 = .ok (.iinc 6 (-1), 3) := by decide +kernel
theorem d_B_axiomsOf_68 : decode b_B_axiomsOf 68 = .ok (.goto (-58), 3) := by decide +kernel
theorem d_B_axiomsOf_71 : decode b_B_axiomsOf 71 = .ok (.lload 4, 2) := by decide +kernel
theorem d_B_axiomsOf_73 : decode b_B_axiomsOf 73 = .ok (.lreturn, 1) := by decide +kernel
theorem d_B_stepsOf_0 : decode b_B_stepsOf 0 = .ok (.iconst 0, 1) := by decide +kernel
theorem d_B_stepsOf_1 : decode b_B_stepsOf 1 = .ok (.istore_n 2, 1) := by decide +kernel
theorem d_B_stepsOf_2 : decode b_B_stepsOf 2 = .ok (.iload_n 2, 1) := by decide +kernel
theorem d_B_stepsOf_3 : decode b_B_stepsOf 3 = .ok (.iload_n 1, 1) := by decide +kernel
theorem d_B_stepsOf_4 : decode b_B_stepsOf 4 = .ok (.if_icmp .gt 43, 3) := by decide +kernel
theorem d_B_stepsOf_7 : decode b_B_stepsOf 7 = .ok (.iconst 1, 1) := by decide +kernel
theorem d_B_stepsOf_8 : decode b_B_stepsOf 8 = .ok (.aload_n 0, 1) := by decide +kernel
theorem d_B_stepsOf_9 : decode b_B_stepsOf 9 = .ok (.aload_n 0, 1) := by decide +kernel
theorem d_B_stepsOf_10 : decode b_B_stepsOf 10 = .ok (.iload_n 2, 1) := by decide +kernel
theorem d_B_stepsOf_11 : decode b_B_stepsOf 11 = .ok (.invokevirtual 39, 3) := by decide +kernel
theorem d_B_stepsOf_14 : decode b_B_stepsOf 14 = .ok (.invokevirtual 50, 3) := by decide +kernel
theorem d_B_stepsOf_17 : decode b_B_stepsOf 17 = .ok (.iadd, 1) := by decide +kernel
theorem d_B_stepsOf_18 : decode b_B_stepsOf 18 = .ok (.aload_n 0, 1) := by decide +kernel
theorem d_B_stepsOf_19 : decode b_B_stepsOf 19 = .ok (.aload_n 0, 1) := by decide +kernel
theorem d_B_stepsOf_20 : decode b_B_stepsOf 20 = .ok (.iload_n 2, 1) := by decide +kernel
theorem d_B_stepsOf_21 : decode b_B_stepsOf 21 = .ok (.invokevirtual 47, 3) := by decide +kernel
theorem d_B_stepsOf_24 : decode b_B_stepsOf 24 = .ok (.invokevirtual 50, 3) := by decide +kernel
theorem d_B_stepsOf_27 : decode b_B_stepsOf 27 = .ok (.iadd, 1) := by decide +kernel
theorem d_B_stepsOf_28 : decode b_B_stepsOf 28 = .ok (.istore_n 3, 1) := by decide +kernel
theorem d_B_stepsOf_29 : decode b_B_stepsOf 29 = .ok (.aload_n 0, 1) := by decide +kernel
theorem d_B_stepsOf_30 : decode b_B_stepsOf 30 = .ok (.getfield 28, 3) := by decide +kernel
theorem d_B_stepsOf_33 : decode b_B_stepsOf 33 = .ok (.iload_n 2, 1) := by decide +kernel
theorem d_B_stepsOf_34 : decode b_B_stepsOf 34 = .ok (.iload_n 3, 1) := by decide +kernel
theorem d_B_stepsOf_35 : decode b_B_stepsOf 35 = .ok (.ldc 53, 2) := by decide +kernel
theorem d_B_stepsOf_37 : decode b_B_stepsOf 37 = .ok (.invokestatic 54, 3) := by decide +kernel
theorem d_B_stepsOf_40 : decode b_B_stepsOf 40 = .ok (.iastore, 1) := by decide +kernel
theorem d_B_stepsOf_41 : decode b_B_stepsOf 41 = .ok (.iinc 2 1, 3) := by decide +kernel
theorem d_B_stepsOf_44 : decode b_B_stepsOf 44 = .ok (.goto (-42), 3) := by decide +kernel
theorem d_B_stepsOf_47 : decode b_B_stepsOf 47 = .ok (.aload_n 0, 1) := by decide +kernel
theorem d_B_stepsOf_48 : decode b_B_stepsOf 48 = .ok (.getfield 28, 3) := by decide +kernel
theorem d_B_stepsOf_51 : decode b_B_stepsOf 51 = .ok (.iload_n 1, 1) := by decide +kernel
theorem d_B_stepsOf_52 : decode b_B_stepsOf 52 = .ok (.iaload, 1) := by decide +kernel
theorem d_B_stepsOf_53 : decode b_B_stepsOf 53 = .ok (.ireturn, 1) := by decide +kernel
theorem d_B_add_0 : decode b_B_add 0 = .ok (.aload_n 0, 1) := by decide +kernel
theorem d_B_add_1 : decode b_B_add 1 = .ok (.getfield 9, 3) := by decide +kernel
theorem d_B_add_4 : decode b_B_add 4 = .ok (.aload_n 0, 1) := by decide +kernel
theorem d_B_add_5 : decode b_B_add 5 = .ok (.getfield 31, 3) := by decide +kernel
theorem d_B_add_8 : decode b_B_add 8 = .ok (.lload 4, 2) := by decide +kernel
theorem d_B_add_10 : decode b_B_add 10 = .ok (.lastore, 1) := by decide +kernel
theorem d_B_add_11 : decode b_B_add 11 = .ok (.aload_n 0, 1) := by decide +kernel
theorem d_B_add_12 : decode b_B_add 12 = .ok (.getfield 15, 3) := by decide +kernel
theorem d_B_add_15 : decode b_B_add 15 = .ok (.aload_n 0, 1) := by decide +kernel
theorem d_B_add_16 : decode b_B_add 16 = .ok (.getfield 31, 3) := by decide +kernel
theorem d_B_add_19 : decode b_B_add 19 = .ok (.iload 6, 2) := by decide +kernel
theorem d_B_add_21 : decode b_B_add 21 = .ok (.iastore, 1) := by decide +kernel
theorem d_B_add_22 : decode b_B_add 22 = .ok (.aload_n 0, 1) := by decide +kernel
theorem d_B_add_23 : decode b_B_add 23 = .ok (.getfield 19, 3) := by decide +kernel
theorem d_B_add_26 : decode b_B_add 26 = .ok (.aload_n 0, 1) := by decide +kernel
theorem d_B_add_27 : decode b_B_add 27 = .ok (.getfield 31, 3) := by decide +kernel
theorem d_B_add_30 : decode b_B_add 30 = .ok (.iload_n 1, 1) := by decide +kernel
theorem d_B_add_31 : decode b_B_add 31 = .ok (.iastore, 1) := by decide +kernel
theorem d_B_add_32 : decode b_B_add 32 = .ok (.aload_n 0, 1) := by decide +kernel
theorem d_B_add_33 : decode b_B_add 33 = .ok (.getfield 22, 3) := by decide +kernel
theorem d_B_add_36 : decode b_B_add 36 = .ok (.aload_n 0, 1) := by decide +kernel
theorem d_B_add_37 : decode b_B_add 37 = .ok (.getfield 31, 3) := by decide +kernel
theorem d_B_add_40 : decode b_B_add 40 = .ok (.iload_n 2, 1) := by decide +kernel
theorem d_B_add_41 : decode b_B_add 41 = .ok (.iastore, 1) := by decide +kernel
theorem d_B_add_42 : decode b_B_add 42 = .ok (.aload_n 0, 1) := by decide +kernel
theorem d_B_add_43 : decode b_B_add 43 = .ok (.getfield 25, 3) := by decide +kernel
theorem d_B_add_46 : decode b_B_add 46 = .ok (.aload_n 0, 1) := by decide +kernel
theorem d_B_add_47 : decode b_B_add 47 = .ok (.getfield 31, 3) := by decide +kernel
theorem d_B_add_50 : decode b_B_add 50 = .ok (.iload_n 3, 1) := by decide +kernel
theorem d_B_add_51 : decode b_B_add 51 = .ok (.iastore, 1) := by decide +kernel
theorem d_B_add_52 : decode b_B_add 52 = .ok (.aload_n 0, 1) := by decide +kernel
theorem d_B_add_53 : decode b_B_add 53 = .ok (.dup, 1) := by decide +kernel
theorem d_B_add_54 : decode b_B_add 54 = .ok (.getfield 31, 3) := by decide +kernel
theorem d_B_add_57 : decode b_B_add 57 = .ok (.iconst 1, 1) := by decide +kernel
theorem d_B_add_58 : decode b_B_add 58 = .ok (.iadd, 1) := by decide +kernel
theorem d_B_add_59 : decode b_B_add 59 = .ok (.putfield 31, 3) := by decide +kernel
theorem d_B_add_62 : decode b_B_add 62 = .ok (.aload_n 0, 1) := by decide +kernel
theorem d_B_add_63 : decode b_B_add 63 = .ok (.getfield 31, 3) := by decide +kernel
theorem d_B_add_66 : decode b_B_add 66 = .ok (.iconst 1, 1) := by decide +kernel
theorem d_B_add_67 : decode b_B_add 67 = .ok (.isub, 1) := by decide +kernel
theorem d_B_add_68 : decode b_B_add 68 = .ok (.ireturn, 1) := by decide +kernel
theorem d_B_firstPremise_0 : decode b_B_firstPremise 0 = .ok (.getstatic 60, 3) := by decide +kernel
theorem d_B_firstPremise_3 : decode b_B_firstPremise 3 = .ok (.aload_n 0, 1) := by decide +kernel
theorem d_B_firstPremise_4 : decode b_B_firstPremise 4 = .ok (.getfield 19, 3) := by decide +kernel
theorem d_B_firstPremise_7 : decode b_B_firstPremise 7 = .ok (.iload_n 1, 1) := by decide +kernel
theorem d_B_firstPremise_8 : decode b_B_firstPremise 8 = .ok (.iaload, 1) := by decide +kernel
theorem d_B_firstPremise_9 : decode b_B_firstPremise 9 = .ok (.iaload, 1) := by decide +kernel
theorem d_B_firstPremise_10 : decode b_B_firstPremise 10 = .ok (.iconst 2, 1) := by decide +kernel
theorem d_B_firstPremise_11 : decode b_B_firstPremise 11 = .ok (.if_icmp .ne 12, 3) := by decide +kernel
theorem d_B_firstPremise_14 : decode b_B_firstPremise 14 = .ok (.aload_n 0, 1) := by decide +kernel
theorem d_B_firstPremise_15 : decode b_B_firstPremise 15 = .ok (.getfield 22, 3) := by decide +kernel
theorem d_B_firstPremise_18 : decode b_B_firstPremise 18 = .ok (.iload_n 1, 1) := by decide +kernel
theorem d_B_firstPremise_19 : decode b_B_firstPremise 19 = .ok (.iaload, 1) := by decide +kernel
theorem d_B_firstPremise_20 : decode b_B_firstPremise 20 = .ok (.goto 4, 3) := by decide +kernel
theorem d_B_firstPremise_23 : decode b_B_firstPremise 23 = .ok (.iconst (-1), 1) := by decide +kernel
theorem d_B_firstPremise_24 : decode b_B_firstPremise 24 = .ok (.ireturn, 1) := by decide +kernel
theorem d_B_secondPremise_0 : decode b_B_secondPremise 0 = .ok (.getstatic 63, 3) := by decide +kernel
theorem d_B_secondPremise_3 : decode b_B_secondPremise 3 = .ok (.aload_n 0, 1) := by decide +kernel
theorem d_B_secondPremise_4 : decode b_B_secondPremise 4 = .ok (.getfield 19, 3) := by decide +kernel
theorem d_B_secondPremise_7 : decode b_B_secondPremise 7 = .ok (.iload_n 1, 1) := by decide +kernel
theorem d_B_secondPremise_8 : decode b_B_secondPremise 8 = .ok (.iaload, 1) := by decide +kernel
theorem d_B_secondPremise_9 : decode b_B_secondPremise 9 = .ok (.iaload, 1) := by decide +kernel
theorem d_B_secondPremise_10 : decode b_B_secondPremise 10 = .ok (.iconst 2, 1) := by decide +kernel
theorem d_B_secondPremise_11 : decode b_B_secondPremise 11 = .ok (.if_icmp .ne 12, 3) := by decide +kernel
theorem d_B_secondPremise_14 : decode b_B_secondPremise 14 = .ok (.aload_n 0, 1) := by decide +kernel
theorem d_B_secondPremise_15 : decode b_B_secondPremise 15 = .ok (.getfield 25, 3) := by decide +kernel
theorem d_B_secondPremise_18 : decode b_B_secondPremise 18 = .ok (.iload_n 1, 1) := by decide +kernel
theorem d_B_secondPremise_19 : decode b_B_secondPremise 19 = .ok (.iaload, 1) := by decide +kernel
theorem d_B_secondPremise_20 : decode b_B_secondPremise 20 = .ok (.goto 4, 3) := by decide +kernel
theorem d_B_secondPremise_23 : decode b_B_secondPremise 23 = .ok (.iconst (-1), 1) := by decide +kernel
theorem d_B_secondPremise_24 : decode b_B_secondPremise 24 = .ok (.ireturn, 1) := by decide +kernel
theorem d_B_stepsBefore_0 : decode b_B_stepsBefore 0 = .ok (.iload_n 1, 1) := by decide +kernel
theorem d_B_stepsBefore_1 : decode b_B_stepsBefore 1 = .ok (.iconst (-1), 1) := by decide +kernel
theorem d_B_stepsBefore_2 : decode b_B_stepsBefore 2 = .ok (.if_icmp .ne 7, 3) := by decide +kernel
theorem d_B_stepsBefore_5 : decode b_B_stepsBefore 5 = .ok (.iconst 0, 1) := by decide +kernel
theorem d_B_stepsBefore_6 : decode b_B_stepsBefore 6 = .ok (.goto 9, 3) := by decide +kernel
theorem d_B_stepsBefore_9 : decode b_B_stepsBefore 9 = .ok (.aload_n 0, 1) := by decide +kernel
theorem d_B_stepsBefore_10 : decode b_B_stepsBefore 10 = .ok (.getfield 28, 3) := by decide +kernel
theorem d_B_stepsBefore_13 : decode b_B_stepsBefore 13 = .ok (.iload_n 1, 1) := by decide +kernel
theorem d_B_stepsBefore_14 : decode b_B_stepsBefore 14 = .ok (.iaload, 1) := by decide +kernel
theorem d_B_stepsBefore_15 : decode b_B_stepsBefore 15 = .ok (.ireturn, 1) := by decide +kernel
theorem d_B_setOf_0 : decode b_B_setOf 0 = .ok (.iload_n 0, 1) := by decide +kernel
theorem d_B_setOf_1 : decode b_B_setOf 1 = .ok (.iconst (-1), 1) := by decide +kernel
theorem d_B_setOf_2 : decode b_B_setOf 2 = .ok (.if_icmp .ne 7, 3) := by decide +kernel
theorem d_B_setOf_5 : decode b_B_setOf 5 = .ok (.lconst 0, 1) := by decide +kernel
theorem d_B_setOf_6 : decode b_B_setOf 6 = .ok (.goto 6, 3) := by decide +kernel
theorem d_B_setOf_9 : decode b_B_setOf 9 = .ok (.lconst 1, 1) := by decide +kernel
theorem d_B_setOf_10 : decode b_B_setOf 10 = .ok (.iload_n 0, 1) := by decide +kernel
theorem d_B_setOf_11 : decode b_B_setOf 11 = .ok (.lshl, 1) := by decide +kernel
theorem d_B_setOf_12 : decode b_B_setOf 12 = .ok (.lreturn, 1) := by decide +kernel
theorem d_D_init_0 : decode b_D_init 0 = .ok (.aload_n 0, 1) := by decide +kernel
theorem d_D_init_1 : decode b_D_init 1 = .ok (.invokespecial 3, 3) := by decide +kernel
theorem d_D_init_4 : decode b_D_init 4 = .ok (.aload_n 0, 1) := by decide +kernel
theorem d_D_init_5 : decode b_D_init 5 = .ok (.bipush 30, 2) := by decide +kernel
theorem d_D_init_7 : decode b_D_init 7 = .ok (.newarray .int, 2) := by decide +kernel
theorem d_D_init_9 : decode b_D_init 9 = .ok (.putfield 9, 3) := by decide +kernel
theorem d_D_init_12 : decode b_D_init 12 = .ok (.aload_n 0, 1) := by decide +kernel
theorem d_D_init_13 : decode b_D_init 13 = .ok (.bipush 30, 2) := by decide +kernel
theorem d_D_init_15 : decode b_D_init 15 = .ok (.newarray .int, 2) := by decide +kernel
theorem d_D_init_17 : decode b_D_init 17 = .ok (.putfield 15, 3) := by decide +kernel
theorem d_D_init_20 : decode b_D_init 20 = .ok (.aload_n 0, 1) := by decide +kernel
theorem d_D_init_21 : decode b_D_init 21 = .ok (.aload_n 1, 1) := by decide +kernel
theorem d_D_init_22 : decode b_D_init 22 = .ok (.putfield 18, 3) := by decide +kernel
theorem d_D_init_25 : decode b_D_init 25 = .ok (.return_, 1) := by decide +kernel
theorem d_D_clear_0 : decode b_D_clear 0 = .ok (.aload_n 0, 1) := by decide +kernel
theorem d_D_clear_1 : decode b_D_clear 1 = .ok (.iconst 0, 1) := by decide +kernel
theorem d_D_clear_2 : decode b_D_clear 2 = .ok (.putfield 22, 3) := by decide +kernel
theorem d_D_clear_5 : decode b_D_clear 5 = .ok (.return_, 1) := by decide +kernel
theorem d_D_length_0 : decode b_D_length 0 = .ok (.aload_n 0, 1) := by decide +kernel
theorem d_D_length_1 : decode b_D_length 1 = .ok (.getfield 22, 3) := by decide +kernel
theorem d_D_length_4 : decode b_D_length 4 = .ok (.ireturn, 1) := by decide +kernel
theorem d_D_isTooLarge_0 : decode b_D_isTooLarge 0 = .ok (.aload_n 0, 1) := by decide +kernel
theorem d_D_isTooLarge_1 : decode b_D_isTooLarge 1 = .ok (.getfield 22, 3) := by decide +kernel
theorem d_D_isTooLarge_4 : decode b_D_isTooLarge 4 = .ok (.bipush 30, 2) := by decide +kernel
theorem d_D_isTooLarge_6 : decode b_D_isTooLarge 6 = .ok (.if_icmp .le 7, 3) := by decide +kernel
theorem d_D_isTooLarge_9 : decode b_D_isTooLarge 9 = .ok (.iconst 1, 1) := by decide +kernel
theorem d_D_isTooLarge_10 : decode b_D_isTooLarge 10 = .ok (.goto 4, 3) := by decide +kernel
theorem d_D_isTooLarge_13 : decode b_D_isTooLarge 13 = .ok (.iconst 0, 1) := by decide +kernel
theorem d_D_isTooLarge_14 : decode b_D_isTooLarge 14 = .ok (.ireturn, 1) := by decide +kernel
theorem d_D_spoil_0 : decode b_D_spoil 0 = .ok (.aload_n 0, 1) := by decide +kernel
theorem d_D_spoil_1 : decode b_D_spoil 1 = .ok (.bipush 31, 2) := by decide +kernel
theorem d_D_spoil_3 : decode b_D_spoil 3 = .ok (.putfield 22, 3) := by decide +kernel
theorem d_D_spoil_6 : decode b_D_spoil 6 = .ok (.return_, 1) := by decide +kernel
theorem d_D_add_0 : decode b_D_add 0 = .ok (.aload_n 0, 1) := by decide +kernel
theorem d_D_add_1 : decode b_D_add 1 = .ok (.getfield 22, 3) := by decide +kernel
theorem d_D_add_4 : decode b_D_add 4 = .ok (.bipush 30, 2) := by decide +kernel
theorem d_D_add_6 : decode b_D_add 6 = .ok (.if_icmp .ge 13, 3) := by decide +kernel
theorem d_D_add_9 : decode b_D_add 9 = .ok (.aload_n 0, 1) := by decide +kernel
theorem d_D_add_10 : decode b_D_add 10 = .ok (.getfield 9, 3) := by decide +kernel
theorem d_D_add_13 : decode b_D_add 13 = .ok (.aload_n 0, 1) := by decide +kernel
theorem d_D_add_14 : decode b_D_add 14 = .ok (.getfield 22, 3) := by decide +kernel
theorem d_D_add_17 : decode b_D_add 17 = .ok (.iload_n 1, 1) := by decide +kernel
theorem d_D_add_18 : decode b_D_add 18 = .ok (.iastore, 1) := by decide +kernel
theorem d_D_add_19 : decode b_D_add 19 = .ok (.aload_n 0, 1) := by decide +kernel
theorem d_D_add_20 : decode b_D_add 20 = .ok (.dup, 1) := by decide +kernel
theorem d_D_add_21 : decode b_D_add 21 = .ok (.getfield 22, 3) := by decide +kernel
theorem d_D_add_24 : decode b_D_add 24 = .ok (.iconst 1, 1) := by decide +kernel
theorem d_D_add_25 : decode b_D_add 25 = .ok (.iadd, 1) := by decide +kernel
theorem d_D_add_26 : decode b_D_add 26 = .ok (.putfield 22, 3) := by decide +kernel
theorem d_D_add_29 : decode b_D_add 29 = .ok (.return_, 1) := by decide +kernel
theorem d_D_addPart_0 : decode b_D_addPart 0 = .ok (.aload_n 0, 1) := by decide +kernel
theorem d_D_addPart_1 : decode b_D_addPart 1 = .ok (.getfield 18, 3) := by decide +kernel
theorem d_D_addPart_4 : decode b_D_addPart 4 = .ok (.iload_n 1, 1) := by decide +kernel
theorem d_D_addPart_5 : decode b_D_addPart 5 = .ok (.invokevirtual 26, 3) := by decide +kernel
theorem d_D_addPart_8 : decode b_D_addPart 8 = .ok (.istore_n 2, 1) := by decide +kernel
theorem d_D_addPart_9 : decode b_D_addPart 9 = .ok (.iload_n 1, 1) := by decide +kernel
theorem d_D_addPart_10 : decode b_D_addPart 10 = .ok (.istore_n 3, 1) := by decide +kernel
theorem d_D_addPart_11 : decode b_D_addPart 11 = .ok (.iload_n 3, 1) := by decide +kernel
theorem d_D_addPart_12 : decode b_D_addPart 12 = .ok (.iload_n 2, 1) := by decide +kernel
theorem d_D_addPart_13 : decode b_D_addPart 13 = .ok (.if_icmp .ge 21, 3) := by decide +kernel
theorem d_D_addPart_16 : decode b_D_addPart 16 = .ok (.aload_n 0, 1) := by decide +kernel
theorem d_D_addPart_17 : decode b_D_addPart 17 = .ok (.aload_n 0, 1) := by decide +kernel
theorem d_D_addPart_18 : decode b_D_addPart 18 = .ok (.getfield 18, 3) := by decide +kernel
theorem d_D_addPart_21 : decode b_D_addPart 21 = .ok (.iload_n 3, 1) := by decide +kernel
theorem d_D_addPart_22 : decode b_D_addPart 22 = .ok (.invokevirtual 32, 3) := by decide +kernel
theorem d_D_addPart_25 : decode b_D_addPart 25 = .ok (.invokevirtual 35, 3) := by decide +kernel
theorem d_D_addPart_28 : decode b_D_addPart 28 = .ok (.iinc 3 1, 3) := by decide +kernel
theorem d_D_addPart_31 : decode b_D_addPart 31 = .ok (.goto (-20), 3) := by decide +kernel
theorem d_D_addPart_34 : decode b_D_addPart 34 = .ok (.return_, 1) := by decide +kernel
theorem d_D_addBinder_0 : decode b_D_addBinder 0 = .ok (.aload_n 0, 1) := by decide +kernel
theorem d_D_addBinder_1 : decode b_D_addBinder 1 = .ok (.iload_n 1, 1) := by decide +kernel
theorem d_D_addBinder_2 : decode b_D_addBinder 2 = .ok (.iload_n 3, 1) := by decide +kernel
theorem d_D_addBinder_3 : decode b_D_addBinder 3 = .ok (.invokestatic 39, 3) := by decide +kernel
theorem d_D_addBinder_6 : decode b_D_addBinder 6 = .ok (.iload_n 2, 1) := by decide +kernel
theorem d_D_addBinder_7 : decode b_D_addBinder 7 = .ok (.invokestatic 44, 3) := by decide +kernel
theorem d_D_addBinder_10 : decode b_D_addBinder 10 = .ok (.invokevirtual 35, 3) := by decide +kernel
theorem d_D_addBinder_13 : decode b_D_addBinder 13 = .ok (.aload_n 0, 1) := by decide +kernel
theorem d_D_addBinder_14 : decode b_D_addBinder 14 = .ok (.getfield 18, 3) := by decide +kernel
theorem d_D_addBinder_17 : decode b_D_addBinder 17 = .ok (.iload 4, 2) := by decide +kernel
theorem d_D_addBinder_19 : decode b_D_addBinder 19 = .ok (.invokevirtual 26, 3) := by decide +kernel
theorem d_D_addBinder_22 : decode b_D_addBinder 22 = .ok (.istore 5, 2) := by decide +kernel
theorem d_D_addBinder_24 : decode b_D_addBinder 24 = .ok (.aload_n 0, 1) := by decide +kernel
theorem d_D_addBinder_25 : decode b_D_addBinder 25 = .ok (.invokevirtual 48, 3) := by decide +kernel
theorem d_D_addBinder_28 : decode b_D_addBinder 28 = .ok (.iload 4, 2) := by decide +kernel
theorem d_D_addBinder_30 : decode b_D_addBinder 30 = .ok (.istore 6, 2) := by decide +kernel
theorem d_D_addBinder_32 : decode b_D_addBinder 32 = .ok (.iload 6, 2) := by decide +kernel
theorem d_D_addBinder_34 : decode b_D_addBinder 34 = .ok (.iload 5, 2) := by decide +kernel
theorem d_D_addBinder_36 : decode b_D_addBinder 36 = .ok (.if_icmp .ge 53, 3) := by decide +kernel
theorem d_D_addBinder_39 : decode b_D_addBinder 39 = .ok (.aload_n 0, 1) := by decide +kernel
theorem d_D_addBinder_40 : decode b_D_addBinder 40 = .ok (.getfield 18, 3) := by decide +kernel
theorem d_D_addBinder_43 : decode b_D_addBinder 43 = .ok (.iload 6, 2) := by decide +kernel
theorem d_D_addBinder_45 : decode b_D_addBinder 45 = .ok (.invokevirtual 32, 3) := by decide +kernel
theorem d_D_addBinder_48 : decode b_D_addBinder 48 = .ok (.istore 7, 2) := by decide +kernel
theorem d_D_addBinder_50 : decode b_D_addBinder 50 = .ok (.aload_n 0, 1) := by decide +kernel
theorem d_D_addBinder_51 : decode b_D_addBinder 51 = .ok (.iload 7, 2) := by decide +kernel
theorem d_D_addBinder_53 : decode b_D_addBinder 53 = .ok (.invokevirtual 51, 3) := by decide +kernel
theorem d_D_addBinder_56 : decode b_D_addBinder 56 = .ok (.istore 8, 2) := by decide +kernel
theorem d_D_addBinder_58 : decode b_D_addBinder 58 = .ok (.aload_n 0, 1) := by decide +kernel
theorem d_D_addBinder_59 : decode b_D_addBinder 59 = .ok (.iload 7, 2) := by decide +kernel
theorem d_D_addBinder_61 : decode b_D_addBinder 61 = .ok (.iload_n 3, 1) := by decide +kernel
theorem d_D_addBinder_62 : decode b_D_addBinder 62 = .ok (.if_icmp .ne 16, 3) := by decide +kernel
theorem d_D_addBinder_65 : decode b_D_addBinder 65 = .ok (.iconst 2, 1) := by decide +kernel
theorem d_D_addBinder_66 : decode b_D_addBinder 66 = .ok (.iload 8, 2) := by decide +kernel
theorem d_D_addBinder_68 : decode b_D_addBinder 68 = .ok (.iload_n 3, 1) := by decide +kernel
theorem d_D_addBinder_69 : decode b_D_addBinder 69 = .ok (.invokestatic 39, 3) := by decide +kernel
theorem d_D_addBinder_72 : decode b_D_addBinder 72 = .ok (.invokestatic 44, 3) := by decide +kernel
theorem d_D_addBinder_75 : decode b_D_addBinder 75 = .ok (.goto 5, 3) := by decide +kernel
theorem d_D_addBinder_78 : decode b_D_addBinder 78 = .ok (.iload 7, 2) := by decide +kernel
theorem d_D_addBinder_80 : decode b_D_addBinder 80 = .ok (.invokevirtual 35, 3) := by decide +kernel
theorem d_D_addBinder_83 : decode b_D_addBinder 83 = .ok (.iinc 6 1, 3) := by decide +kernel
theorem d_D_addBinder_86 : decode b_D_addBinder 86 = .ok (.goto (-54), 3) := by decide +kernel
theorem d_D_addBinder_89 : decode b_D_addBinder 89 = .ok (.return_, 1) := by decide +kernel
theorem d_D_addFilling_0 : decode b_D_addFilling 0 = .ok (.aload_n 0, 1) := by decide +kernel
theorem d_D_addFilling_1 : decode b_D_addFilling 1 = .ok (.getfield 18, 3) := by decide +kernel
theorem d_D_addFilling_4 : decode b_D_addFilling 4 = .ok (.iload_n 1, 1) := by decide +kernel
theorem d_D_addFilling_5 : decode b_D_addFilling 5 = .ok (.invokevirtual 26, 3) := by decide +kernel
theorem d_D_addFilling_8 : decode b_D_addFilling 8 = .ok (.istore_n 3, 1) := by decide +kernel
theorem d_D_addFilling_9 : decode b_D_addFilling 9 = .ok (.aload_n 0, 1) := by decide +kernel
theorem d_D_addFilling_10 : decode b_D_addFilling 10 = .ok (.invokevirtual 48, 3) := by decide +kernel
theorem d_D_addFilling_13 : decode b_D_addFilling 13 = .ok (.iload_n 1, 1) := by decide +kernel
theorem d_D_addFilling_14 : decode b_D_addFilling 14 = .ok (.istore 4, 2) := by decide +kernel
theorem d_D_addFilling_16 : decode b_D_addFilling 16 = .ok (.iload 4, 2) := by decide +kernel
theorem d_D_addFilling_18 : decode b_D_addFilling 18 = .ok (.iload_n 3, 1) := by decide +kernel
theorem d_D_addFilling_19 : decode b_D_addFilling 19 = .ok (.if_icmp .ge 61, 3) := by decide +kernel
theorem d_D_addFilling_22 : decode b_D_addFilling 22 = .ok (.aload_n 0, 1) := by decide +kernel
theorem d_D_addFilling_23 : decode b_D_addFilling 23 = .ok (.getfield 18, 3) := by decide +kernel
theorem d_D_addFilling_26 : decode b_D_addFilling 26 = .ok (.iload 4, 2) := by decide +kernel
theorem d_D_addFilling_28 : decode b_D_addFilling 28 = .ok (.invokevirtual 32, 3) := by decide +kernel
theorem d_D_addFilling_31 : decode b_D_addFilling 31 = .ok (.istore 5, 2) := by decide +kernel
theorem d_D_addFilling_33 : decode b_D_addFilling 33 = .ok (.aload_n 0, 1) := by decide +kernel
theorem d_D_addFilling_34 : decode b_D_addFilling 34 = .ok (.iload 5, 2) := by decide +kernel
theorem d_D_addFilling_36 : decode b_D_addFilling 36 = .ok (.invokevirtual 51, 3) := by decide +kernel
theorem d_D_addFilling_39 : decode b_D_addFilling 39 = .ok (.istore 6, 2) := by decide +kernel
theorem d_D_addFilling_41 : decode b_D_addFilling 41 = .ok (.iload 5, 2) := by decide +kernel
theorem d_D_addFilling_43 : decode b_D_addFilling 43 = .ok (.invokestatic 54, 3) := by decide +kernel
theorem d_D_addFilling_46 : decode b_D_addFilling 46 = .ok (.iconst 2, 1) := by decide +kernel
theorem d_D_addFilling_47 : decode b_D_addFilling 47 = .ok (.if_icmp .ne 21, 3) := by decide +kernel
theorem d_D_addFilling_50 : decode b_D_addFilling 50 = .ok (.iload 5, 2) := by decide +kernel
theorem d_D_addFilling_52 : decode b_D_addFilling 52 = .ok (.invokestatic 57, 3) := by decide +kernel
theorem d_D_addFilling_55 : decode b_D_addFilling 55 = .ok (.iload 6, 2) := by decide +kernel
theorem d_D_addFilling_57 : decode b_D_addFilling 57 = .ok (.if_icmp .ne 11, 3) := by decide +kernel
theorem d_D_addFilling_60 : decode b_D_addFilling 60 = .ok (.aload_n 0, 1) := by decide +kernel
theorem d_D_addFilling_61 : decode b_D_addFilling 61 = .ok (.iload_n 2, 1) := by decide +kernel
theorem d_D_addFilling_62 : decode b_D_addFilling 62 = .ok (.invokevirtual 60, 3) := by decide +kernel
theorem d_D_addFilling_65 : decode b_D_addFilling 65 = .ok (.goto 9, 3) := by decide +kernel
theorem d_D_addFilling_68 : decode b_D_addFilling 68 = .ok (.aload_n 0, 1) := by decide +kernel
theorem d_D_addFilling_69 : decode b_D_addFilling 69 = .ok (.iload 5, 2) := by decide +kernel
theorem d_D_addFilling_71 : decode b_D_addFilling 71 = .ok (.invokevirtual 35, 3) := by decide +kernel
theorem d_D_addFilling_74 : decode b_D_addFilling 74 = .ok (.iinc 4 1, 3) := by decide +kernel
theorem d_D_addFilling_77 : decode b_D_addFilling 77 = .ok (.goto (-61), 3) := by decide +kernel
theorem d_D_addFilling_80 : decode b_D_addFilling 80 = .ok (.return_, 1) := by decide +kernel
theorem d_D_addReplacing_0 : decode b_D_addReplacing 0 = .ok (.aload_n 0, 1) := by decide +kernel
theorem d_D_addReplacing_1 : decode b_D_addReplacing 1 = .ok (.getfield 18, 3) := by decide +kernel
theorem d_D_addReplacing_4 : decode b_D_addReplacing 4 = .ok (.iload_n 1, 1) := by decide +kernel
theorem d_D_addReplacing_5 : decode b_D_addReplacing 5 = .ok (.invokevirtual 26, 3) := by decide +kernel
theorem d_D_addReplacing_8 : decode b_D_addReplacing 8 = .ok (.istore 4, 2) := by decide +kernel
theorem d_D_addReplacing_10 : decode b_D_addReplacing 10 = .ok (.iload_n 1, 1) := by decide +kernel
theorem d_D_addReplacing_11 : decode b_D_addReplacing 11 = .ok (.istore 5, 2) := by decide +kernel
theorem d_D_addReplacing_13 : decode b_D_addReplacing 13 = .ok (.iload 5, 2) := by decide +kernel
theorem d_D_addReplacing_15 : decode b_D_addReplacing 15 = .ok (.iload 4, 2) := by decide +kernel
theorem d_D_addReplacing_17 : decode b_D_addReplacing 17 = .ok (.if_icmp .ge 43, 3) := by decide +kernel
theorem d_D_addReplacing_20 : decode b_D_addReplacing 20 = .ok (.aload_n 0, 1) := by decide +kernel
theorem d_D_addReplacing_21 : decode b_D_addReplacing 21 = .ok (.getfield 18, 3) := by decide +kernel
theorem d_D_addReplacing_24 : decode b_D_addReplacing 24 = .ok (.iload 5, 2) := by decide +kernel
theorem d_D_addReplacing_26 : decode b_D_addReplacing 26 = .ok (.invokevirtual 32, 3) := by decide +kernel
theorem d_D_addReplacing_29 : decode b_D_addReplacing 29 = .ok (.iload_n 2, 1) := by decide +kernel
theorem d_D_addReplacing_30 : decode b_D_addReplacing 30 = .ok (.if_icmp .ne 11, 3) := by decide +kernel
theorem d_D_addReplacing_33 : decode b_D_addReplacing 33 = .ok (.aload_n 0, 1) := by decide +kernel
theorem d_D_addReplacing_34 : decode b_D_addReplacing 34 = .ok (.iload_n 3, 1) := by decide +kernel
theorem d_D_addReplacing_35 : decode b_D_addReplacing 35 = .ok (.invokevirtual 60, 3) := by decide +kernel
theorem d_D_addReplacing_38 : decode b_D_addReplacing 38 = .ok (.goto 16, 3) := by decide +kernel
theorem d_D_addReplacing_41 : decode b_D_addReplacing 41 = .ok (.aload_n 0, 1) := by decide +kernel
theorem d_D_addReplacing_42 : decode b_D_addReplacing 42 = .ok (.aload_n 0, 1) := by decide +kernel
theorem d_D_addReplacing_43 : decode b_D_addReplacing 43 = .ok (.getfield 18, 3) := by decide +kernel
theorem d_D_addReplacing_46 : decode b_D_addReplacing 46 = .ok (.iload 5, 2) := by decide +kernel
theorem d_D_addReplacing_48 : decode b_D_addReplacing 48 = .ok (.invokevirtual 32, 3) := by decide +kernel
theorem d_D_addReplacing_51 : decode b_D_addReplacing 51 = .ok (.invokevirtual 35, 3) := by decide +kernel
theorem d_D_addReplacing_54 : decode b_D_addReplacing 54 = .ok (.iinc 5 1, 3) := by decide +kernel
theorem d_D_addReplacing_57 : decode b_D_addReplacing 57 = .ok (.goto (-44), 3) := by decide +kernel
theorem d_D_addReplacing_60 : decode b_D_addReplacing 60 = .ok (.return_, 1) := by decide +kernel
theorem d_D_isAt_0 : decode b_D_isAt 0 = .ok (.iconst 0, 1) := by decide +kernel
theorem d_D_isAt_1 : decode b_D_isAt 1 = .ok (.istore_n 2, 1) := by decide +kernel
theorem d_D_isAt_2 : decode b_D_isAt 2 = .ok (.iload_n 2, 1) := by decide +kernel
theorem d_D_isAt_3 : decode b_D_isAt 3 = .ok (.aload_n 0, 1) := by decide +kernel
theorem d_D_isAt_4 : decode b_D_isAt 4 = .ok (.getfield 22, 3) := by decide +kernel
theorem d_D_isAt_7 : decode b_D_isAt 7 = .ok (.if_icmp .ge 30, 3) := by decide +kernel
theorem d_D_isAt_10 : decode b_D_isAt 10 = .ok (.aload_n 0, 1) := by decide +kernel
theorem d_D_isAt_11 : decode b_D_isAt 11 = .ok (.getfield 9, 3) := by decide +kernel
theorem d_D_isAt_14 : decode b_D_isAt 14 = .ok (.iload_n 2, 1) := by decide +kernel
theorem d_D_isAt_15 : decode b_D_isAt 15 = .ok (.iaload, 1) := by decide +kernel
theorem d_D_isAt_16 : decode b_D_isAt 16 = .ok (.aload_n 0, 1) := by decide +kernel
theorem d_D_isAt_17 : decode b_D_isAt 17 = .ok (.getfield 18, 3) := by decide +kernel
theorem d_D_isAt_20 : decode b_D_isAt 20 = .ok (.iload_n 1, 1) := by decide +kernel
theorem d_D_isAt_21 : decode b_D_isAt 21 = .ok (.iload_n 2, 1) := by decide +kernel
theorem d_D_isAt_22 : decode b_D_isAt 22 = .ok (.iadd, 1) := by decide +kernel
theorem d_D_isAt_23 : decode b_D_isAt 23 = .ok (.invokevirtual 32, 3) := by decide +kernel
theorem d_D_isAt_26 : decode b_D_isAt 26 = .ok (.if_icmp .eq 5, 3) := by decide +kernel
theorem d_D_isAt_29 : decode b_D_isAt 29 = .ok (.iconst 0, 1) := by decide +kernel
theorem d_D_isAt_30 : decode b_D_isAt 30 = .ok (.ireturn, 1) := by decide +kernel
theorem d_D_isAt_31 : decode b_D_isAt 31 = .ok (.iinc 2 1, 3) := by decide +kernel
theorem d_D_isAt_34 : decode b_D_isAt 34 = .ok (.goto (-32), 3) := by decide +kernel
theorem d_D_isAt_37 : decode b_D_isAt 37 = .ok (.iconst 1, 1) := by decide +kernel
theorem d_D_isAt_38 : decode b_D_isAt 38 = .ok (.ireturn, 1) := by decide +kernel
theorem d_D_copyTo_0 : decode b_D_copyTo 0 = .ok (.aload_n 0, 1) := by decide +kernel
theorem d_D_copyTo_1 : decode b_D_copyTo 1 = .ok (.getfield 9, 3) := by decide +kernel
theorem d_D_copyTo_4 : decode b_D_copyTo 4 = .ok (.iconst 0, 1) := by decide +kernel
theorem d_D_copyTo_5 : decode b_D_copyTo 5 = .ok (.aload_n 1, 1) := by decide +kernel
theorem d_D_copyTo_6 : decode b_D_copyTo 6 = .ok (.iload_n 2, 1) := by decide +kernel
theorem d_D_copyTo_7 : decode b_D_copyTo 7 = .ok (.aload_n 0, 1) := by decide +kernel
theorem d_D_copyTo_8 : decode b_D_copyTo 8 = .ok (.getfield 22, 3) := by decide +kernel
theorem d_D_copyTo_11 : decode b_D_copyTo 11 = .ok (.invokestatic 63, 3) := by decide +kernel
theorem d_D_copyTo_14 : decode b_D_copyTo 14 = .ok (.return_, 1) := by decide +kernel
theorem d_D_beginWalk_0 : decode b_D_beginWalk 0 = .ok (.aload_n 0, 1) := by decide +kernel
theorem d_D_beginWalk_1 : decode b_D_beginWalk 1 = .ok (.getfield 15, 3) := by decide +kernel
theorem d_D_beginWalk_4 : decode b_D_beginWalk 4 = .ok (.iconst 0, 1) := by decide +kernel
theorem d_D_beginWalk_5 : decode b_D_beginWalk 5 = .ok (.iconst 0, 1) := by decide +kernel
theorem d_D_beginWalk_6 : decode b_D_beginWalk 6 = .ok (.iastore, 1) := by decide +kernel
theorem d_D_beginWalk_7 : decode b_D_beginWalk 7 = .ok (.aload_n 0, 1) := by decide +kernel
theorem d_D_beginWalk_8 : decode b_D_beginWalk 8 = .ok (.iconst 1, 1) := by decide +kernel
theorem d_D_beginWalk_9 : decode b_D_beginWalk 9 = .ok (.putfield 69, 3) := by decide +kernel
theorem d_D_beginWalk_12 : decode b_D_beginWalk 12 = .ok (.return_, 1) := by decide +kernel
theorem d_D_walkOver_0 : decode b_D_walkOver 0 = .ok (.aload_n 0, 1) := by decide +kernel
theorem d_D_walkOver_1 : decode b_D_walkOver 1 = .ok (.getfield 69, 3) := by decide +kernel
theorem d_D_walkOver_4 : decode b_D_walkOver 4 = .ok (.ifCond .le 13, 3) := by decide +kernel
theorem d_D_walkOver_7 : decode b_D_walkOver 7 = .ok (.aload_n 0, 1) := by decide +kernel
theorem d_D_walkOver_8 : decode b_D_walkOver 8 = .ok (.dup, 1) := by decide +kernel
theorem d_D_walkOver_9 : decode b_D_walkOver 9 = .ok (.getfield 69, 3) := by decide +kernel
theorem d_D_walkOver_12 : decode b_D_walkOver 12 = .ok (.iconst 1, 1) := by decide +kernel
theorem d_D_walkOver_13 : decode b_D_walkOver 13 = .ok (.isub, 1) := by decide +kernel
theorem d_D_walkOver_14 : decode b_D_walkOver 14 = .ok (.putfield 69, 3) := by decide +kernel
theorem d_D_walkOver_17 : decode b_D_walkOver 17 = .ok (.aload_n 0, 1) := by decide +kernel
theorem d_D_walkOver_18 : decode b_D_walkOver 18 = .ok (.getfield 15, 3) := by decide +kernel
theorem d_D_walkOver_21 : decode b_D_walkOver 21 = .ok (.aload_n 0, 1) := by decide +kernel
theorem d_D_walkOver_22 : decode b_D_walkOver 22 = .ok (.getfield 69, 3) := by decide +kernel
theorem d_D_walkOver_25 : decode b_D_walkOver 25 = .ok (.iaload, 1) := by decide +kernel
theorem d_D_walkOver_26 : decode b_D_walkOver 26 = .ok (.istore_n 2, 1) := by decide +kernel
theorem d_D_walkOver_27 : decode b_D_walkOver 27 = .ok (.iload_n 1, 1) := by decide +kernel
theorem d_D_walkOver_28 : decode b_D_walkOver 28 = .ok (.invokestatic 72, 3) := by decide +kernel
theorem d_D_walkOver_31 : decode b_D_walkOver 31 = .ok (.ifCond .eq 9, 3) := by decide +kernel
theorem d_D_walkOver_34 : decode b_D_walkOver 34 = .ok (.iload_n 2, 1) := by decide +kernel
theorem d_D_walkOver_35 : decode b_D_walkOver 35 = .ok (.iconst 1, 1) := by decide +kernel
theorem d_D_walkOver_36 : decode b_D_walkOver 36 = .ok (.iadd, 1) := by decide +kernel
theorem d_D_walkOver_37 : decode b_D_walkOver 37 = .ok (.goto 4, 3) := by decide +kernel
theorem d_D_walkOver_40 : decode b_D_walkOver 40 = .ok (.iload_n 2, 1) := by decide +kernel
theorem d_D_walkOver_41 : decode b_D_walkOver 41 = .ok (.istore_n 3, 1) := by decide +kernel
theorem d_D_walkOver_42 : decode b_D_walkOver 42 = .ok (.iconst 0, 1) := by decide +kernel
theorem d_D_walkOver_43 : decode b_D_walkOver 43 = .ok (.istore 4, 2) := by decide +kernel
theorem d_D_walkOver_45 : decode b_D_walkOver 45 = .ok (.iload 4, 2) := by decide +kernel
theorem d_D_walkOver_47 : decode b_D_walkOver 47 = .ok (.iload_n 1, 1) := by decide +kernel
theorem d_D_walkOver_48 : decode b_D_walkOver 48 = .ok (.invokestatic 76, 3) := by decide +kernel
theorem d_D_walkOver_51 : decode b_D_walkOver 51 = .ok (.if_icmp .ge 38, 3) := by decide +kernel
theorem d_D_walkOver_54 : decode b_D_walkOver 54 = .ok (.aload_n 0, 1) := by decide +kernel
theorem d_D_walkOver_55 : decode b_D_walkOver 55 = .ok (.getfield 69, 3) := by decide +kernel
theorem d_D_walkOver_58 : decode b_D_walkOver 58 = .ok (.bipush 30, 2) := by decide +kernel
theorem d_D_walkOver_60 : decode b_D_walkOver 60 = .ok (.if_icmp .ge 29, 3) := by decide +kernel
theorem d_D_walkOver_63 : decode b_D_walkOver 63 = .ok (.aload_n 0, 1) := by decide +kernel
theorem d_D_walkOver_64 : decode b_D_walkOver 64 = .ok (.getfield 15, 3) := by decide +kernel
theorem d_D_walkOver_67 : decode b_D_walkOver 67 = .ok (.aload_n 0, 1) := by decide +kernel
theorem d_D_walkOver_68 : decode b_D_walkOver 68 = .ok (.getfield 69, 3) := by decide +kernel
theorem d_D_walkOver_71 : decode b_D_walkOver 71 = .ok (.iload_n 3, 1) := by decide +kernel
theorem d_D_walkOver_72 : decode b_D_walkOver 72 = .ok (.iastore, 1) := by decide +kernel
theorem d_D_walkOver_73 : decode b_D_walkOver 73 = .ok (.aload_n 0, 1) := by decide +kernel
theorem d_D_walkOver_74 : decode b_D_walkOver 74 = .ok (.dup, 1) := by decide +kernel
theorem d_D_walkOver_75 : decode b_D_walkOver 75 = .ok (.getfield 69, 3) := by decide +kernel
theorem d_D_walkOver_78 : decode b_D_walkOver 78 = .ok (.iconst 1, 1) := by decide +kernel
theorem d_D_walkOver_79 : decode b_D_walkOver 79 = .ok (.iadd, 1) := by decide +kernel
theorem d_D_walkOver_80 : decode b_D_walkOver 80 = .ok (.putfield 69, 3) := by decide +kernel
theorem d_D_walkOver_83 : decode b_D_walkOver 83 = .ok (.iinc 4 1, 3) := by decide +kernel
theorem d_D_walkOver_86 : decode b_D_walkOver 86 = .ok (.goto (-41), 3) := by decide +kernel
theorem d_D_walkOver_89 : decode b_D_walkOver 89 = .ok (.iload_n 2, 1) := by decide +kernel
theorem d_D_walkOver_90 : decode b_D_walkOver 90 = .ok (.ireturn, 1) := by decide +kernel
theorem d_S_init_0 : decode b_S_init 0 = .ok (.aload_n 0, 1) := by decide +kernel
theorem d_S_init_1 : decode b_S_init 1 = .ok (.invokespecial 3, 3) := by decide +kernel
theorem d_S_init_4 : decode b_S_init 4 = .ok (.aload_n 0, 1) := by decide +kernel
theorem d_S_init_5 : decode b_S_init 5 = .ok (.sipush 1800, 3) := by decide +kernel
theorem d_S_init_8 : decode b_S_init 8 = .ok (.newarray .int, 2) := by decide +kernel
theorem d_S_init_10 : decode b_S_init 10 = .ok (.putfield 9, 3) := by decide +kernel
theorem d_S_init_13 : decode b_S_init 13 = .ok (.aload_n 0, 1) := by decide +kernel
theorem d_S_init_14 : decode b_S_init 14 = .ok (.bipush 60, 2) := by decide +kernel
theorem d_S_init_16 : decode b_S_init 16 = .ok (.newarray .int, 2) := by decide +kernel
theorem d_S_init_18 : decode b_S_init 18 = .ok (.putfield 15, 3) := by decide +kernel
theorem d_S_init_21 : decode b_S_init 21 = .ok (.return_, 1) := by decide +kernel
theorem d_S_count_0 : decode b_S_count 0 = .ok (.aload_n 0, 1) := by decide +kernel
theorem d_S_count_1 : decode b_S_count 1 = .ok (.getfield 18, 3) := by decide +kernel
theorem d_S_count_4 : decode b_S_count 4 = .ok (.ireturn, 1) := by decide +kernel
theorem d_S_has_0 : decode b_S_has 0 = .ok (.iload_n 1, 1) := by decide +kernel
theorem d_S_has_1 : decode b_S_has 1 = .ok (.ifCond .lt 15, 3) := by decide +kernel
theorem d_S_has_4 : decode b_S_has 4 = .ok (.iload_n 1, 1) := by decide +kernel
theorem d_S_has_5 : decode b_S_has 5 = .ok (.aload_n 0, 1) := by decide +kernel
theorem d_S_has_6 : decode b_S_has 6 = .ok (.getfield 18, 3) := by decide +kernel
theorem d_S_has_9 : decode b_S_has 9 = .ok (.if_icmp .ge 7, 3) := by decide +kernel
theorem d_S_has_12 : decode b_S_has 12 = .ok (.iconst 1, 1) := by decide +kernel
theorem d_S_has_13 : decode b_S_has 13 = .ok (.goto 4, 3) := by decide +kernel
theorem d_S_has_16 : decode b_S_has 16 = .ok (.iconst 0, 1) := by decide +kernel
theorem d_S_has_17 : decode b_S_has 17 = .ok (.ireturn, 1) := by decide +kernel
theorem d_S_start_0 : decode b_S_start 0 = .ok (.iload_n 1, 1) := by decide +kernel
theorem d_S_start_1 : decode b_S_start 1 = .ok (.bipush 30, 2) := by decide +kernel
theorem d_S_start_3 : decode b_S_start 3 = .ok (.imul, 1) := by decide +kernel
theorem d_S_start_4 : decode b_S_start 4 = .ok (.ireturn, 1) := by decide +kernel
theorem d_S_length_0 : decode b_S_length 0 = .ok (.aload_n 0, 1) := by decide +kernel
theorem d_S_length_1 : decode b_S_length 1 = .ok (.getfield 15, 3) := by decide +kernel
theorem d_S_length_4 : decode b_S_length 4 = .ok (.iload_n 1, 1) := by decide +kernel
theorem d_S_length_5 : decode b_S_length 5 = .ok (.iaload, 1) := by decide +kernel
theorem d_S_length_6 : decode b_S_length 6 = .ok (.ireturn, 1) := by decide +kernel
theorem d_S_token_0 : decode b_S_token 0 = .ok (.iload_n 1, 1) := by decide +kernel
theorem d_S_token_1 : decode b_S_token 1 = .ok (.aload_n 0, 1) := by decide +kernel
theorem d_S_token_2 : decode b_S_token 2 = .ok (.getfield 9, 3) := by decide +kernel
theorem d_S_token_5 : decode b_S_token 5 = .ok (.arraylength, 1) := by decide +kernel
theorem d_S_token_6 : decode b_S_token 6 = .ok (.if_icmp .ge 12, 3) := by decide +kernel
theorem d_S_token_9 : decode b_S_token 9 = .ok (.aload_n 0, 1) := by decide +kernel
theorem d_S_token_10 : decode b_S_token 10 = .ok (.getfield 9, 3) := by decide +kernel
theorem d_S_token_13 : decode b_S_token 13 = .ok (.iload_n 1, 1) := by decide +kernel
theorem d_S_token_14 : decode b_S_token 14 = .ok (.iaload, 1) := by decide +kernel
theorem d_S_token_15 : decode b_S_token 15 = .ok (.goto 4, 3) := by decide +kernel
theorem d_S_token_18 : decode b_S_token 18 = .ok (.iconst 0, 1) := by decide +kernel
theorem d_S_token_19 : decode b_S_token 19 = .ok (.ireturn, 1) := by decide +kernel
theorem d_S_firstPart_0 : decode b_S_firstPart 0 = .ok (.iload_n 1, 1) := by decide +kernel
theorem d_S_firstPart_1 : decode b_S_firstPart 1 = .ok (.iconst 1, 1) := by decide +kernel
theorem d_S_firstPart_2 : decode b_S_firstPart 2 = .ok (.iadd, 1) := by decide +kernel
theorem d_S_firstPart_3 : decode b_S_firstPart 3 = .ok (.ireturn, 1) := by decide +kernel
theorem d_S_secondPart_0 : decode b_S_secondPart 0 = .ok (.aload_n 0, 1) := by decide +kernel
theorem d_S_secondPart_1 : decode b_S_secondPart 1 = .ok (.iload_n 1, 1) := by decide +kernel
theorem d_S_secondPart_2 : decode b_S_secondPart 2 = .ok (.iconst 1, 1) := by decide +kernel
theorem d_S_secondPart_3 : decode b_S_secondPart 3 = .ok (.iadd, 1) := by decide +kernel
theorem d_S_secondPart_4 : decode b_S_secondPart 4 = .ok (.invokevirtual 22, 3) := by decide +kernel
theorem d_S_secondPart_7 : decode b_S_secondPart 7 = .ok (.ireturn, 1) := by decide +kernel
theorem d_S_behind_0 : decode b_S_behind 0 = .ok (.iload_n 1, 1) := by decide +kernel
theorem d_S_behind_1 : decode b_S_behind 1 = .ok (.istore_n 2, 1) := by decide +kernel
theorem d_S_behind_2 : decode b_S_behind 2 = .ok (.iconst 1, 1) := by decide +kernel
theorem d_S_behind_3 : decode b_S_behind 3 = .ok (.istore_n 3, 1) := by decide +kernel
theorem d_S_behind_4 : decode b_S_behind 4 = .ok (.iload_n 3, 1) := by decide +kernel
theorem d_S_behind_5 : decode b_S_behind 5 = .ok (.ifCond .le 32, 3) := by decide +kernel
theorem d_S_behind_8 : decode b_S_behind 8 = .ok (.iload_n 2, 1) := by decide +kernel
theorem d_S_behind_9 : decode b_S_behind 9 = .ok (.aload_n 0, 1) := by decide +kernel
theorem d_S_behind_10 : decode b_S_behind 10 = .ok (.getfield 9, 3) := by decide +kernel
theorem d_S_behind_13 : decode b_S_behind 13 = .ok (.arraylength, 1) := by decide +kernel
theorem d_S_behind_14 : decode b_S_behind 14 = .ok (.if_icmp .ge 23, 3) := by decide +kernel
theorem d_S_behind_17 : decode b_S_behind 17 = .ok (.iload_n 3, 1) := by decide +kernel
theorem d_S_behind_18 : decode b_S_behind 18 = .ok (.aload_n 0, 1) := by decide +kernel
theorem d_S_behind_19 : decode b_S_behind 19 = .ok (.getfield 9, 3) := by decide +kernel
theorem d_S_behind_22 : decode b_S_behind 22 = .ok (.iload_n 2, 1) := by decide +kernel
theorem d_S_behind_23 : decode b_S_behind 23 = .ok (.iaload, 1) := by decide +kernel
theorem d_S_behind_24 : decode b_S_behind 24 = .ok (.invokestatic 26, 3) := by decide +kernel
theorem d_S_behind_27 : decode b_S_behind 27 = .ok (.iconst 1, 1) := by decide +kernel
theorem d_S_behind_28 : decode b_S_behind 28 = .ok (.isub, 1) := by decide +kernel
theorem d_S_behind_29 : decode b_S_behind 29 = .ok (.iadd, 1) := by decide +kernel
theorem d_S_behind_30 : decode b_S_behind 30 = .ok (.istore_n 3, 1) := by decide +kernel
theorem d_S_behind_31 : decode b_S_behind 31 = .ok (.iinc 2 1, 3) := by decide +kernel
theorem d_S_behind_34 : decode b_S_behind 34 = .ok (.goto (-30), 3) := by decide +kernel
theorem d_S_behind_37 : decode b_S_behind 37 = .ok (.iload_n 2, 1) := by decide +kernel
theorem d_S_behind_38 : decode b_S_behind 38 = .ok (.ireturn, 1) := by decide +kernel
theorem d_S_same_0 : decode b_S_same 0 = .ok (.aload_n 0, 1) := by decide +kernel
theorem d_S_same_1 : decode b_S_same 1 = .ok (.iload_n 1, 1) := by decide +kernel
theorem d_S_same_2 : decode b_S_same 2 = .ok (.invokevirtual 22, 3) := by decide +kernel
theorem d_S_same_5 : decode b_S_same 5 = .ok (.iload_n 1, 1) := by decide +kernel
theorem d_S_same_6 : decode b_S_same 6 = .ok (.isub, 1) := by decide +kernel
theorem d_S_same_7 : decode b_S_same 7 = .ok (.istore_n 3, 1) := by decide +kernel
theorem d_S_same_8 : decode b_S_same 8 = .ok (.iconst 0, 1) := by decide +kernel
theorem d_S_same_9 : decode b_S_same 9 = .ok (.istore 4, 2) := by decide +kernel
theorem d_S_same_11 : decode b_S_same 11 = .ok (.iload 4, 2) := by decide +kernel
theorem d_S_same_13 : decode b_S_same 13 = .ok (.iload_n 3, 1) := by decide +kernel
theorem d_S_same_14 : decode b_S_same 14 = .ok (.if_icmp .ge 30, 3) := by decide +kernel
theorem d_S_same_17 : decode b_S_same 17 = .ok (.aload_n 0, 1) := by decide +kernel
theorem d_S_same_18 : decode b_S_same 18 = .ok (.iload_n 1, 1) := by decide +kernel
theorem d_S_same_19 : decode b_S_same 19 = .ok (.iload 4, 2) := by decide +kernel
theorem d_S_same_21 : decode b_S_same 21 = .ok (.iadd, 1) := by decide +kernel
theorem d_S_same_22 : decode b_S_same 22 = .ok (.invokevirtual 31, 3) := by decide +kernel
theorem d_S_same_25 : decode b_S_same 25 = .ok (.aload_n 0, 1) := by decide +kernel
theorem d_S_same_26 : decode b_S_same 26 = .ok (.iload_n 2, 1) := by decide +kernel
theorem d_S_same_27 : decode b_S_same 27 = .ok (.iload 4, 2) := by decide +kernel
theorem d_S_same_29 : decode b_S_same 29 = .ok (.iadd, 1) := by decide +kernel
theorem d_S_same_30 : decode b_S_same 30 = .ok (.invokevirtual 31, 3) := by decide +kernel
theorem d_S_same_33 : decode b_S_same 33 = .ok (.if_icmp .eq 5, 3) := by decide +kernel
theorem d_S_same_36 : decode b_S_same 36 = .ok (.iconst 0, 1) := by decide +kernel
theorem d_S_same_37 : decode b_S_same 37 = .ok (.ireturn, 1) := by decide +kernel
theorem d_S_same_38 : decode b_S_same 38 = .ok (.iinc 4 1, 3) := by decide +kernel
theorem d_S_same_41 : decode b_S_same 41 = .ok (.goto (-30), 3) := by decide +kernel
theorem d_S_same_44 : decode b_S_same 44 = .ok (.iconst 1, 1) := by decide +kernel
theorem d_S_same_45 : decode b_S_same 45 = .ok (.ireturn, 1) := by decide +kernel
theorem d_S_holds_0 : decode b_S_holds 0 = .ok (.aload_n 0, 1) := by decide +kernel
theorem d_S_holds_1 : decode b_S_holds 1 = .ok (.iload_n 1, 1) := by decide +kernel
theorem d_S_holds_2 : decode b_S_holds 2 = .ok (.invokevirtual 34, 3) := by decide +kernel
theorem d_S_holds_5 : decode b_S_holds 5 = .ok (.aload_n 0, 1) := by decide +kernel
theorem d_S_holds_6 : decode b_S_holds 6 = .ok (.getfield 15, 3) := by decide +kernel
theorem d_S_holds_9 : decode b_S_holds 9 = .ok (.iload_n 1, 1) := by decide +kernel
theorem d_S_holds_10 : decode b_S_holds 10 = .ok (.iaload, 1) := by decide +kernel
theorem d_S_holds_11 : decode b_S_holds 11 = .ok (.iadd, 1) := by decide +kernel
theorem d_S_holds_12 : decode b_S_holds 12 = .ok (.istore_n 3, 1) := by decide +kernel
theorem d_S_holds_13 : decode b_S_holds 13 = .ok (.aload_n 0, 1) := by decide +kernel
theorem d_S_holds_14 : decode b_S_holds 14 = .ok (.iload_n 1, 1) := by decide +kernel
theorem d_S_holds_15 : decode b_S_holds 15 = .ok (.invokevirtual 34, 3) := by decide +kernel
theorem d_S_holds_18 : decode b_S_holds 18 = .ok (.istore 4, 2) := by decide +kernel
theorem d_S_holds_20 : decode b_S_holds 20 = .ok (.iload 4, 2) := by decide +kernel
theorem d_S_holds_22 : decode b_S_holds 22 = .ok (.iload_n 3, 1) := by decide +kernel
theorem d_S_holds_23 : decode b_S_holds 23 = .ok (.if_icmp .ge 22, 3) := by decide +kernel
theorem d_S_holds_26 : decode b_S_holds 26 = .ok (.aload_n 0, 1) := by decide +kernel
theorem d_S_holds_27 : decode b_S_holds 27 = .ok (.getfield 9, 3) := by decide +kernel
theorem d_S_holds_30 : decode b_S_holds 30 = .ok (.iload 4, 2) := by decide +kernel
theorem d_S_holds_32 : decode b_S_holds 32 = .ok (.iaload, 1) := by decide +kernel
theorem d_S_holds_33 : decode b_S_holds 33 = .ok (.iload_n 2, 1) := by decide +kernel
theorem d_S_holds_34 : decode b_S_holds 34 = .ok (.if_icmp .ne 5, 3) := by decide +kernel
theorem d_S_holds_37 : decode b_S_holds 37 = .ok (.iconst 1, 1) := by decide +kernel
theorem d_S_holds_38 : decode b_S_holds 38 = .ok (.ireturn, 1) := by decide +kernel
theorem d_S_holds_39 : decode b_S_holds 39 = .ok (.iinc 4 1, 3) := by decide +kernel
theorem d_S_holds_42 : decode b_S_holds 42 = .ok (.goto (-22), 3) := by decide +kernel
theorem d_S_holds_45 : decode b_S_holds 45 = .ok (.iconst 0, 1) := by decide +kernel
theorem d_S_holds_46 : decode b_S_holds 46 = .ok (.ireturn, 1) := by decide +kernel
theorem d_S_keep_0 : decode b_S_keep 0 = .ok (.aload_n 1, 1) := by decide +kernel
theorem d_S_keep_1 : decode b_S_keep 1 = .ok (.invokevirtual 37, 3) := by decide +kernel
theorem d_S_keep_4 : decode b_S_keep 4 = .ok (.ifCond .eq 6, 3) := by decide +kernel
theorem d_S_keep_7 : decode b_S_keep 7 = .ok (.bipush (-4), 2) := by decide +kernel
theorem d_S_keep_9 : decode b_S_keep 9 = .ok (.ireturn, 1) := by decide +kernel
theorem d_S_keep_10 : decode b_S_keep 10 = .ok (.iconst 0, 1) := by decide +kernel
theorem d_S_keep_11 : decode b_S_keep 11 = .ok (.istore_n 2, 1) := by decide +kernel
theorem d_S_keep_12 : decode b_S_keep 12 = .ok (.iload_n 2, 1) := by decide +kernel
theorem d_S_keep_13 : decode b_S_keep 13 = .ok (.aload_n 0, 1) := by decide +kernel
theorem d_S_keep_14 : decode b_S_keep 14 = .ok (.getfield 18, 3) := by decide +kernel
theorem d_S_keep_17 : decode b_S_keep 17 = .ok (.if_icmp .ge 36, 3) := by decide +kernel
theorem d_S_keep_20 : decode b_S_keep 20 = .ok (.aload_n 0, 1) := by decide +kernel
theorem d_S_keep_21 : decode b_S_keep 21 = .ok (.getfield 15, 3) := by decide +kernel
theorem d_S_keep_24 : decode b_S_keep 24 = .ok (.iload_n 2, 1) := by decide +kernel
theorem d_S_keep_25 : decode b_S_keep 25 = .ok (.iaload, 1) := by decide +kernel
theorem d_S_keep_26 : decode b_S_keep 26 = .ok (.aload_n 1, 1) := by decide +kernel
theorem d_S_keep_27 : decode b_S_keep 27 = .ok (.invokevirtual 43, 3) := by decide +kernel
theorem d_S_keep_30 : decode b_S_keep 30 = .ok (.if_icmp .ne 17, 3) := by decide +kernel
theorem d_S_keep_33 : decode b_S_keep 33 = .ok (.aload_n 1, 1) := by decide +kernel
theorem d_S_keep_34 : decode b_S_keep 34 = .ok (.aload_n 0, 1) := by decide +kernel
theorem d_S_keep_35 : decode b_S_keep 35 = .ok (.iload_n 2, 1) := by decide +kernel
theorem d_S_keep_36 : decode b_S_keep 36 = .ok (.invokevirtual 34, 3) := by decide +kernel
theorem d_S_keep_39 : decode b_S_keep 39 = .ok (.invokevirtual 47, 3) := by decide +kernel
theorem d_S_keep_42 : decode b_S_keep 42 = .ok (.ifCond .eq 5, 3) := by decide +kernel
theorem d_S_keep_45 : decode b_S_keep 45 = .ok (.iload_n 2, 1) := by decide +kernel
theorem d_S_keep_46 : decode b_S_keep 46 = .ok (.ireturn, 1) := by decide +kernel
theorem d_S_keep_47 : decode b_S_keep 47 = .ok (.iinc 2 1, 3) := by decide +kernel
theorem d_S_keep_50 : decode b_S_keep 50 = .ok (.goto (-38), 3) := by decide +kernel
theorem d_S_keep_53 : decode b_S_keep 53 = .ok (.aload_n 0, 1) := by decide +kernel
theorem d_S_keep_54 : decode b_S_keep 54 = .ok (.getfield 18, 3) := by decide +kernel
theorem d_S_keep_57 : decode b_S_keep 57 = .ok (.bipush 60, 2) := by decide +kernel
theorem d_S_keep_59 : decode b_S_keep 59 = .ok (.if_icmp .ne 6, 3) := by decide +kernel
theorem d_S_keep_62 : decode b_S_keep 62 = .ok (.bipush (-4), 2) := by decide +kernel
theorem d_S_keep_64 : decode b_S_keep 64 = .ok (.ireturn, 1) := by decide +kernel
theorem d_S_keep_65 : decode b_S_keep 65 = .ok (.aload_n 1, 1) := by decide +kernel
theorem d_S_keep_66 : decode b_S_keep 66 = .ok (.aload_n 0, 1) := by decide +kernel
theorem d_S_keep_67 : decode b_S_keep 67 = .ok (.getfield 9, 3) := by decide +kernel
theorem d_S_keep_70 : decode b_S_keep 70 = .ok (.aload_n 0, 1) := by decide +kernel
theorem d_S_keep_71 : decode b_S_keep 71 = .ok (.aload_n 0, 1) := by decide +kernel
theorem d_S_keep_72 : decode b_S_keep 72 = .ok (.getfield 18, 3) := by decide +kernel
theorem d_S_keep_75 : decode b_S_keep 75 = .ok (.invokevirtual 34, 3) := by decide +kernel
theorem d_S_keep_78 : decode b_S_keep 78 = .ok (.invokevirtual 51, 3) := by decide +kernel
theorem d_S_keep_81 : decode b_S_keep 81 = .ok (.aload_n 0, 1) := by decide +kernel
theorem d_S_keep_82 : decode b_S_keep 82 = .ok (.getfield 15, 3) := by decide +kernel
theorem d_S_keep_85 : decode b_S_keep 85 = .ok (.aload_n 0, 1) := by decide +kernel
theorem d_S_keep_86 : decode b_S_keep 86 = .ok (.getfield 18, 3) := by decide +kernel
theorem d_S_keep_89 : decode b_S_keep 89 = .ok (.aload_n 1, 1) := by decide +kernel
theorem d_S_keep_90 : decode b_S_keep 90 = .ok (.invokevirtual 43, 3) := by decide +kernel
theorem d_S_keep_93 : decode b_S_keep 93 = .ok (.iastore, 1) := by decide +kernel
theorem d_S_keep_94 : decode b_S_keep 94 = .ok (.aload_n 0, 1) := by decide +kernel
theorem d_S_keep_95 : decode b_S_keep 95 = .ok (.dup, 1) := by decide +kernel
theorem d_S_keep_96 : decode b_S_keep 96 = .ok (.getfield 18, 3) := by decide +kernel
theorem d_S_keep_99 : decode b_S_keep 99 = .ok (.iconst 1, 1) := by decide +kernel
theorem d_S_keep_100 : decode b_S_keep 100 = .ok (.iadd, 1) := by decide +kernel
theorem d_S_keep_101 : decode b_S_keep 101 = .ok (.putfield 18, 3) := by decide +kernel
theorem d_S_keep_104 : decode b_S_keep 104 = .ok (.aload_n 0, 1) := by decide +kernel
theorem d_S_keep_105 : decode b_S_keep 105 = .ok (.getfield 18, 3) := by decide +kernel
theorem d_S_keep_108 : decode b_S_keep 108 = .ok (.iconst 1, 1) := by decide +kernel
theorem d_S_keep_109 : decode b_S_keep 109 = .ok (.isub, 1) := by decide +kernel
theorem d_S_keep_110 : decode b_S_keep 110 = .ok (.ireturn, 1) := by decide +kernel
theorem d_S_cutTo_0 : decode b_S_cutTo 0 = .ok (.aload_n 0, 1) := by decide +kernel
theorem d_S_cutTo_1 : decode b_S_cutTo 1 = .ok (.iload_n 1, 1) := by decide +kernel
theorem d_S_cutTo_2 : decode b_S_cutTo 2 = .ok (.putfield 18, 3) := by decide +kernel
theorem d_S_cutTo_5 : decode b_S_cutTo 5 = .ok (.return_, 1) := by decide +kernel
theorem d_O_of_0 : decode b_O_of 0 = .ok (.iload_n 0, 1) := by decide +kernel
theorem d_O_of_1 : decode b_O_of 1 = .ok (.bipush 9, 2) := by decide +kernel
theorem d_O_of_3 : decode b_O_of 3 = .ok (.ishl, 1) := by decide +kernel
theorem d_O_of_4 : decode b_O_of 4 = .ok (.iload_n 1, 1) := by decide +kernel
theorem d_O_of_5 : decode b_O_of 5 = .ok (.iconst 4, 1) := by decide +kernel
theorem d_O_of_6 : decode b_O_of 6 = .ok (.ishl, 1) := by decide +kernel
theorem d_O_of_7 : decode b_O_of 7 = .ok (.ior, 1) := by decide +kernel
theorem d_O_of_8 : decode b_O_of 8 = .ok (.iload_n 2, 1) := by decide +kernel
theorem d_O_of_9 : decode b_O_of 9 = .ok (.ior, 1) := by decide +kernel
theorem d_O_of_10 : decode b_O_of 10 = .ok (.ireturn, 1) := by decide +kernel
theorem d_O_tag_0 : decode b_O_tag 0 = .ok (.iload_n 0, 1) := by decide +kernel
theorem d_O_tag_1 : decode b_O_tag 1 = .ok (.bipush 9, 2) := by decide +kernel
theorem d_O_tag_3 : decode b_O_tag 3 = .ok (.ishr, 1) := by decide +kernel
theorem d_O_tag_4 : decode b_O_tag 4 = .ok (.ireturn, 1) := by decide +kernel
theorem d_O_info_0 : decode b_O_info 0 = .ok (.iload_n 0, 1) := by decide +kernel
theorem d_O_info_1 : decode b_O_info 1 = .ok (.iconst 4, 1) := by decide +kernel
theorem d_O_info_2 : decode b_O_info 2 = .ok (.ishr, 1) := by decide +kernel
theorem d_O_info_3 : decode b_O_info 3 = .ok (.bipush 31, 2) := by decide +kernel
theorem d_O_info_5 : decode b_O_info 5 = .ok (.iand, 1) := by decide +kernel
theorem d_O_info_6 : decode b_O_info 6 = .ok (.ireturn, 1) := by decide +kernel
theorem d_O_type_0 : decode b_O_type 0 = .ok (.iload_n 0, 1) := by decide +kernel
theorem d_O_type_1 : decode b_O_type 1 = .ok (.bipush 15, 2) := by decide +kernel
theorem d_O_type_3 : decode b_O_type 3 = .ok (.iand, 1) := by decide +kernel
theorem d_O_type_4 : decode b_O_type 4 = .ok (.ireturn, 1) := by decide +kernel
theorem d_O_binds_0 : decode b_O_binds 0 = .ok (.iload_n 0, 1) := by decide +kernel
theorem d_O_binds_1 : decode b_O_binds 1 = .ok (.bipush 9, 2) := by decide +kernel
theorem d_O_binds_3 : decode b_O_binds 3 = .ok (.ishr, 1) := by decide +kernel
theorem d_O_binds_4 : decode b_O_binds 4 = .ok (.istore_n 1, 1) := by decide +kernel
theorem d_O_binds_5 : decode b_O_binds 5 = .ok (.iload_n 1, 1) := by decide +kernel
theorem d_O_binds_6 : decode b_O_binds 6 = .ok (.iconst 3, 1) := by decide +kernel
theorem d_O_binds_7 : decode b_O_binds 7 = .ok (.if_icmp .eq 8, 3) := by decide +kernel
theorem d_O_binds_10 : decode b_O_binds 10 = .ok (.iload_n 1, 1) := by decide +kernel
theorem d_O_binds_11 : decode b_O_binds 11 = .ok (.iconst 4, 1) := by decide +kernel
theorem d_O_binds_12 : decode b_O_binds 12 = .ok (.if_icmp .ne 7, 3) := by decide +kernel
theorem d_O_binds_15 : decode b_O_binds 15 = .ok (.iconst 1, 1) := by decide +kernel
theorem d_O_binds_16 : decode b_O_binds 16 = .ok (.goto 4, 3) := by decide +kernel
theorem d_O_binds_19 : decode b_O_binds 19 = .ok (.iconst 0, 1) := by decide +kernel
theorem d_O_binds_20 : decode b_O_binds 20 = .ok (.ireturn, 1) := by decide +kernel
theorem d_O_parts_0 : decode b_O_parts 0 = .ok (.iload_n 0, 1) := by decide +kernel
theorem d_O_parts_1 : decode b_O_parts 1 = .ok (.bipush 9, 2) := by decide +kernel
theorem d_O_parts_3 : decode b_O_parts 3 = .ok (.ishr, 1) := by decide +kernel
theorem d_O_parts_4 : decode b_O_parts 4 = .ok (.istore_n 1, 1) := by decide +kernel
theorem d_O_parts_5 : decode b_O_parts 5 = .ok (.iload_n 1, 1) := by decide +kernel
theorem d_O_parts_6 : decode b_O_parts 6 = .ok (.iconst 3, 1) := by decide +kernel
theorem d_O_parts_7 : decode b_O_parts 7 = .ok (.if_icmp .ge 5, 3) := by decide +kernel
theorem d_O_parts_10 : decode b_O_parts 10 = .ok (.iconst 0, 1) := by decide +kernel
theorem d_O_parts_11 : decode b_O_parts 11 = .ok (.ireturn, 1) := by decide +kernel
theorem d_O_parts_12 : decode b_O_parts 12 = .ok (.iload_n 1, 1) := by decide +kernel
theorem d_O_parts_13 : decode b_O_parts 13 = .ok (.iconst 5, 1) := by decide +kernel
theorem d_O_parts_14 : decode b_O_parts 14 = .ok (.if_icmp .ge 7, 3) := by decide +kernel
theorem d_O_parts_17 : decode b_O_parts 17 = .ok (.iconst 1, 1) := by decide +kernel
theorem d_O_parts_18 : decode b_O_parts 18 = .ok (.goto 4, 3) := by decide +kernel
theorem d_O_parts_21 : decode b_O_parts 21 = .ok (.iconst 2, 1) := by decide +kernel
theorem d_O_parts_22 : decode b_O_parts 22 = .ok (.ireturn, 1) := by decide +kernel
theorem d_O_letter_0 : decode b_O_letter 0 = .ok (.iload_n 0, 1) := by decide +kernel
theorem d_O_letter_1 : decode b_O_letter 1 = .ok (.invokestatic 11, 3) := by decide +kernel
theorem d_O_letter_4 : decode b_O_letter 4 = .ok (.tableswitch 80 0 6 #[44, 52, 60, 68, 71, 74, 77], 44) := by decide +kernel
theorem d_O_letter_48 : decode b_O_letter 48 = .ok (.bipush 97, 2) := by decide +kernel
theorem d_O_letter_50 : decode b_O_letter 50 = .ok (.iload_n 0, 1) := by decide +kernel
theorem d_O_letter_51 : decode b_O_letter 51 = .ok (.invokestatic 15, 3) := by decide +kernel
theorem d_O_letter_54 : decode b_O_letter 54 = .ok (.iadd, 1) := by decide +kernel
theorem d_O_letter_55 : decode b_O_letter 55 = .ok (.ireturn, 1) := by decide +kernel
theorem d_O_letter_56 : decode b_O_letter 56 = .ok (.bipush 48, 2) := by decide +kernel
theorem d_O_letter_58 : decode b_O_letter 58 = .ok (.iload_n 0, 1) := by decide +kernel
theorem d_O_letter_59 : decode b_O_letter 59 = .ok (.invokestatic 15, 3) := by decide +kernel
theorem d_O_letter_62 : decode b_O_letter 62 = .ok (.iadd, 1) := by decide +kernel
theorem d_O_letter_63 : decode b_O_letter 63 = .ok (.ireturn, 1) := by decide +kernel
theorem d_O_letter_64 : decode b_O_letter 64 = .ok (.bipush 122, 2) := by decide +kernel
theorem d_O_letter_66 : decode b_O_letter 66 = .ok (.iload_n 0, 1) := by decide +kernel
theorem d_O_letter_67 : decode b_O_letter 67 = .ok (.invokestatic 15, 3) := by decide +kernel
theorem d_O_letter_70 : decode b_O_letter 70 = .ok (.isub, 1) := by decide +kernel
theorem d_O_letter_71 : decode b_O_letter 71 = .ok (.ireturn, 1) := by decide +kernel
theorem d_O_letter_72 : decode b_O_letter 72 = .ok (.bipush 47, 2) := by decide +kernel
theorem d_O_letter_74 : decode b_O_letter 74 = .ok (.ireturn, 1) := by decide +kernel
theorem d_O_letter_75 : decode b_O_letter 75 = .ok (.bipush 33, 2) := by decide +kernel
theorem d_O_letter_77 : decode b_O_letter 77 = .ok (.ireturn, 1) := by decide +kernel
theorem d_O_letter_78 : decode b_O_letter 78 = .ok (.bipush 64, 2) := by decide +kernel
theorem d_O_letter_80 : decode b_O_letter 80 = .ok (.ireturn, 1) := by decide +kernel
theorem d_O_letter_81 : decode b_O_letter 81 = .ok (.bipush 62, 2) := by decide +kernel
theorem d_O_letter_83 : decode b_O_letter 83 = .ok (.ireturn, 1) := by decide +kernel
theorem d_O_letter_84 : decode b_O_letter 84 = .ok (.bipush 61, 2) := by decide +kernel
theorem d_O_letter_86 : decode b_O_letter 86 = .ok (.ireturn, 1) := by decide +kernel
theorem d_O_showsType_0 : decode b_O_showsType 0 = .ok (.iload_n 0, 1) := by decide +kernel
theorem d_O_showsType_1 : decode b_O_showsType 1 = .ok (.invokestatic 11, 3) := by decide +kernel
theorem d_O_showsType_4 : decode b_O_showsType 4 = .ok (.ifCond .eq 10, 3) := by decide +kernel
theorem d_O_showsType_7 : decode b_O_showsType 7 = .ok (.iload_n 0, 1) := by decide +kernel
theorem d_O_showsType_8 : decode b_O_showsType 8 = .ok (.invokestatic 18, 3) := by decide +kernel
theorem d_O_showsType_11 : decode b_O_showsType 11 = .ok (.ifCond .eq 7, 3) := by decide +kernel
theorem d_O_showsType_14 : decode b_O_showsType 14 = .ok (.iconst 1, 1) := by decide +kernel
theorem d_O_showsType_15 : decode b_O_showsType 15 = .ok (.goto 4, 3) := by decide +kernel
theorem d_O_showsType_18 : decode b_O_showsType 18 = .ok (.iconst 0, 1) := by decide +kernel
theorem d_O_showsType_19 : decode b_O_showsType 19 = .ok (.ireturn, 1) := by decide +kernel
theorem d_O_typeLetter_0 : decode b_O_typeLetter 0 = .ok (.bipush 65, 2) := by decide +kernel
theorem d_O_typeLetter_2 : decode b_O_typeLetter 2 = .ok (.iload_n 0, 1) := by decide +kernel
theorem d_O_typeLetter_3 : decode b_O_typeLetter 3 = .ok (.invokestatic 18, 3) := by decide +kernel
theorem d_O_typeLetter_6 : decode b_O_typeLetter 6 = .ok (.ifCond .eq 10, 3) := by decide +kernel
theorem d_O_typeLetter_9 : decode b_O_typeLetter 9 = .ok (.iload_n 0, 1) := by decide +kernel
theorem d_O_typeLetter_10 : decode b_O_typeLetter 10 = .ok (.invokestatic 15, 3) := by decide +kernel
theorem d_O_typeLetter_13 : decode b_O_typeLetter 13 = .ok (.goto 7, 3) := by decide +kernel
theorem d_O_typeLetter_16 : decode b_O_typeLetter 16 = .ok (.iload_n 0, 1) := by decide +kernel
theorem d_O_typeLetter_17 : decode b_O_typeLetter 17 = .ok (.invokestatic 22, 3) := by decide +kernel
theorem d_O_typeLetter_20 : decode b_O_typeLetter 20 = .ok (.iadd, 1) := by decide +kernel
theorem d_O_typeLetter_21 : decode b_O_typeLetter 21 = .ok (.ireturn, 1) := by decide +kernel
theorem d_T_init_0 : decode b_T_init 0 = .ok (.aload_n 0, 1) := by decide +kernel
theorem d_T_init_1 : decode b_T_init 1 = .ok (.invokespecial 3, 3) := by decide +kernel
theorem d_T_init_4 : decode b_T_init 4 = .ok (.aload_n 0, 1) := by decide +kernel
theorem d_T_init_5 : decode b_T_init 5 = .ok (.bipush 16, 2) := by decide +kernel
theorem d_T_init_7 : decode b_T_init 7 = .ok (.newarray .int, 2) := by decide +kernel
theorem d_T_init_9 : decode b_T_init 9 = .ok (.putfield 9, 3) := by decide +kernel
theorem d_T_init_12 : decode b_T_init 12 = .ok (.aload_n 0, 1) := by decide +kernel
theorem d_T_init_13 : decode b_T_init 13 = .ok (.bipush 16, 2) := by decide +kernel
theorem d_T_init_15 : decode b_T_init 15 = .ok (.newarray .int, 2) := by decide +kernel
theorem d_T_init_17 : decode b_T_init 17 = .ok (.putfield 15, 3) := by decide +kernel
theorem d_T_init_20 : decode b_T_init 20 = .ok (.aload_n 0, 1) := by decide +kernel
theorem d_T_init_21 : decode b_T_init 21 = .ok (.iconst 3, 1) := by decide +kernel
theorem d_T_init_22 : decode b_T_init 22 = .ok (.putfield 18, 3) := by decide +kernel
theorem d_T_init_25 : decode b_T_init 25 = .ok (.iconst 0, 1) := by decide +kernel
theorem d_T_init_26 : decode b_T_init 26 = .ok (.istore_n 1, 1) := by decide +kernel
theorem d_T_init_27 : decode b_T_init 27 = .ok (.iload_n 1, 1) := by decide +kernel
theorem d_T_init_28 : decode b_T_init 28 = .ok (.iconst 3, 1) := by decide +kernel
theorem d_T_init_29 : decode b_T_init 29 = .ok (.if_icmp .ge 23, 3) := by decide +kernel
theorem d_T_init_32 : decode b_T_init 32 = .ok (.aload_n 0, 1) := by decide +kernel
theorem d_T_init_33 : decode b_T_init 33 = .ok (.getfield 9, 3) := by decide +kernel
theorem d_T_init_36 : decode b_T_init 36 = .ok (.iload_n 1, 1) := by decide +kernel
theorem d_T_init_37 : decode b_T_init 37 = .ok (.iconst (-1), 1) := by decide +kernel
theorem d_T_init_38 : decode b_T_init 38 = .ok (.iastore, 1) := by decide +kernel
theorem d_T_init_39 : decode b_T_init 39 = .ok (.aload_n 0, 1) := by decide +kernel
theorem d_T_init_40 : decode b_T_init 40 = .ok (.getfield 15, 3) := by decide +kernel
theorem d_T_init_43 : decode b_T_init 43 = .ok (.iload_n 1, 1) := by decide +kernel
theorem d_T_init_44 : decode b_T_init 44 = .ok (.iconst (-1), 1) := by decide +kernel
theorem d_T_init_45 : decode b_T_init 45 = .ok (.iastore, 1) := by decide +kernel
theorem d_T_init_46 : decode b_T_init 46 = .ok (.iinc 1 1, 3) := by decide +kernel
theorem d_T_init_49 : decode b_T_init 49 = .ok (.goto (-22), 3) := by decide +kernel
theorem d_T_init_52 : decode b_T_init 52 = .ok (.return_, 1) := by decide +kernel
theorem d_T_count_0 : decode b_T_count 0 = .ok (.aload_n 0, 1) := by decide +kernel
theorem d_T_count_1 : decode b_T_count 1 = .ok (.getfield 18, 3) := by decide +kernel
theorem d_T_count_4 : decode b_T_count 4 = .ok (.ireturn, 1) := by decide +kernel
theorem d_T_has_0 : decode b_T_has 0 = .ok (.iload_n 1, 1) := by decide +kernel
theorem d_T_has_1 : decode b_T_has 1 = .ok (.ifCond .lt 15, 3) := by decide +kernel
theorem d_T_has_4 : decode b_T_has 4 = .ok (.iload_n 1, 1) := by decide +kernel
theorem d_T_has_5 : decode b_T_has 5 = .ok (.aload_n 0, 1) := by decide +kernel
theorem d_T_has_6 : decode b_T_has 6 = .ok (.getfield 18, 3) := by decide +kernel
theorem d_T_has_9 : decode b_T_has 9 = .ok (.if_icmp .ge 7, 3) := by decide +kernel
theorem d_T_has_12 : decode b_T_has 12 = .ok (.iconst 1, 1) := by decide +kernel
theorem d_T_has_13 : decode b_T_has 13 = .ok (.goto 4, 3) := by decide +kernel
theorem d_T_has_16 : decode b_T_has 16 = .ok (.iconst 0, 1) := by decide +kernel
theorem d_T_has_17 : decode b_T_has 17 = .ok (.ireturn, 1) := by decide +kernel
theorem d_T_takes_0 : decode b_T_takes 0 = .ok (.aload_n 0, 1) := by decide +kernel
theorem d_T_takes_1 : decode b_T_takes 1 = .ok (.getfield 9, 3) := by decide +kernel
theorem d_T_takes_4 : decode b_T_takes 4 = .ok (.iload_n 1, 1) := by decide +kernel
theorem d_T_takes_5 : decode b_T_takes 5 = .ok (.iaload, 1) := by decide +kernel
theorem d_T_takes_6 : decode b_T_takes 6 = .ok (.iload_n 2, 1) := by decide +kernel
theorem d_T_takes_7 : decode b_T_takes 7 = .ok (.if_icmp .ne 7, 3) := by decide +kernel
theorem d_T_takes_10 : decode b_T_takes 10 = .ok (.iconst 1, 1) := by decide +kernel
theorem d_T_takes_11 : decode b_T_takes 11 = .ok (.goto 4, 3) := by decide +kernel
theorem d_T_takes_14 : decode b_T_takes 14 = .ok (.iconst 0, 1) := by decide +kernel
theorem d_T_takes_15 : decode b_T_takes 15 = .ok (.ireturn, 1) := by decide +kernel
theorem d_T_result_0 : decode b_T_result 0 = .ok (.aload_n 0, 1) := by decide +kernel
theorem d_T_result_1 : decode b_T_result 1 = .ok (.getfield 15, 3) := by decide +kernel
theorem d_T_result_4 : decode b_T_result 4 = .ok (.iload_n 1, 1) := by decide +kernel
theorem d_T_result_5 : decode b_T_result 5 = .ok (.iaload, 1) := by decide +kernel
theorem d_T_result_6 : decode b_T_result 6 = .ok (.ireturn, 1) := by decide +kernel
theorem d_T_numberOf_0 : decode b_T_numberOf 0 = .ok (.iconst 3, 1) := by decide +kernel
theorem d_T_numberOf_1 : decode b_T_numberOf 1 = .ok (.istore_n 3, 1) := by decide +kernel
theorem d_T_numberOf_2 : decode b_T_numberOf 2 = .ok (.iload_n 3, 1) := by decide +kernel
theorem d_T_numberOf_3 : decode b_T_numberOf 3 = .ok (.aload_n 0, 1) := by decide +kernel
theorem d_T_numberOf_4 : decode b_T_numberOf 4 = .ok (.getfield 18, 3) := by decide +kernel
theorem d_T_numberOf_7 : decode b_T_numberOf 7 = .ok (.if_icmp .ge 31, 3) := by decide +kernel
theorem d_T_numberOf_10 : decode b_T_numberOf 10 = .ok (.aload_n 0, 1) := by decide +kernel
theorem d_T_numberOf_11 : decode b_T_numberOf 11 = .ok (.getfield 9, 3) := by decide +kernel
theorem d_T_numberOf_14 : decode b_T_numberOf 14 = .ok (.iload_n 3, 1) := by decide +kernel
theorem d_T_numberOf_15 : decode b_T_numberOf 15 = .ok (.iaload, 1) := by decide +kernel
theorem d_T_numberOf_16 : decode b_T_numberOf 16 = .ok (.iload_n 1, 1) := by decide +kernel
theorem d_T_numberOf_17 : decode b_T_numberOf 17 = .ok (.if_icmp .ne 15, 3) := by decide +kernel
theorem d_T_numberOf_20 : decode b_T_numberOf 20 = .ok (.aload_n 0, 1) := by decide +kernel
theorem d_T_numberOf_21 : decode b_T_numberOf 21 = .ok (.getfield 15, 3) := by decide +kernel
theorem d_T_numberOf_24 : decode b_T_numberOf 24 = .ok (.iload_n 3, 1) := by decide +kernel
theorem d_T_numberOf_25 : decode b_T_numberOf 25 = .ok (.iaload, 1) := by decide +kernel
theorem d_T_numberOf_26 : decode b_T_numberOf 26 = .ok (.iload_n 2, 1) := by decide +kernel
theorem d_T_numberOf_27 : decode b_T_numberOf 27 = .ok (.if_icmp .ne 5, 3) := by decide +kernel
theorem d_T_numberOf_30 : decode b_T_numberOf 30 = .ok (.iload_n 3, 1) := by decide +kernel
theorem d_T_numberOf_31 : decode b_T_numberOf 31 = .ok (.ireturn, 1) := by decide +kernel
theorem d_T_numberOf_32 : decode b_T_numberOf 32 = .ok (.iinc 3 1, 3) := by decide +kernel
theorem d_T_numberOf_35 : decode b_T_numberOf 35 = .ok (.goto (-33), 3) := by decide +kernel
theorem d_T_numberOf_38 : decode b_T_numberOf 38 = .ok (.aload_n 0, 1) := by decide +kernel
theorem d_T_numberOf_39 : decode b_T_numberOf 39 = .ok (.getfield 18, 3) := by decide +kernel
theorem d_T_numberOf_42 : decode b_T_numberOf 42 = .ok (.bipush 16, 2) := by decide +kernel
theorem d_T_numberOf_44 : decode b_T_numberOf 44 = .ok (.if_icmp .ne 6, 3) := by decide +kernel
theorem d_T_numberOf_47 : decode b_T_numberOf 47 = .ok (.bipush (-4), 2) := by decide +kernel
theorem d_T_numberOf_49 : decode b_T_numberOf 49 = .ok (.ireturn, 1) := by decide +kernel
theorem d_T_numberOf_50 : decode b_T_numberOf 50 = .ok (.aload_n 0, 1) := by decide +kernel
theorem d_T_numberOf_51 : decode b_T_numberOf 51 = .ok (.getfield 9, 3) := by decide +kernel
theorem d_T_numberOf_54 : decode b_T_numberOf 54 = .ok (.aload_n 0, 1) := by decide +kernel
theorem d_T_numberOf_55 : decode b_T_numberOf 55 = .ok (.getfield 18, 3) := by decide +kernel
theorem d_T_numberOf_58 : decode b_T_numberOf 58 = .ok (.iload_n 1, 1) := by decide +kernel
theorem d_T_numberOf_59 : decode b_T_numberOf 59 = .ok (.iastore, 1) := by decide +kernel
theorem d_T_numberOf_60 : decode b_T_numberOf 60 = .ok (.aload_n 0, 1) := by decide +kernel
theorem d_T_numberOf_61 : decode b_T_numberOf 61 = .ok (.getfield 15, 3) := by decide +kernel
theorem d_T_numberOf_64 : decode b_T_numberOf 64 = .ok (.aload_n 0, 1) := by decide +kernel
theorem d_T_numberOf_65 : decode b_T_numberOf 65 = .ok (.getfield 18, 3) := by decide +kernel
theorem d_T_numberOf_68 : decode b_T_numberOf 68 = .ok (.iload_n 2, 1) := by decide +kernel
theorem d_T_numberOf_69 : decode b_T_numberOf 69 = .ok (.iastore, 1) := by decide +kernel
theorem d_T_numberOf_70 : decode b_T_numberOf 70 = .ok (.aload_n 0, 1) := by decide +kernel
theorem d_T_numberOf_71 : decode b_T_numberOf 71 = .ok (.dup, 1) := by decide +kernel
theorem d_T_numberOf_72 : decode b_T_numberOf 72 = .ok (.getfield 18, 3) := by decide +kernel
theorem d_T_numberOf_75 : decode b_T_numberOf 75 = .ok (.iconst 1, 1) := by decide +kernel
theorem d_T_numberOf_76 : decode b_T_numberOf 76 = .ok (.iadd, 1) := by decide +kernel
theorem d_T_numberOf_77 : decode b_T_numberOf 77 = .ok (.putfield 18, 3) := by decide +kernel
theorem d_T_numberOf_80 : decode b_T_numberOf 80 = .ok (.aload_n 0, 1) := by decide +kernel
theorem d_T_numberOf_81 : decode b_T_numberOf 81 = .ok (.getfield 18, 3) := by decide +kernel
theorem d_T_numberOf_84 : decode b_T_numberOf 84 = .ok (.iconst 1, 1) := by decide +kernel
theorem d_T_numberOf_85 : decode b_T_numberOf 85 = .ok (.isub, 1) := by decide +kernel
theorem d_T_numberOf_86 : decode b_T_numberOf 86 = .ok (.ireturn, 1) := by decide +kernel
theorem d_T_cutTo_0 : decode b_T_cutTo 0 = .ok (.aload_n 0, 1) := by decide +kernel
theorem d_T_cutTo_1 : decode b_T_cutTo 1 = .ok (.iload_n 1, 1) := by decide +kernel
theorem d_T_cutTo_2 : decode b_T_cutTo 2 = .ok (.putfield 18, 3) := by decide +kernel
theorem d_T_cutTo_5 : decode b_T_cutTo 5 = .ok (.return_, 1) := by decide +kernel
