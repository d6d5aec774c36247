/-! Decode rows (by program). -/
theorem d_T_init_0 : decode b_T_init 0 = .ok (.aload_n 0, 1) := by decide +kernel
theorem d_T_init_1 : decode b_T_init 1 = .ok (.invokespecial 1, 3) := by decide +kernel
theorem d_T_init_4 : decode b_T_init 4 = .ok (.aload_n 0, 1) := by decide +kernel
theorem d_T_init_5 : decode b_T_init 5 = .ok (.sipush 4000, 3) := by decide +kernel
theorem d_T_init_8 : decode b_T_init 8 = .ok (.newarray .int, 2) := by decide +kernel
theorem d_T_init_10 : decode b_T_init 10 = .ok (.putfield 7, 3) := by decide +kernel
theorem d_T_init_13 : decode b_T_init 13 = .ok (.aload_n 0, 1) := by decide +kernel
theorem d_T_init_14 : decode b_T_init 14 = .ok (.sipush 4000, 3) := by decide +kernel
theorem d_T_init_17 : decode b_T_init 17 = .ok (.newarray .int, 2) := by decide +kernel
theorem d_T_init_19 : decode b_T_init 19 = .ok (.putfield 13, 3) := by decide +kernel
theorem d_T_init_22 : decode b_T_init 22 = .ok (.aload_n 0, 1) := by decide +kernel
theorem d_T_init_23 : decode b_T_init 23 = .ok (.sipush 4000, 3) := by decide +kernel
theorem d_T_init_26 : decode b_T_init 26 = .ok (.newarray .int, 2) := by decide +kernel
theorem d_T_init_28 : decode b_T_init 28 = .ok (.putfield 16, 3) := by decide +kernel
theorem d_T_init_31 : decode b_T_init 31 = .ok (.aload_n 0, 1) := by decide +kernel
theorem d_T_init_32 : decode b_T_init 32 = .ok (.sipush 4000, 3) := by decide +kernel
theorem d_T_init_35 : decode b_T_init 35 = .ok (.newarray .int, 2) := by decide +kernel
theorem d_T_init_37 : decode b_T_init 37 = .ok (.putfield 19, 3) := by decide +kernel
theorem d_T_init_40 : decode b_T_init 40 = .ok (.aload_n 0, 1) := by decide +kernel
theorem d_T_init_41 : decode b_T_init 41 = .ok (.ldc 22, 2) := by decide +kernel
theorem d_T_init_43 : decode b_T_init 43 = .ok (.newarray .short, 2) := by decide +kernel
theorem d_T_init_45 : decode b_T_init 45 = .ok (.putfield 23, 3) := by decide +kernel
theorem d_T_init_48 : decode b_T_init 48 = .ok (.aload_n 0, 1) := by decide +kernel
theorem d_T_init_49 : decode b_T_init 49 = .ok (.sipush 4000, 3) := by decide +kernel
theorem d_T_init_52 : decode b_T_init 52 = .ok (.newarray .int, 2) := by decide +kernel
theorem d_T_init_54 : decode b_T_init 54 = .ok (.putfield 27, 3) := by decide +kernel
theorem d_T_init_57 : decode b_T_init 57 = .ok (.aload_n 0, 1) := by decide +kernel
theorem d_T_init_58 : decode b_T_init 58 = .ok (.sipush 3001, 3) := by decide +kernel
theorem d_T_init_61 : decode b_T_init 61 = .ok (.newarray .int, 2) := by decide +kernel
theorem d_T_init_63 : decode b_T_init 63 = .ok (.putfield 30, 3) := by decide +kernel
theorem d_T_init_66 : decode b_T_init 66 = .ok (.aload_n 0, 1) := by decide +kernel
theorem d_T_init_67 : decode b_T_init 67 = .ok (.ldc 33, 2) := by decide +kernel
theorem d_T_init_69 : decode b_T_init 69 = .ok (.newarray .boolean, 2) := by decide +kernel
theorem d_T_init_71 : decode b_T_init 71 = .ok (.putfield 34, 3) := by decide +kernel
theorem d_T_init_74 : decode b_T_init 74 = .ok (.aload_n 0, 1) := by decide +kernel
theorem d_T_init_75 : decode b_T_init 75 = .ok (.sipush 200, 3) := by decide +kernel
theorem d_T_init_78 : decode b_T_init 78 = .ok (.newarray .int, 2) := by decide +kernel
theorem d_T_init_80 : decode b_T_init 80 = .ok (.putfield 38, 3) := by decide +kernel
theorem d_T_init_83 : decode b_T_init 83 = .ok (.aload_n 0, 1) := by decide +kernel
theorem d_T_init_84 : decode b_T_init 84 = .ok (.sipush 200, 3) := by decide +kernel
theorem d_T_init_87 : decode b_T_init 87 = .ok (.newarray .boolean, 2) := by decide +kernel
theorem d_T_init_89 : decode b_T_init 89 = .ok (.putfield 41, 3) := by decide +kernel
theorem d_T_init_92 : decode b_T_init 92 = .ok (.aload_n 0, 1) := by decide +kernel
theorem d_T_init_93 : decode b_T_init 93 = .ok (.sipush 200, 3) := by decide +kernel
theorem d_T_init_96 : decode b_T_init 96 = .ok (.newarray .int, 2) := by decide +kernel
theorem d_T_init_98 : decode b_T_init 98 = .ok (.putfield 44, 3) := by decide +kernel
theorem d_T_init_101 : decode b_T_init 101 = .ok (.aload_n 0, 1) := by decide +kernel
theorem d_T_init_102 : decode b_T_init 102 = .ok (.sipush 200, 3) := by decide +kernel
theorem d_T_init_105 : decode b_T_init 105 = .ok (.newarray .boolean, 2) := by decide +kernel
theorem d_T_init_107 : decode b_T_init 107 = .ok (.putfield 47, 3) := by decide +kernel
theorem d_T_init_110 : decode b_T_init 110 = .ok (.aload_n 0, 1) := by decide +kernel
theorem d_T_init_111 : decode b_T_init 111 = .ok (.sipush 200, 3) := by decide +kernel
theorem d_T_init_114 : decode b_T_init 114 = .ok (.newarray .int, 2) := by decide +kernel
theorem d_T_init_116 : decode b_T_init 116 = .ok (.putfield 50, 3) := by decide +kernel
theorem d_T_init_119 : decode b_T_init 119 = .ok (.aload_n 0, 1) := by decide +kernel
theorem d_T_init_120 : decode b_T_init 120 = .ok (.sipush 200, 3) := by decide +kernel
theorem d_T_init_123 : decode b_T_init 123 = .ok (.newarray .int, 2) := by decide +kernel
theorem d_T_init_125 : decode b_T_init 125 = .ok (.putfield 53, 3) := by decide +kernel
theorem d_T_init_128 : decode b_T_init 128 = .ok (.aload_n 0, 1) := by decide +kernel
theorem d_T_init_129 : decode b_T_init 129 = .ok (.sipush 200, 3) := by decide +kernel
theorem d_T_init_132 : decode b_T_init 132 = .ok (.newarray .int, 2) := by decide +kernel
theorem d_T_init_134 : decode b_T_init 134 = .ok (.putfield 56, 3) := by decide +kernel
theorem d_T_init_137 : decode b_T_init 137 = .ok (.return_, 1) := by decide +kernel
theorem d_T_thrown_0 : decode b_T_thrown 0 = .ok (.aload_n 0, 1) := by decide +kernel
theorem d_T_thrown_1 : decode b_T_thrown 1 = .ok (.getfield 59, 3) := by decide +kernel
theorem d_T_thrown_4 : decode b_T_thrown 4 = .ok (.ireturn, 1) := by decide +kernel
theorem d_T_issue_0 : decode b_T_issue 0 = .ok (.aload_n 0, 1) := by decide +kernel
theorem d_T_issue_1 : decode b_T_issue 1 = .ok (.aload_n 0, 1) := by decide +kernel
theorem d_T_issue_2 : decode b_T_issue 2 = .ok (.getfield 63, 3) := by decide +kernel
theorem d_T_issue_5 : decode b_T_issue 5 = .ok (.sipush 4000, 3) := by decide +kernel
theorem d_T_issue_8 : decode b_T_issue 8 = .ok (.if_icmp .ne 7, 3) := by decide +kernel
theorem d_T_issue_11 : decode b_T_issue 11 = .ok (.iconst 1, 1) := by decide +kernel
theorem d_T_issue_12 : decode b_T_issue 12 = .ok (.goto 4, 3) := by decide +kernel
theorem d_T_issue_15 : decode b_T_issue 15 = .ok (.iconst 0, 1) := by decide +kernel
theorem d_T_issue_16 : decode b_T_issue 16 = .ok (.putfield 59, 3) := by decide +kernel
theorem d_T_issue_19 : decode b_T_issue 19 = .ok (.aload_n 0, 1) := by decide +kernel
theorem d_T_issue_20 : decode b_T_issue 20 = .ok (.getfield 59, 3) := by decide +kernel
theorem d_T_issue_23 : decode b_T_issue 23 = .ok (.ifCond .le 5, 3) := by decide +kernel
theorem d_T_issue_26 : decode b_T_issue 26 = .ok (.iconst 0, 1) := by decide +kernel
theorem d_T_issue_27 : decode b_T_issue 27 = .ok (.ireturn, 1) := by decide +kernel
theorem d_T_issue_28 : decode b_T_issue 28 = .ok (.aload_n 0, 1) := by decide +kernel
theorem d_T_issue_29 : decode b_T_issue 29 = .ok (.getfield 7, 3) := by decide +kernel
theorem d_T_issue_32 : decode b_T_issue 32 = .ok (.aload_n 0, 1) := by decide +kernel
theorem d_T_issue_33 : decode b_T_issue 33 = .ok (.getfield 63, 3) := by decide +kernel
theorem d_T_issue_36 : decode b_T_issue 36 = .ok (.iload_n 1, 1) := by decide +kernel
theorem d_T_issue_37 : decode b_T_issue 37 = .ok (.iastore, 1) := by decide +kernel
theorem d_T_issue_38 : decode b_T_issue 38 = .ok (.aload_n 0, 1) := by decide +kernel
theorem d_T_issue_39 : decode b_T_issue 39 = .ok (.getfield 13, 3) := by decide +kernel
theorem d_T_issue_42 : decode b_T_issue 42 = .ok (.aload_n 0, 1) := by decide +kernel
theorem d_T_issue_43 : decode b_T_issue 43 = .ok (.getfield 63, 3) := by decide +kernel
theorem d_T_issue_46 : decode b_T_issue 46 = .ok (.iload_n 2, 1) := by decide +kernel
theorem d_T_issue_47 : decode b_T_issue 47 = .ok (.iastore, 1) := by decide +kernel
theorem d_T_issue_48 : decode b_T_issue 48 = .ok (.aload_n 0, 1) := by decide +kernel
theorem d_T_issue_49 : decode b_T_issue 49 = .ok (.getfield 16, 3) := by decide +kernel
theorem d_T_issue_52 : decode b_T_issue 52 = .ok (.aload_n 0, 1) := by decide +kernel
theorem d_T_issue_53 : decode b_T_issue 53 = .ok (.getfield 63, 3) := by decide +kernel
theorem d_T_issue_56 : decode b_T_issue 56 = .ok (.iconst (-1), 1) := by decide +kernel
theorem d_T_issue_57 : decode b_T_issue 57 = .ok (.iastore, 1) := by decide +kernel
theorem d_T_issue_58 : decode b_T_issue 58 = .ok (.aload_n 0, 1) := by decide +kernel
theorem d_T_issue_59 : decode b_T_issue 59 = .ok (.dup, 1) := by decide +kernel
theorem d_T_issue_60 : decode b_T_issue 60 = .ok (.getfield 63, 3) := by decide +kernel
theorem d_T_issue_63 : decode b_T_issue 63 = .ok (.iconst 1, 1) := by decide +kernel
theorem d_T_issue_64 : decode b_T_issue 64 = .ok (.iadd, 1) := by decide +kernel
theorem d_T_issue_65 : decode b_T_issue 65 = .ok (.putfield 63, 3) := by decide +kernel
theorem d_T_issue_68 : decode b_T_issue 68 = .ok (.aload_n 0, 1) := by decide +kernel
theorem d_T_issue_69 : decode b_T_issue 69 = .ok (.getfield 63, 3) := by decide +kernel
theorem d_T_issue_72 : decode b_T_issue 72 = .ok (.iconst 1, 1) := by decide +kernel
theorem d_T_issue_73 : decode b_T_issue 73 = .ok (.isub, 1) := by decide +kernel
theorem d_T_issue_74 : decode b_T_issue 74 = .ok (.ireturn, 1) := by decide +kernel
theorem d_T_cards_0 : decode b_T_cards 0 = .ok (.aload_n 0, 1) := by decide +kernel
theorem d_T_cards_1 : decode b_T_cards 1 = .ok (.iconst 0, 1) := by decide +kernel
theorem d_T_cards_2 : decode b_T_cards 2 = .ok (.putfield 59, 3) := by decide +kernel
theorem d_T_cards_5 : decode b_T_cards 5 = .ok (.aload_n 0, 1) := by decide +kernel
theorem d_T_cards_6 : decode b_T_cards 6 = .ok (.getfield 63, 3) := by decide +kernel
theorem d_T_cards_9 : decode b_T_cards 9 = .ok (.ireturn, 1) := by decide +kernel
theorem d_T_revoke_0 : decode b_T_revoke 0 = .ok (.aload_n 0, 1) := by decide +kernel
theorem d_T_revoke_1 : decode b_T_revoke 1 = .ok (.aload_n 0, 1) := by decide +kernel
theorem d_T_revoke_2 : decode b_T_revoke 2 = .ok (.iload_n 1, 1) := by decide +kernel
theorem d_T_revoke_3 : decode b_T_revoke 3 = .ok (.invokevirtual 66, 3) := by decide +kernel
theorem d_T_revoke_6 : decode b_T_revoke 6 = .ok (.ifCond .eq 7, 3) := by decide +kernel
theorem d_T_revoke_9 : decode b_T_revoke 9 = .ok (.iconst 1, 1) := by decide +kernel
theorem d_T_revoke_10 : decode b_T_revoke 10 = .ok (.goto 27, 3) := by decide +kernel
theorem d_T_revoke_13 : decode b_T_revoke 13 = .ok (.aload_n 0, 1) := by decide +kernel
theorem d_T_revoke_14 : decode b_T_revoke 14 = .ok (.getfield 27, 3) := by decide +kernel
theorem d_T_revoke_17 : decode b_T_revoke 17 = .ok (.iload_n 1, 1) := by decide +kernel
theorem d_T_revoke_18 : decode b_T_revoke 18 = .ok (.iaload, 1) := by decide +kernel
theorem d_T_revoke_19 : decode b_T_revoke 19 = .ok (.ifCond .ne 17, 3) := by decide +kernel
theorem d_T_revoke_22 : decode b_T_revoke 22 = .ok (.aload_n 0, 1) := by decide +kernel
theorem d_T_revoke_23 : decode b_T_revoke 23 = .ok (.getfield 70, 3) := by decide +kernel
theorem d_T_revoke_26 : decode b_T_revoke 26 = .ok (.sipush 3000, 3) := by decide +kernel
theorem d_T_revoke_29 : decode b_T_revoke 29 = .ok (.if_icmp .ne 7, 3) := by decide +kernel
theorem d_T_revoke_32 : decode b_T_revoke 32 = .ok (.iconst 2, 1) := by decide +kernel
theorem d_T_revoke_33 : decode b_T_revoke 33 = .ok (.goto 4, 3) := by decide +kernel
theorem d_T_revoke_36 : decode b_T_revoke 36 = .ok (.iconst 0, 1) := by decide +kernel
theorem d_T_revoke_37 : decode b_T_revoke 37 = .ok (.putfield 59, 3) := by decide +kernel
theorem d_T_revoke_40 : decode b_T_revoke 40 = .ok (.aload_n 0, 1) := by decide +kernel
theorem d_T_revoke_41 : decode b_T_revoke 41 = .ok (.getfield 59, 3) := by decide +kernel
theorem d_T_revoke_44 : decode b_T_revoke 44 = .ok (.ifCond .le 5, 3) := by decide +kernel
theorem d_T_revoke_47 : decode b_T_revoke 47 = .ok (.iconst 0, 1) := by decide +kernel
theorem d_T_revoke_48 : decode b_T_revoke 48 = .ok (.ireturn, 1) := by decide +kernel
theorem d_T_revoke_49 : decode b_T_revoke 49 = .ok (.aload_n 0, 1) := by decide +kernel
theorem d_T_revoke_50 : decode b_T_revoke 50 = .ok (.getfield 27, 3) := by decide +kernel
theorem d_T_revoke_53 : decode b_T_revoke 53 = .ok (.iload_n 1, 1) := by decide +kernel
theorem d_T_revoke_54 : decode b_T_revoke 54 = .ok (.iaload, 1) := by decide +kernel
theorem d_T_revoke_55 : decode b_T_revoke 55 = .ok (.ifCond .le 5, 3) := by decide +kernel
theorem d_T_revoke_58 : decode b_T_revoke 58 = .ok (.iconst (-1), 1) := by decide +kernel
theorem d_T_revoke_59 : decode b_T_revoke 59 = .ok (.ireturn, 1) := by decide +kernel
theorem d_T_revoke_60 : decode b_T_revoke 60 = .ok (.aload_n 0, 1) := by decide +kernel
theorem d_T_revoke_61 : decode b_T_revoke 61 = .ok (.dup, 1) := by decide +kernel
theorem d_T_revoke_62 : decode b_T_revoke 62 = .ok (.getfield 70, 3) := by decide +kernel
theorem d_T_revoke_65 : decode b_T_revoke 65 = .ok (.iconst 1, 1) := by decide +kernel
theorem d_T_revoke_66 : decode b_T_revoke 66 = .ok (.iadd, 1) := by decide +kernel
theorem d_T_revoke_67 : decode b_T_revoke 67 = .ok (.putfield 70, 3) := by decide +kernel
theorem d_T_revoke_70 : decode b_T_revoke 70 = .ok (.aload_n 0, 1) := by decide +kernel
theorem d_T_revoke_71 : decode b_T_revoke 71 = .ok (.getfield 27, 3) := by decide +kernel
theorem d_T_revoke_74 : decode b_T_revoke 74 = .ok (.iload_n 1, 1) := by decide +kernel
theorem d_T_revoke_75 : decode b_T_revoke 75 = .ok (.aload_n 0, 1) := by decide +kernel
theorem d_T_revoke_76 : decode b_T_revoke 76 = .ok (.getfield 70, 3) := by decide +kernel
theorem d_T_revoke_79 : decode b_T_revoke 79 = .ok (.iastore, 1) := by decide +kernel
theorem d_T_revoke_80 : decode b_T_revoke 80 = .ok (.aload_n 0, 1) := by decide +kernel
theorem d_T_revoke_81 : decode b_T_revoke 81 = .ok (.getfield 30, 3) := by decide +kernel
theorem d_T_revoke_84 : decode b_T_revoke 84 = .ok (.aload_n 0, 1) := by decide +kernel
theorem d_T_revoke_85 : decode b_T_revoke 85 = .ok (.getfield 70, 3) := by decide +kernel
theorem d_T_revoke_88 : decode b_T_revoke 88 = .ok (.iload_n 1, 1) := by decide +kernel
theorem d_T_revoke_89 : decode b_T_revoke 89 = .ok (.iastore, 1) := by decide +kernel
theorem d_T_revoke_90 : decode b_T_revoke 90 = .ok (.aload_n 0, 1) := by decide +kernel
theorem d_T_revoke_91 : decode b_T_revoke 91 = .ok (.getfield 70, 3) := by decide +kernel
theorem d_T_revoke_94 : decode b_T_revoke 94 = .ok (.ireturn, 1) := by decide +kernel
theorem d_T_noCard_0 : decode b_T_noCard 0 = .ok (.iload_n 1, 1) := by decide +kernel
theorem d_T_noCard_1 : decode b_T_noCard 1 = .ok (.ifCond .lt 11, 3) := by decide +kernel
theorem d_T_noCard_4 : decode b_T_noCard 4 = .ok (.iload_n 1, 1) := by decide +kernel
theorem d_T_noCard_5 : decode b_T_noCard 5 = .ok (.aload_n 0, 1) := by decide +kernel
theorem d_T_noCard_6 : decode b_T_noCard 6 = .ok (.getfield 63, 3) := by decide +kernel
theorem d_T_noCard_9 : decode b_T_noCard 9 = .ok (.if_icmp .lt 7, 3) := by decide +kernel
theorem d_T_noCard_12 : decode b_T_noCard 12 = .ok (.iconst 1, 1) := by decide +kernel
theorem d_T_noCard_13 : decode b_T_noCard 13 = .ok (.goto 4, 3) := by decide +kernel
theorem d_T_noCard_16 : decode b_T_noCard 16 = .ok (.iconst 0, 1) := by decide +kernel
theorem d_T_noCard_17 : decode b_T_noCard 17 = .ok (.ireturn, 1) := by decide +kernel
theorem d_T_entries_0 : decode b_T_entries 0 = .ok (.aload_n 0, 1) := by decide +kernel
theorem d_T_entries_1 : decode b_T_entries 1 = .ok (.iconst 0, 1) := by decide +kernel
theorem d_T_entries_2 : decode b_T_entries 2 = .ok (.putfield 59, 3) := by decide +kernel
theorem d_T_entries_5 : decode b_T_entries 5 = .ok (.aload_n 0, 1) := by decide +kernel
theorem d_T_entries_6 : decode b_T_entries 6 = .ok (.getfield 70, 3) := by decide +kernel
theorem d_T_entries_9 : decode b_T_entries 9 = .ok (.ireturn, 1) := by decide +kernel
theorem d_T_gate_0 : decode b_T_gate 0 = .ok (.aload_n 0, 1) := by decide +kernel
theorem d_T_gate_1 : decode b_T_gate 1 = .ok (.aload_n 0, 1) := by decide +kernel
theorem d_T_gate_2 : decode b_T_gate 2 = .ok (.iload_n 1, 1) := by decide +kernel
theorem d_T_gate_3 : decode b_T_gate 3 = .ok (.invokevirtual 66, 3) := by decide +kernel
theorem d_T_gate_6 : decode b_T_gate 6 = .ok (.ifCond .eq 7, 3) := by decide +kernel
theorem d_T_gate_9 : decode b_T_gate 9 = .ok (.iconst 1, 1) := by decide +kernel
theorem d_T_gate_10 : decode b_T_gate 10 = .ok (.goto 4, 3) := by decide +kernel
theorem d_T_gate_13 : decode b_T_gate 13 = .ok (.iconst 0, 1) := by decide +kernel
theorem d_T_gate_14 : decode b_T_gate 14 = .ok (.putfield 59, 3) := by decide +kernel
theorem d_T_gate_17 : decode b_T_gate 17 = .ok (.aload_n 0, 1) := by decide +kernel
theorem d_T_gate_18 : decode b_T_gate 18 = .ok (.getfield 59, 3) := by decide +kernel
theorem d_T_gate_21 : decode b_T_gate 21 = .ok (.ifCond .le 4, 3) := by decide +kernel
theorem d_T_gate_24 : decode b_T_gate 24 = .ok (.return_, 1) := by decide +kernel
theorem d_T_gate_25 : decode b_T_gate 25 = .ok (.aload_n 0, 1) := by decide +kernel
theorem d_T_gate_26 : decode b_T_gate 26 = .ok (.getfield 70, 3) := by decide +kernel
theorem d_T_gate_29 : decode b_T_gate 29 = .ok (.ifCond .ne 14, 3) := by decide +kernel
theorem d_T_gate_32 : decode b_T_gate 32 = .ok (.aload_n 0, 1) := by decide +kernel
theorem d_T_gate_33 : decode b_T_gate 33 = .ok (.iload_n 1, 1) := by decide +kernel
theorem d_T_gate_34 : decode b_T_gate 34 = .ok (.iconst 0, 1) := by decide +kernel
theorem d_T_gate_35 : decode b_T_gate 35 = .ok (.iconst 0, 1) := by decide +kernel
theorem d_T_gate_36 : decode b_T_gate 36 = .ok (.iconst 0, 1) := by decide +kernel
theorem d_T_gate_37 : decode b_T_gate 37 = .ok (.invokevirtual 102, 3) := by decide +kernel
theorem d_T_gate_40 : decode b_T_gate 40 = .ok (.goto 17, 3) := by decide +kernel
theorem d_T_gate_43 : decode b_T_gate 43 = .ok (.aload_n 0, 1) := by decide +kernel
theorem d_T_gate_44 : decode b_T_gate 44 = .ok (.iload_n 1, 1) := by decide +kernel
theorem d_T_gate_45 : decode b_T_gate 45 = .ok (.iconst 1, 1) := by decide +kernel
theorem d_T_gate_46 : decode b_T_gate 46 = .ok (.aload_n 0, 1) := by decide +kernel
theorem d_T_gate_47 : decode b_T_gate 47 = .ok (.getfield 70, 3) := by decide +kernel
theorem d_T_gate_50 : decode b_T_gate 50 = .ok (.aload_n 0, 1) := by decide +kernel
theorem d_T_gate_51 : decode b_T_gate 51 = .ok (.getfield 70, 3) := by decide +kernel
theorem d_T_gate_54 : decode b_T_gate 54 = .ok (.invokevirtual 106, 3) := by decide +kernel
theorem d_T_gate_57 : decode b_T_gate 57 = .ok (.return_, 1) := by decide +kernel
theorem d_T_write_0 : decode b_T_write 0 = .ok (.aload_n 0, 1) := by decide +kernel
theorem d_T_write_1 : decode b_T_write 1 = .ok (.iload_n 1, 1) := by decide +kernel
theorem d_T_write_2 : decode b_T_write 2 = .ok (.iload_n 2, 1) := by decide +kernel
theorem d_T_write_3 : decode b_T_write 3 = .ok (.iload_n 3, 1) := by decide +kernel
theorem d_T_write_4 : decode b_T_write 4 = .ok (.iload 4, 2) := by decide +kernel
theorem d_T_write_6 : decode b_T_write 6 = .ok (.invokevirtual 98, 3) := by decide +kernel
theorem d_T_write_9 : decode b_T_write 9 = .ok (.ifCond .eq 4, 3) := by decide +kernel
theorem d_T_write_12 : decode b_T_write 12 = .ok (.return_, 1) := by decide +kernel
theorem d_T_write_13 : decode b_T_write 13 = .ok (.iconst 1, 1) := by decide +kernel
theorem d_T_write_14 : decode b_T_write 14 = .ok (.aload_n 0, 1) := by decide +kernel
theorem d_T_write_15 : decode b_T_write 15 = .ok (.iload_n 1, 1) := by decide +kernel
theorem d_T_write_16 : decode b_T_write 16 = .ok (.invokevirtual 85, 3) := by decide +kernel
theorem d_T_write_19 : decode b_T_write 19 = .ok (.isub, 1) := by decide +kernel
theorem d_T_write_20 : decode b_T_write 20 = .ok (.istore 5, 2) := by decide +kernel
theorem d_T_write_22 : decode b_T_write 22 = .ok (.sipush 256, 3) := by decide +kernel
theorem d_T_write_25 : decode b_T_write 25 = .ok (.aload_n 0, 1) := by decide +kernel
theorem d_T_write_26 : decode b_T_write 26 = .ok (.iload_n 1, 1) := by decide +kernel
theorem d_T_write_27 : decode b_T_write 27 = .ok (.iconst 1, 1) := by decide +kernel
theorem d_T_write_28 : decode b_T_write 28 = .ok (.iload 5, 2) := by decide +kernel
theorem d_T_write_30 : decode b_T_write 30 = .ok (.isub, 1) := by decide +kernel
theorem d_T_write_31 : decode b_T_write 31 = .ok (.invokevirtual 81, 3) := by decide +kernel
theorem d_T_write_34 : decode b_T_write 34 = .ok (.iconst 1, 1) := by decide +kernel
theorem d_T_write_35 : decode b_T_write 35 = .ok (.iadd, 1) := by decide +kernel
theorem d_T_write_36 : decode b_T_write 36 = .ok (.sipush 255, 3) := by decide +kernel
theorem d_T_write_39 : decode b_T_write 39 = .ok (.iand, 1) := by decide +kernel
theorem d_T_write_40 : decode b_T_write 40 = .ok (.imul, 1) := by decide +kernel
theorem d_T_write_41 : decode b_T_write 41 = .ok (.iload_n 3, 1) := by decide +kernel
theorem d_T_write_42 : decode b_T_write 42 = .ok (.iadd, 1) := by decide +kernel
theorem d_T_write_43 : decode b_T_write 43 = .ok (.istore 6, 2) := by decide +kernel
theorem d_T_write_45 : decode b_T_write 45 = .ok (.aload_n 0, 1) := by decide +kernel
theorem d_T_write_46 : decode b_T_write 46 = .ok (.getfield 16, 3) := by decide +kernel
theorem d_T_write_49 : decode b_T_write 49 = .ok (.iload_n 1, 1) := by decide +kernel
theorem d_T_write_50 : decode b_T_write 50 = .ok (.iaload, 1) := by decide +kernel
theorem d_T_write_51 : decode b_T_write 51 = .ok (.iconst (-1), 1) := by decide +kernel
theorem d_T_write_52 : decode b_T_write 52 = .ok (.if_icmp .ne 8, 3) := by decide +kernel
theorem d_T_write_55 : decode b_T_write 55 = .ok (.bipush 50, 2) := by decide +kernel
theorem d_T_write_57 : decode b_T_write 57 = .ok (.goto 9, 3) := by decide +kernel
theorem d_T_write_60 : decode b_T_write 60 = .ok (.aload_n 0, 1) := by decide +kernel
theorem d_T_write_61 : decode b_T_write 61 = .ok (.getfield 16, 3) := by decide +kernel
theorem d_T_write_64 : decode b_T_write 64 = .ok (.iload_n 1, 1) := by decide +kernel
theorem d_T_write_65 : decode b_T_write 65 = .ok (.iaload, 1) := by decide +kernel
theorem d_T_write_66 : decode b_T_write 66 = .ok (.istore 7, 2) := by decide +kernel
theorem d_T_write_68 : decode b_T_write 68 = .ok (.iconst 0, 1) := by decide +kernel
theorem d_T_write_69 : decode b_T_write 69 = .ok (.istore 8, 2) := by decide +kernel
theorem d_T_write_71 : decode b_T_write 71 = .ok (.iload 8, 2) := by decide +kernel
theorem d_T_write_73 : decode b_T_write 73 = .ok (.iload_n 3, 1) := by decide +kernel
theorem d_T_write_74 : decode b_T_write 74 = .ok (.iconst 4, 1) := by decide +kernel
theorem d_T_write_75 : decode b_T_write 75 = .ok (.iadd, 1) := by decide +kernel
theorem d_T_write_76 : decode b_T_write 76 = .ok (.if_icmp .ge 116, 3) := by decide +kernel
theorem d_T_write_79 : decode b_T_write 79 = .ok (.iload 8, 2) := by decide +kernel
theorem d_T_write_81 : decode b_T_write 81 = .ok (.iload 7, 2) := by decide +kernel
theorem d_T_write_83 : decode b_T_write 83 = .ok (.if_icmp .ge 109, 3) := by decide +kernel
theorem d_T_write_86 : decode b_T_write 86 = .ok (.iload 8, 2) := by decide +kernel
theorem d_T_write_88 : decode b_T_write 88 = .ok (.iload_n 3, 1) := by decide +kernel
theorem d_T_write_89 : decode b_T_write 89 = .ok (.iconst 3, 1) := by decide +kernel
theorem d_T_write_90 : decode b_T_write 90 = .ok (.iadd, 1) := by decide +kernel
theorem d_T_write_91 : decode b_T_write 91 = .ok (.if_icmp .ne 8, 3) := by decide +kernel
theorem d_T_write_94 : decode b_T_write 94 = .ok (.bipush 43, 2) := by decide +kernel
theorem d_T_write_96 : decode b_T_write 96 = .ok (.goto 5, 3) := by decide +kernel
theorem d_T_write_99 : decode b_T_write 99 = .ok (.iload 8, 2) := by decide +kernel
theorem d_T_write_101 : decode b_T_write 101 = .ok (.istore 9, 2) := by decide +kernel
theorem d_T_write_103 : decode b_T_write 103 = .ok (.iload 8, 2) := by decide +kernel
theorem d_T_write_105 : decode b_T_write 105 = .ok (.ifCond .eq 11, 3) := by decide +kernel
theorem d_T_write_108 : decode b_T_write 108 = .ok (.iload 8, 2) := by decide +kernel
theorem d_T_write_110 : decode b_T_write 110 = .ok (.iload_n 3, 1) := by decide +kernel
theorem d_T_write_111 : decode b_T_write 111 = .ok (.iconst 3, 1) := by decide +kernel
theorem d_T_write_112 : decode b_T_write 112 = .ok (.iadd, 1) := by decide +kernel
theorem d_T_write_113 : decode b_T_write 113 = .ok (.if_icmp .ne 8, 3) := by decide +kernel
theorem d_T_write_116 : decode b_T_write 116 = .ok (.iload 6, 2) := by decide +kernel
theorem d_T_write_118 : decode b_T_write 118 = .ok (.goto 35, 3) := by decide +kernel
theorem d_T_write_121 : decode b_T_write 121 = .ok (.iload 8, 2) := by decide +kernel
theorem d_T_write_123 : decode b_T_write 123 = .ok (.iconst 1, 1) := by decide +kernel
theorem d_T_write_124 : decode b_T_write 124 = .ok (.if_icmp .ne 7, 3) := by decide +kernel
theorem d_T_write_127 : decode b_T_write 127 = .ok (.iload_n 2, 1) := by decide +kernel
theorem d_T_write_128 : decode b_T_write 128 = .ok (.goto 25, 3) := by decide +kernel
theorem d_T_write_131 : decode b_T_write 131 = .ok (.iload 8, 2) := by decide +kernel
theorem d_T_write_133 : decode b_T_write 133 = .ok (.iconst 2, 1) := by decide +kernel
theorem d_T_write_134 : decode b_T_write 134 = .ok (.if_icmp .ne 8, 3) := by decide +kernel
theorem d_T_write_137 : decode b_T_write 137 = .ok (.iload 4, 2) := by decide +kernel
theorem d_T_write_139 : decode b_T_write 139 = .ok (.goto 14, 3) := by decide +kernel
theorem d_T_write_142 : decode b_T_write 142 = .ok (.aload_n 0, 1) := by decide +kernel
theorem d_T_write_143 : decode b_T_write 143 = .ok (.getfield 30, 3) := by decide +kernel
theorem d_T_write_146 : decode b_T_write 146 = .ok (.iload_n 2, 1) := by decide +kernel
theorem d_T_write_147 : decode b_T_write 147 = .ok (.iload 8, 2) := by decide +kernel
theorem d_T_write_149 : decode b_T_write 149 = .ok (.iadd, 1) := by decide +kernel
theorem d_T_write_150 : decode b_T_write 150 = .ok (.iconst 3, 1) := by decide +kernel
theorem d_T_write_151 : decode b_T_write 151 = .ok (.isub, 1) := by decide +kernel
theorem d_T_write_152 : decode b_T_write 152 = .ok (.iaload, 1) := by decide +kernel
theorem d_T_write_153 : decode b_T_write 153 = .ok (.istore 10, 2) := by decide +kernel
theorem d_T_write_155 : decode b_T_write 155 = .ok (.aload_n 0, 1) := by decide +kernel
theorem d_T_write_156 : decode b_T_write 156 = .ok (.getfield 23, 3) := by decide +kernel
theorem d_T_write_159 : decode b_T_write 159 = .ok (.bipush 88, 2) := by decide +kernel
theorem d_T_write_161 : decode b_T_write 161 = .ok (.iload_n 1, 1) := by decide +kernel
theorem d_T_write_162 : decode b_T_write 162 = .ok (.imul, 1) := by decide +kernel
theorem d_T_write_163 : decode b_T_write 163 = .ok (.bipush 44, 2) := by decide +kernel
theorem d_T_write_165 : decode b_T_write 165 = .ok (.iload 5, 2) := by decide +kernel
theorem d_T_write_167 : decode b_T_write 167 = .ok (.imul, 1) := by decide +kernel
theorem d_T_write_168 : decode b_T_write 168 = .ok (.iadd, 1) := by decide +kernel
theorem d_T_write_169 : decode b_T_write 169 = .ok (.iload 9, 2) := by decide +kernel
theorem d_T_write_171 : decode b_T_write 171 = .ok (.iadd, 1) := by decide +kernel
theorem d_T_write_172 : decode b_T_write 172 = .ok (.iload 10, 2) := by decide +kernel
theorem d_T_write_174 : decode b_T_write 174 = .ok (.i2s, 1) := by decide +kernel
theorem d_T_write_175 : decode b_T_write 175 = .ok (.sastore, 1) := by decide +kernel
theorem d_T_write_176 : decode b_T_write 176 = .ok (.aload_n 0, 1) := by decide +kernel
theorem d_T_write_177 : decode b_T_write 177 = .ok (.getfield 19, 3) := by decide +kernel
theorem d_T_write_180 : decode b_T_write 180 = .ok (.iload_n 1, 1) := by decide +kernel
theorem d_T_write_181 : decode b_T_write 181 = .ok (.dup2, 1) := by decide +kernel
theorem d_T_write_182 : decode b_T_write 182 = .ok (.iaload, 1) := by decide +kernel
theorem d_T_write_183 : decode b_T_write 183 = .ok (.iconst 1, 1) := by decide +kernel
theorem d_T_write_184 : decode b_T_write 184 = .ok (.iadd, 1) := by decide +kernel
theorem d_T_write_185 : decode b_T_write 185 = .ok (.iastore, 1) := by decide +kernel
theorem d_T_write_186 : decode b_T_write 186 = .ok (.iinc 8 1, 3) := by decide +kernel
theorem d_T_write_189 : decode b_T_write 189 = .ok (.goto (-118), 3) := by decide +kernel
theorem d_T_write_192 : decode b_T_write 192 = .ok (.aload_n 0, 1) := by decide +kernel
theorem d_T_write_193 : decode b_T_write 193 = .ok (.getfield 16, 3) := by decide +kernel
theorem d_T_write_196 : decode b_T_write 196 = .ok (.iload_n 1, 1) := by decide +kernel
theorem d_T_write_197 : decode b_T_write 197 = .ok (.iconst (-1), 1) := by decide +kernel
theorem d_T_write_198 : decode b_T_write 198 = .ok (.iastore, 1) := by decide +kernel
theorem d_T_write_199 : decode b_T_write 199 = .ok (.return_, 1) := by decide +kernel
theorem d_T_tells_0 : decode b_T_tells 0 = .ok (.aload_n 0, 1) := by decide +kernel
theorem d_T_tells_1 : decode b_T_tells 1 = .ok (.iload_n 1, 1) := by decide +kernel
theorem d_T_tells_2 : decode b_T_tells 2 = .ok (.invokevirtual 89, 3) := by decide +kernel
theorem d_T_tells_5 : decode b_T_tells 5 = .ok (.iload_n 3, 1) := by decide +kernel
theorem d_T_tells_6 : decode b_T_tells 6 = .ok (.if_icmp .ne 26, 3) := by decide +kernel
theorem d_T_tells_9 : decode b_T_tells 9 = .ok (.aload_n 0, 1) := by decide +kernel
theorem d_T_tells_10 : decode b_T_tells 10 = .ok (.iload_n 1, 1) := by decide +kernel
theorem d_T_tells_11 : decode b_T_tells 11 = .ok (.invokevirtual 92, 3) := by decide +kernel
theorem d_T_tells_14 : decode b_T_tells 14 = .ok (.iload_n 2, 1) := by decide +kernel
theorem d_T_tells_15 : decode b_T_tells 15 = .ok (.if_icmp .ne 17, 3) := by decide +kernel
theorem d_T_tells_18 : decode b_T_tells 18 = .ok (.aload_n 0, 1) := by decide +kernel
theorem d_T_tells_19 : decode b_T_tells 19 = .ok (.iload_n 1, 1) := by decide +kernel
theorem d_T_tells_20 : decode b_T_tells 20 = .ok (.invokevirtual 95, 3) := by decide +kernel
theorem d_T_tells_23 : decode b_T_tells 23 = .ok (.iload 4, 2) := by decide +kernel
theorem d_T_tells_25 : decode b_T_tells 25 = .ok (.if_icmp .ne 7, 3) := by decide +kernel
theorem d_T_tells_28 : decode b_T_tells 28 = .ok (.iconst 1, 1) := by decide +kernel
theorem d_T_tells_29 : decode b_T_tells 29 = .ok (.goto 4, 3) := by decide +kernel
theorem d_T_tells_32 : decode b_T_tells 32 = .ok (.iconst 0, 1) := by decide +kernel
theorem d_T_tells_33 : decode b_T_tells 33 = .ok (.istore 5, 2) := by decide +kernel
theorem d_T_tells_35 : decode b_T_tells 35 = .ok (.iconst 0, 1) := by decide +kernel
theorem d_T_tells_36 : decode b_T_tells 36 = .ok (.istore 6, 2) := by decide +kernel
theorem d_T_tells_38 : decode b_T_tells 38 = .ok (.iload 6, 2) := by decide +kernel
theorem d_T_tells_40 : decode b_T_tells 40 = .ok (.iload_n 3, 1) := by decide +kernel
theorem d_T_tells_41 : decode b_T_tells 41 = .ok (.if_icmp .ge 47, 3) := by decide +kernel
theorem d_T_tells_44 : decode b_T_tells 44 = .ok (.iload 5, 2) := by decide +kernel
theorem d_T_tells_46 : decode b_T_tells 46 = .ok (.ifCond .eq 42, 3) := by decide +kernel
theorem d_T_tells_49 : decode b_T_tells 49 = .ok (.aload_n 0, 1) := by decide +kernel
theorem d_T_tells_50 : decode b_T_tells 50 = .ok (.iload_n 1, 1) := by decide +kernel
theorem d_T_tells_51 : decode b_T_tells 51 = .ok (.aload_n 0, 1) := by decide +kernel
theorem d_T_tells_52 : decode b_T_tells 52 = .ok (.iload_n 1, 1) := by decide +kernel
theorem d_T_tells_53 : decode b_T_tells 53 = .ok (.invokevirtual 85, 3) := by decide +kernel
theorem d_T_tells_56 : decode b_T_tells 56 = .ok (.iconst 3, 1) := by decide +kernel
theorem d_T_tells_57 : decode b_T_tells 57 = .ok (.iload 6, 2) := by decide +kernel
theorem d_T_tells_59 : decode b_T_tells 59 = .ok (.iadd, 1) := by decide +kernel
theorem d_T_tells_60 : decode b_T_tells 60 = .ok (.invokevirtual 73, 3) := by decide +kernel
theorem d_T_tells_63 : decode b_T_tells 63 = .ok (.aload_n 0, 1) := by decide +kernel
theorem d_T_tells_64 : decode b_T_tells 64 = .ok (.getfield 30, 3) := by decide +kernel
theorem d_T_tells_67 : decode b_T_tells 67 = .ok (.iload_n 2, 1) := by decide +kernel
theorem d_T_tells_68 : decode b_T_tells 68 = .ok (.iload 6, 2) := by decide +kernel
theorem d_T_tells_70 : decode b_T_tells 70 = .ok (.iadd, 1) := by decide +kernel
theorem d_T_tells_71 : decode b_T_tells 71 = .ok (.iaload, 1) := by decide +kernel
theorem d_T_tells_72 : decode b_T_tells 72 = .ok (.if_icmp .ne 7, 3) := by decide +kernel
theorem d_T_tells_75 : decode b_T_tells 75 = .ok (.iconst 1, 1) := by decide +kernel
theorem d_T_tells_76 : decode b_T_tells 76 = .ok (.goto 4, 3) := by decide +kernel
theorem d_T_tells_79 : decode b_T_tells 79 = .ok (.iconst 0, 1) := by decide +kernel
theorem d_T_tells_80 : decode b_T_tells 80 = .ok (.istore 5, 2) := by decide +kernel
theorem d_T_tells_82 : decode b_T_tells 82 = .ok (.iinc 6 1, 3) := by decide +kernel
theorem d_T_tells_85 : decode b_T_tells 85 = .ok (.goto (-47), 3) := by decide +kernel
theorem d_T_tells_88 : decode b_T_tells 88 = .ok (.iload 5, 2) := by decide +kernel
theorem d_T_tells_90 : decode b_T_tells 90 = .ok (.ireturn, 1) := by decide +kernel
theorem d_T_count_0 : decode b_T_count 0 = .ok (.aload_n 0, 1) := by decide +kernel
theorem d_T_count_1 : decode b_T_count 1 = .ok (.iload_n 1, 1) := by decide +kernel
theorem d_T_count_2 : decode b_T_count 2 = .ok (.aload_n 0, 1) := by decide +kernel
theorem d_T_count_3 : decode b_T_count 3 = .ok (.iload_n 1, 1) := by decide +kernel
theorem d_T_count_4 : decode b_T_count 4 = .ok (.invokevirtual 85, 3) := by decide +kernel
theorem d_T_count_7 : decode b_T_count 7 = .ok (.iconst 0, 1) := by decide +kernel
theorem d_T_count_8 : decode b_T_count 8 = .ok (.invokevirtual 73, 3) := by decide +kernel
theorem d_T_count_11 : decode b_T_count 11 = .ok (.sipush 255, 3) := by decide +kernel
theorem d_T_count_14 : decode b_T_count 14 = .ok (.iand, 1) := by decide +kernel
theorem d_T_count_15 : decode b_T_count 15 = .ok (.ireturn, 1) := by decide +kernel
theorem d_T_current_0 : decode b_T_current 0 = .ok (.aload_n 0, 1) := by decide +kernel
theorem d_T_current_1 : decode b_T_current 1 = .ok (.iload_n 1, 1) := by decide +kernel
theorem d_T_current_2 : decode b_T_current 2 = .ok (.iconst 0, 1) := by decide +kernel
theorem d_T_current_3 : decode b_T_current 3 = .ok (.invokevirtual 77, 3) := by decide +kernel
theorem d_T_current_6 : decode b_T_current 6 = .ok (.ifCond .eq 12, 3) := by decide +kernel
theorem d_T_current_9 : decode b_T_current 9 = .ok (.aload_n 0, 1) := by decide +kernel
theorem d_T_current_10 : decode b_T_current 10 = .ok (.iload_n 1, 1) := by decide +kernel
theorem d_T_current_11 : decode b_T_current 11 = .ok (.iconst 1, 1) := by decide +kernel
theorem d_T_current_12 : decode b_T_current 12 = .ok (.invokevirtual 77, 3) := by decide +kernel
theorem d_T_current_15 : decode b_T_current 15 = .ok (.ifCond .ne 18, 3) := by decide +kernel
theorem d_T_current_18 : decode b_T_current 18 = .ok (.aload_n 0, 1) := by decide +kernel
theorem d_T_current_19 : decode b_T_current 19 = .ok (.iload_n 1, 1) := by decide +kernel
theorem d_T_current_20 : decode b_T_current 20 = .ok (.iconst 0, 1) := by decide +kernel
theorem d_T_current_21 : decode b_T_current 21 = .ok (.invokevirtual 77, 3) := by decide +kernel
theorem d_T_current_24 : decode b_T_current 24 = .ok (.ifCond .eq 7, 3) := by decide +kernel
theorem d_T_current_27 : decode b_T_current 27 = .ok (.iconst 0, 1) := by decide +kernel
theorem d_T_current_28 : decode b_T_current 28 = .ok (.goto 4, 3) := by decide +kernel
theorem d_T_current_31 : decode b_T_current 31 = .ok (.iconst 1, 1) := by decide +kernel
theorem d_T_current_32 : decode b_T_current 32 = .ok (.ireturn, 1) := by decide +kernel
theorem d_T_current_33 : decode b_T_current 33 = .ok (.aload_n 0, 1) := by decide +kernel
theorem d_T_current_34 : decode b_T_current 34 = .ok (.iload_n 1, 1) := by decide +kernel
theorem d_T_current_35 : decode b_T_current 35 = .ok (.iconst 1, 1) := by decide +kernel
theorem d_T_current_36 : decode b_T_current 36 = .ok (.invokevirtual 81, 3) := by decide +kernel
theorem d_T_current_39 : decode b_T_current 39 = .ok (.aload_n 0, 1) := by decide +kernel
theorem d_T_current_40 : decode b_T_current 40 = .ok (.iload_n 1, 1) := by decide +kernel
theorem d_T_current_41 : decode b_T_current 41 = .ok (.iconst 0, 1) := by decide +kernel
theorem d_T_current_42 : decode b_T_current 42 = .ok (.invokevirtual 81, 3) := by decide +kernel
theorem d_T_current_45 : decode b_T_current 45 = .ok (.isub, 1) := by decide +kernel
theorem d_T_current_46 : decode b_T_current 46 = .ok (.sipush 255, 3) := by decide +kernel
theorem d_T_current_49 : decode b_T_current 49 = .ok (.iand, 1) := by decide +kernel
theorem d_T_current_50 : decode b_T_current 50 = .ok (.istore_n 2, 1) := by decide +kernel
theorem d_T_current_51 : decode b_T_current 51 = .ok (.iload_n 2, 1) := by decide +kernel
theorem d_T_current_52 : decode b_T_current 52 = .ok (.ifCond .le 14, 3) := by decide +kernel
theorem d_T_current_55 : decode b_T_current 55 = .ok (.iload_n 2, 1) := by decide +kernel
theorem d_T_current_56 : decode b_T_current 56 = .ok (.sipush 128, 3) := by decide +kernel
theorem d_T_current_59 : decode b_T_current 59 = .ok (.if_icmp .ge 7, 3) := by decide +kernel
theorem d_T_current_62 : decode b_T_current 62 = .ok (.iconst 1, 1) := by decide +kernel
theorem d_T_current_63 : decode b_T_current 63 = .ok (.goto 4, 3) := by decide +kernel
theorem d_T_current_66 : decode b_T_current 66 = .ok (.iconst 0, 1) := by decide +kernel
theorem d_T_current_67 : decode b_T_current 67 = .ok (.ireturn, 1) := by decide +kernel
theorem d_T_whole_0 : decode b_T_whole 0 = .ok (.aload_n 0, 1) := by decide +kernel
theorem d_T_whole_1 : decode b_T_whole 1 = .ok (.iload_n 1, 1) := by decide +kernel
theorem d_T_whole_2 : decode b_T_whole 2 = .ok (.iload_n 2, 1) := by decide +kernel
theorem d_T_whole_3 : decode b_T_whole 3 = .ok (.iconst 0, 1) := by decide +kernel
theorem d_T_whole_4 : decode b_T_whole 4 = .ok (.invokevirtual 73, 3) := by decide +kernel
theorem d_T_whole_7 : decode b_T_whole 7 = .ok (.aload_n 0, 1) := by decide +kernel
theorem d_T_whole_8 : decode b_T_whole 8 = .ok (.iload_n 1, 1) := by decide +kernel
theorem d_T_whole_9 : decode b_T_whole 9 = .ok (.iload_n 2, 1) := by decide +kernel
theorem d_T_whole_10 : decode b_T_whole 10 = .ok (.bipush 43, 2) := by decide +kernel
theorem d_T_whole_12 : decode b_T_whole 12 = .ok (.invokevirtual 73, 3) := by decide +kernel
theorem d_T_whole_15 : decode b_T_whole 15 = .ok (.if_icmp .ne 7, 3) := by decide +kernel
theorem d_T_whole_18 : decode b_T_whole 18 = .ok (.iconst 1, 1) := by decide +kernel
theorem d_T_whole_19 : decode b_T_whole 19 = .ok (.goto 4, 3) := by decide +kernel
theorem d_T_whole_22 : decode b_T_whole 22 = .ok (.iconst 0, 1) := by decide +kernel
theorem d_T_whole_23 : decode b_T_whole 23 = .ok (.ireturn, 1) := by decide +kernel
theorem d_T_wordAt_0 : decode b_T_wordAt 0 = .ok (.aload_n 0, 1) := by decide +kernel
theorem d_T_wordAt_1 : decode b_T_wordAt 1 = .ok (.getfield 23, 3) := by decide +kernel
theorem d_T_wordAt_4 : decode b_T_wordAt 4 = .ok (.bipush 88, 2) := by decide +kernel
theorem d_T_wordAt_6 : decode b_T_wordAt 6 = .ok (.iload_n 1, 1) := by decide +kernel
theorem d_T_wordAt_7 : decode b_T_wordAt 7 = .ok (.imul, 1) := by decide +kernel
theorem d_T_wordAt_8 : decode b_T_wordAt 8 = .ok (.bipush 44, 2) := by decide +kernel
theorem d_T_wordAt_10 : decode b_T_wordAt 10 = .ok (.iload_n 2, 1) := by decide +kernel
theorem d_T_wordAt_11 : decode b_T_wordAt 11 = .ok (.imul, 1) := by decide +kernel
theorem d_T_wordAt_12 : decode b_T_wordAt 12 = .ok (.iadd, 1) := by decide +kernel
theorem d_T_wordAt_13 : decode b_T_wordAt 13 = .ok (.iload_n 3, 1) := by decide +kernel
theorem d_T_wordAt_14 : decode b_T_wordAt 14 = .ok (.iadd, 1) := by decide +kernel
theorem d_T_wordAt_15 : decode b_T_wordAt 15 = .ok (.saload, 1) := by decide +kernel
theorem d_T_wordAt_16 : decode b_T_wordAt 16 = .ok (.ireturn, 1) := by decide +kernel
theorem d_T_sequence_0 : decode b_T_sequence 0 = .ok (.aload_n 0, 1) := by decide +kernel
theorem d_T_sequence_1 : decode b_T_sequence 1 = .ok (.iload_n 1, 1) := by decide +kernel
theorem d_T_sequence_2 : decode b_T_sequence 2 = .ok (.iload_n 2, 1) := by decide +kernel
theorem d_T_sequence_3 : decode b_T_sequence 3 = .ok (.iconst 0, 1) := by decide +kernel
theorem d_T_sequence_4 : decode b_T_sequence 4 = .ok (.invokevirtual 73, 3) := by decide +kernel
theorem d_T_sequence_7 : decode b_T_sequence 7 = .ok (.bipush 8, 2) := by decide +kernel
theorem d_T_sequence_9 : decode b_T_sequence 9 = .ok (.ishr, 1) := by decide +kernel
theorem d_T_sequence_10 : decode b_T_sequence 10 = .ok (.sipush 255, 3) := by decide +kernel
theorem d_T_sequence_13 : decode b_T_sequence 13 = .ok (.iand, 1) := by decide +kernel
theorem d_T_sequence_14 : decode b_T_sequence 14 = .ok (.ireturn, 1) := by decide +kernel
theorem d_T_first_0 : decode b_T_first 0 = .ok (.aload_n 0, 1) := by decide +kernel
theorem d_T_first_1 : decode b_T_first 1 = .ok (.iload_n 1, 1) := by decide +kernel
theorem d_T_first_2 : decode b_T_first 2 = .ok (.invokevirtual 89, 3) := by decide +kernel
theorem d_T_first_5 : decode b_T_first 5 = .ok (.ifCond .ne 7, 3) := by decide +kernel
theorem d_T_first_8 : decode b_T_first 8 = .ok (.iconst 0, 1) := by decide +kernel
theorem d_T_first_9 : decode b_T_first 9 = .ok (.goto 14, 3) := by decide +kernel
theorem d_T_first_12 : decode b_T_first 12 = .ok (.aload_n 0, 1) := by decide +kernel
theorem d_T_first_13 : decode b_T_first 13 = .ok (.iload_n 1, 1) := by decide +kernel
theorem d_T_first_14 : decode b_T_first 14 = .ok (.aload_n 0, 1) := by decide +kernel
theorem d_T_first_15 : decode b_T_first 15 = .ok (.iload_n 1, 1) := by decide +kernel
theorem d_T_first_16 : decode b_T_first 16 = .ok (.invokevirtual 85, 3) := by decide +kernel
theorem d_T_first_19 : decode b_T_first 19 = .ok (.iconst 1, 1) := by decide +kernel
theorem d_T_first_20 : decode b_T_first 20 = .ok (.invokevirtual 73, 3) := by decide +kernel
theorem d_T_first_23 : decode b_T_first 23 = .ok (.ireturn, 1) := by decide +kernel
theorem d_T_seen_0 : decode b_T_seen 0 = .ok (.aload_n 0, 1) := by decide +kernel
theorem d_T_seen_1 : decode b_T_seen 1 = .ok (.iload_n 1, 1) := by decide +kernel
theorem d_T_seen_2 : decode b_T_seen 2 = .ok (.aload_n 0, 1) := by decide +kernel
theorem d_T_seen_3 : decode b_T_seen 3 = .ok (.iload_n 1, 1) := by decide +kernel
theorem d_T_seen_4 : decode b_T_seen 4 = .ok (.invokevirtual 85, 3) := by decide +kernel
theorem d_T_seen_7 : decode b_T_seen 7 = .ok (.iconst 2, 1) := by decide +kernel
theorem d_T_seen_8 : decode b_T_seen 8 = .ok (.invokevirtual 73, 3) := by decide +kernel
theorem d_T_seen_11 : decode b_T_seen 11 = .ok (.ireturn, 1) := by decide +kernel
theorem d_T_give_0 : decode b_T_give 0 = .ok (.iload_n 3, 1) := by decide +kernel
theorem d_T_give_1 : decode b_T_give 1 = .ok (.iload_n 2, 1) := by decide +kernel
theorem d_T_give_2 : decode b_T_give 2 = .ok (.isub, 1) := by decide +kernel
theorem d_T_give_3 : decode b_T_give 3 = .ok (.bipush 39, 2) := by decide +kernel
theorem d_T_give_5 : decode b_T_give 5 = .ok (.if_icmp .le 10, 3) := by decide +kernel
theorem d_T_give_8 : decode b_T_give 8 = .ok (.iload_n 3, 1) := by decide +kernel
theorem d_T_give_9 : decode b_T_give 9 = .ok (.bipush 39, 2) := by decide +kernel
theorem d_T_give_11 : decode b_T_give 11 = .ok (.isub, 1) := by decide +kernel
theorem d_T_give_12 : decode b_T_give 12 = .ok (.goto 4, 3) := by decide +kernel
theorem d_T_give_15 : decode b_T_give 15 = .ok (.iload_n 2, 1) := by decide +kernel
theorem d_T_give_16 : decode b_T_give 16 = .ok (.istore 5, 2) := by decide +kernel
theorem d_T_give_18 : decode b_T_give 18 = .ok (.aload_n 0, 1) := by decide +kernel
theorem d_T_give_19 : decode b_T_give 19 = .ok (.iload_n 1, 1) := by decide +kernel
theorem d_T_give_20 : decode b_T_give 20 = .ok (.iload 5, 2) := by decide +kernel
theorem d_T_give_22 : decode b_T_give 22 = .ok (.iload_n 3, 1) := by decide +kernel
theorem d_T_give_23 : decode b_T_give 23 = .ok (.iload_n 2, 1) := by decide +kernel
theorem d_T_give_24 : decode b_T_give 24 = .ok (.if_icmp .ge 7, 3) := by decide +kernel
theorem d_T_give_27 : decode b_T_give 27 = .ok (.iconst 0, 1) := by decide +kernel
theorem d_T_give_28 : decode b_T_give 28 = .ok (.goto 9, 3) := by decide +kernel
theorem d_T_give_31 : decode b_T_give 31 = .ok (.iload_n 3, 1) := by decide +kernel
theorem d_T_give_32 : decode b_T_give 32 = .ok (.iload 5, 2) := by decide +kernel
theorem d_T_give_34 : decode b_T_give 34 = .ok (.isub, 1) := by decide +kernel
theorem d_T_give_35 : decode b_T_give 35 = .ok (.iconst 1, 1) := by decide +kernel
theorem d_T_give_36 : decode b_T_give 36 = .ok (.iadd, 1) := by decide +kernel
theorem d_T_give_37 : decode b_T_give 37 = .ok (.iload 4, 2) := by decide +kernel
theorem d_T_give_39 : decode b_T_give 39 = .ok (.invokevirtual 102, 3) := by decide +kernel
theorem d_T_give_42 : decode b_T_give 42 = .ok (.return_, 1) := by decide +kernel
theorem d_T_zoneOf_0 : decode b_T_zoneOf 0 = .ok (.aload_n 0, 1) := by decide +kernel
theorem d_T_zoneOf_1 : decode b_T_zoneOf 1 = .ok (.iload_n 1, 1) := by decide +kernel
theorem d_T_zoneOf_2 : decode b_T_zoneOf 2 = .ok (.invokestatic 109, 3) := by decide +kernel
theorem d_T_zoneOf_5 : decode b_T_zoneOf 5 = .ok (.ifCond .eq 7, 3) := by decide +kernel
theorem d_T_zoneOf_8 : decode b_T_zoneOf 8 = .ok (.iconst 1, 1) := by decide +kernel
theorem d_T_zoneOf_9 : decode b_T_zoneOf 9 = .ok (.goto 31, 3) := by decide +kernel
theorem d_T_zoneOf_12 : decode b_T_zoneOf 12 = .ok (.iload_n 2, 1) := by decide +kernel
theorem d_T_zoneOf_13 : decode b_T_zoneOf 13 = .ok (.ifCond .lt 9, 3) := by decide +kernel
theorem d_T_zoneOf_16 : decode b_T_zoneOf 16 = .ok (.iload_n 2, 1) := by decide +kernel
theorem d_T_zoneOf_17 : decode b_T_zoneOf 17 = .ok (.bipush 31, 2) := by decide +kernel
theorem d_T_zoneOf_19 : decode b_T_zoneOf 19 = .ok (.if_icmp .le 7, 3) := by decide +kernel
theorem d_T_zoneOf_22 : decode b_T_zoneOf 22 = .ok (.iconst 2, 1) := by decide +kernel
theorem d_T_zoneOf_23 : decode b_T_zoneOf 23 = .ok (.goto 17, 3) := by decide +kernel
theorem d_T_zoneOf_26 : decode b_T_zoneOf 26 = .ok (.aload_n 0, 1) := by decide +kernel
theorem d_T_zoneOf_27 : decode b_T_zoneOf 27 = .ok (.getfield 41, 3) := by decide +kernel
theorem d_T_zoneOf_30 : decode b_T_zoneOf 30 = .ok (.iload_n 1, 1) := by decide +kernel
theorem d_T_zoneOf_31 : decode b_T_zoneOf 31 = .ok (.baload, 1) := by decide +kernel
theorem d_T_zoneOf_32 : decode b_T_zoneOf 32 = .ok (.ifCond .eq 7, 3) := by decide +kernel
theorem d_T_zoneOf_35 : decode b_T_zoneOf 35 = .ok (.iconst 3, 1) := by decide +kernel
theorem d_T_zoneOf_36 : decode b_T_zoneOf 36 = .ok (.goto 4, 3) := by decide +kernel
theorem d_T_zoneOf_39 : decode b_T_zoneOf 39 = .ok (.iconst 0, 1) := by decide +kernel
theorem d_T_zoneOf_40 : decode b_T_zoneOf 40 = .ok (.putfield 59, 3) := by decide +kernel
theorem d_T_zoneOf_43 : decode b_T_zoneOf 43 = .ok (.aload_n 0, 1) := by decide +kernel
theorem d_T_zoneOf_44 : decode b_T_zoneOf 44 = .ok (.getfield 59, 3) := by decide +kernel
theorem d_T_zoneOf_47 : decode b_T_zoneOf 47 = .ok (.ifCond .ne 10, 3) := by decide +kernel
theorem d_T_zoneOf_50 : decode b_T_zoneOf 50 = .ok (.aload_n 0, 1) := by decide +kernel
theorem d_T_zoneOf_51 : decode b_T_zoneOf 51 = .ok (.getfield 38, 3) := by decide +kernel
theorem d_T_zoneOf_54 : decode b_T_zoneOf 54 = .ok (.iload_n 1, 1) := by decide +kernel
theorem d_T_zoneOf_55 : decode b_T_zoneOf 55 = .ok (.iload_n 2, 1) := by decide +kernel
theorem d_T_zoneOf_56 : decode b_T_zoneOf 56 = .ok (.iastore, 1) := by decide +kernel
theorem d_T_zoneOf_57 : decode b_T_zoneOf 57 = .ok (.return_, 1) := by decide +kernel
theorem d_T_noDoor_0 : decode b_T_noDoor 0 = .ok (.iload_n 0, 1) := by decide +kernel
theorem d_T_noDoor_1 : decode b_T_noDoor 1 = .ok (.ifCond .lt 10, 3) := by decide +kernel
theorem d_T_noDoor_4 : decode b_T_noDoor 4 = .ok (.iload_n 0, 1) := by decide +kernel
theorem d_T_noDoor_5 : decode b_T_noDoor 5 = .ok (.sipush 199, 3) := by decide +kernel
theorem d_T_noDoor_8 : decode b_T_noDoor 8 = .ok (.if_icmp .le 7, 3) := by decide +kernel
theorem d_T_noDoor_11 : decode b_T_noDoor 11 = .ok (.iconst 1, 1) := by decide +kernel
theorem d_T_noDoor_12 : decode b_T_noDoor 12 = .ok (.goto 4, 3) := by decide +kernel
theorem d_T_noDoor_15 : decode b_T_noDoor 15 = .ok (.iconst 0, 1) := by decide +kernel
theorem d_T_noDoor_16 : decode b_T_noDoor 16 = .ok (.ireturn, 1) := by decide +kernel
theorem d_T_show_0 : decode b_T_show 0 = .ok (.aload_n 0, 1) := by decide +kernel
theorem d_T_show_1 : decode b_T_show 1 = .ok (.aload_n 0, 1) := by decide +kernel
theorem d_T_show_2 : decode b_T_show 2 = .ok (.iload_n 1, 1) := by decide +kernel
theorem d_T_show_3 : decode b_T_show 3 = .ok (.invokevirtual 66, 3) := by decide +kernel
theorem d_T_show_6 : decode b_T_show 6 = .ok (.ifCond .ne 10, 3) := by decide +kernel
theorem d_T_show_9 : decode b_T_show 9 = .ok (.iload_n 2, 1) := by decide +kernel
theorem d_T_show_10 : decode b_T_show 10 = .ok (.invokestatic 109, 3) := by decide +kernel
theorem d_T_show_13 : decode b_T_show 13 = .ok (.ifCond .eq 7, 3) := by decide +kernel
theorem d_T_show_16 : decode b_T_show 16 = .ok (.iconst 1, 1) := by decide +kernel
theorem d_T_show_17 : decode b_T_show 17 = .ok (.goto 4, 3) := by decide +kernel
theorem d_T_show_20 : decode b_T_show 20 = .ok (.iconst 0, 1) := by decide +kernel
theorem d_T_show_21 : decode b_T_show 21 = .ok (.putfield 59, 3) := by decide +kernel
theorem d_T_show_24 : decode b_T_show 24 = .ok (.aload_n 0, 1) := by decide +kernel
theorem d_T_show_25 : decode b_T_show 25 = .ok (.getfield 59, 3) := by decide +kernel
theorem d_T_show_28 : decode b_T_show 28 = .ok (.ifCond .le 7, 3) := by decide +kernel
theorem d_T_show_31 : decode b_T_show 31 = .ok (.iconst 0, 1) := by decide +kernel
theorem d_T_show_32 : decode b_T_show 32 = .ok (.goto 10, 3) := by decide +kernel
theorem d_T_show_35 : decode b_T_show 35 = .ok (.aload_n 0, 1) := by decide +kernel
theorem d_T_show_36 : decode b_T_show 36 = .ok (.iload_n 1, 1) := by decide +kernel
theorem d_T_show_37 : decode b_T_show 37 = .ok (.iload_n 2, 1) := by decide +kernel
theorem d_T_show_38 : decode b_T_show 38 = .ok (.iload_n 3, 1) := by decide +kernel
theorem d_T_show_39 : decode b_T_show 39 = .ok (.invokevirtual 118, 3) := by decide +kernel
theorem d_T_show_42 : decode b_T_show 42 = .ok (.ireturn, 1) := by decide +kernel
theorem d_T_visitAt_0 : decode b_T_visitAt 0 = .ok (.aload_n 0, 1) := by decide +kernel
theorem d_T_visitAt_1 : decode b_T_visitAt 1 = .ok (.getfield 41, 3) := by decide +kernel
theorem d_T_visitAt_4 : decode b_T_visitAt 4 = .ok (.iload_n 2, 1) := by decide +kernel
theorem d_T_visitAt_5 : decode b_T_visitAt 5 = .ok (.iconst 1, 1) := by decide +kernel
theorem d_T_visitAt_6 : decode b_T_visitAt 6 = .ok (.bastore, 1) := by decide +kernel
theorem d_T_visitAt_7 : decode b_T_visitAt 7 = .ok (.aload_n 0, 1) := by decide +kernel
theorem d_T_visitAt_8 : decode b_T_visitAt 8 = .ok (.iload_n 1, 1) := by decide +kernel
theorem d_T_visitAt_9 : decode b_T_visitAt 9 = .ok (.invokevirtual 92, 3) := by decide +kernel
theorem d_T_visitAt_12 : decode b_T_visitAt 12 = .ok (.istore 4, 2) := by decide +kernel
theorem d_T_visitAt_14 : decode b_T_visitAt 14 = .ok (.iconst 0, 1) := by decide +kernel
theorem d_T_visitAt_15 : decode b_T_visitAt 15 = .ok (.istore 5, 2) := by decide +kernel
theorem d_T_visitAt_17 : decode b_T_visitAt 17 = .ok (.iload 5, 2) := by decide +kernel
theorem d_T_visitAt_19 : decode b_T_visitAt 19 = .ok (.aload_n 0, 1) := by decide +kernel
theorem d_T_visitAt_20 : decode b_T_visitAt 20 = .ok (.iload_n 1, 1) := by decide +kernel
theorem d_T_visitAt_21 : decode b_T_visitAt 21 = .ok (.invokevirtual 89, 3) := by decide +kernel
theorem d_T_visitAt_24 : decode b_T_visitAt 24 = .ok (.if_icmp .ge 26, 3) := by decide +kernel
theorem d_T_visitAt_27 : decode b_T_visitAt 27 = .ok (.aload_n 0, 1) := by decide +kernel
theorem d_T_visitAt_28 : decode b_T_visitAt 28 = .ok (.getfield 34, 3) := by decide +kernel
theorem d_T_visitAt_31 : decode b_T_visitAt 31 = .ok (.sipush 3001, 3) := by decide +kernel
theorem d_T_visitAt_34 : decode b_T_visitAt 34 = .ok (.iload_n 2, 1) := by decide +kernel
theorem d_T_visitAt_35 : decode b_T_visitAt 35 = .ok (.imul, 1) := by decide +kernel
theorem d_T_visitAt_36 : decode b_T_visitAt 36 = .ok (.iload 4, 2) := by decide +kernel
theorem d_T_visitAt_38 : decode b_T_visitAt 38 = .ok (.iadd, 1) := by decide +kernel
theorem d_T_visitAt_39 : decode b_T_visitAt 39 = .ok (.iload 5, 2) := by decide +kernel
theorem d_T_visitAt_41 : decode b_T_visitAt 41 = .ok (.iadd, 1) := by decide +kernel
theorem d_T_visitAt_42 : decode b_T_visitAt 42 = .ok (.iconst 1, 1) := by decide +kernel
theorem d_T_visitAt_43 : decode b_T_visitAt 43 = .ok (.bastore, 1) := by decide +kernel
theorem d_T_visitAt_44 : decode b_T_visitAt 44 = .ok (.iinc 5 1, 3) := by decide +kernel
theorem d_T_visitAt_47 : decode b_T_visitAt 47 = .ok (.goto (-30), 3) := by decide +kernel
theorem d_T_visitAt_50 : decode b_T_visitAt 50 = .ok (.aload_n 0, 1) := by decide +kernel
theorem d_T_visitAt_51 : decode b_T_visitAt 51 = .ok (.getfield 44, 3) := by decide +kernel
theorem d_T_visitAt_54 : decode b_T_visitAt 54 = .ok (.iload_n 2, 1) := by decide +kernel
theorem d_T_visitAt_55 : decode b_T_visitAt 55 = .ok (.aload_n 0, 1) := by decide +kernel
theorem d_T_visitAt_56 : decode b_T_visitAt 56 = .ok (.iload_n 1, 1) := by decide +kernel
theorem d_T_visitAt_57 : decode b_T_visitAt 57 = .ok (.invokevirtual 95, 3) := by decide +kernel
theorem d_T_visitAt_60 : decode b_T_visitAt 60 = .ok (.aload_n 0, 1) := by decide +kernel
theorem d_T_visitAt_61 : decode b_T_visitAt 61 = .ok (.getfield 44, 3) := by decide +kernel
theorem d_T_visitAt_64 : decode b_T_visitAt 64 = .ok (.iload_n 2, 1) := by decide +kernel
theorem d_T_visitAt_65 : decode b_T_visitAt 65 = .ok (.iaload, 1) := by decide +kernel
theorem d_T_visitAt_66 : decode b_T_visitAt 66 = .ok (.if_icmp .le 11, 3) := by decide +kernel
theorem d_T_visitAt_69 : decode b_T_visitAt 69 = .ok (.aload_n 0, 1) := by decide +kernel
theorem d_T_visitAt_70 : decode b_T_visitAt 70 = .ok (.iload_n 1, 1) := by decide +kernel
theorem d_T_visitAt_71 : decode b_T_visitAt 71 = .ok (.invokevirtual 95, 3) := by decide +kernel
theorem d_T_visitAt_74 : decode b_T_visitAt 74 = .ok (.goto 9, 3) := by decide +kernel
theorem d_T_visitAt_77 : decode b_T_visitAt 77 = .ok (.aload_n 0, 1) := by decide +kernel
theorem d_T_visitAt_78 : decode b_T_visitAt 78 = .ok (.getfield 44, 3) := by decide +kernel
theorem d_T_visitAt_81 : decode b_T_visitAt 81 = .ok (.iload_n 2, 1) := by decide +kernel
theorem d_T_visitAt_82 : decode b_T_visitAt 82 = .ok (.iaload, 1) := by decide +kernel
theorem d_T_visitAt_83 : decode b_T_visitAt 83 = .ok (.iastore, 1) := by decide +kernel
theorem d_T_visitAt_84 : decode b_T_visitAt 84 = .ok (.aload_n 0, 1) := by decide +kernel
theorem d_T_visitAt_85 : decode b_T_visitAt 85 = .ok (.getfield 7, 3) := by decide +kernel
theorem d_T_visitAt_88 : decode b_T_visitAt 88 = .ok (.iload_n 1, 1) := by decide +kernel
theorem d_T_visitAt_89 : decode b_T_visitAt 89 = .ok (.iaload, 1) := by decide +kernel
theorem d_T_visitAt_90 : decode b_T_visitAt 90 = .ok (.aload_n 0, 1) := by decide +kernel
theorem d_T_visitAt_91 : decode b_T_visitAt 91 = .ok (.getfield 38, 3) := by decide +kernel
theorem d_T_visitAt_94 : decode b_T_visitAt 94 = .ok (.iload_n 2, 1) := by decide +kernel
theorem d_T_visitAt_95 : decode b_T_visitAt 95 = .ok (.iaload, 1) := by decide +kernel
theorem d_T_visitAt_96 : decode b_T_visitAt 96 = .ok (.ishr, 1) := by decide +kernel
theorem d_T_visitAt_97 : decode b_T_visitAt 97 = .ok (.iconst 1, 1) := by decide +kernel
theorem d_T_visitAt_98 : decode b_T_visitAt 98 = .ok (.iand, 1) := by decide +kernel
theorem d_T_visitAt_99 : decode b_T_visitAt 99 = .ok (.iconst 1, 1) := by decide +kernel
theorem d_T_visitAt_100 : decode b_T_visitAt 100 = .ok (.if_icmp .ne 7, 3) := by decide +kernel
theorem d_T_visitAt_103 : decode b_T_visitAt 103 = .ok (.iconst 1, 1) := by decide +kernel
theorem d_T_visitAt_104 : decode b_T_visitAt 104 = .ok (.goto 4, 3) := by decide +kernel
theorem d_T_visitAt_107 : decode b_T_visitAt 107 = .ok (.iconst 0, 1) := by decide +kernel
theorem d_T_visitAt_108 : decode b_T_visitAt 108 = .ok (.istore 5, 2) := by decide +kernel
theorem d_T_visitAt_110 : decode b_T_visitAt 110 = .ok (.aload_n 0, 1) := by decide +kernel
theorem d_T_visitAt_111 : decode b_T_visitAt 111 = .ok (.iload_n 2, 1) := by decide +kernel
theorem d_T_visitAt_112 : decode b_T_visitAt 112 = .ok (.iload_n 1, 1) := by decide +kernel
theorem d_T_visitAt_113 : decode b_T_visitAt 113 = .ok (.invokevirtual 112, 3) := by decide +kernel
theorem d_T_visitAt_116 : decode b_T_visitAt 116 = .ok (.ifCond .eq 7, 3) := by decide +kernel
theorem d_T_visitAt_119 : decode b_T_visitAt 119 = .ok (.iconst 1, 1) := by decide +kernel
theorem d_T_visitAt_120 : decode b_T_visitAt 120 = .ok (.goto 27, 3) := by decide +kernel
theorem d_T_visitAt_123 : decode b_T_visitAt 123 = .ok (.aload_n 0, 1) := by decide +kernel
theorem d_T_visitAt_124 : decode b_T_visitAt 124 = .ok (.getfield 13, 3) := by decide +kernel
theorem d_T_visitAt_127 : decode b_T_visitAt 127 = .ok (.iload_n 1, 1) := by decide +kernel
theorem d_T_visitAt_128 : decode b_T_visitAt 128 = .ok (.iaload, 1) := by decide +kernel
theorem d_T_visitAt_129 : decode b_T_visitAt 129 = .ok (.iload_n 3, 1) := by decide +kernel
theorem d_T_visitAt_130 : decode b_T_visitAt 130 = .ok (.if_icmp .ge 7, 3) := by decide +kernel
theorem d_T_visitAt_133 : decode b_T_visitAt 133 = .ok (.iconst 2, 1) := by decide +kernel
theorem d_T_visitAt_134 : decode b_T_visitAt 134 = .ok (.goto 13, 3) := by decide +kernel
theorem d_T_visitAt_137 : decode b_T_visitAt 137 = .ok (.iload 5, 2) := by decide +kernel
theorem d_T_visitAt_139 : decode b_T_visitAt 139 = .ok (.ifCond .eq 7, 3) := by decide +kernel
theorem d_T_visitAt_142 : decode b_T_visitAt 142 = .ok (.iconst 0, 1) := by decide +kernel
theorem d_T_visitAt_143 : decode b_T_visitAt 143 = .ok (.goto 4, 3) := by decide +kernel
theorem d_T_visitAt_146 : decode b_T_visitAt 146 = .ok (.iconst 3, 1) := by decide +kernel
theorem d_T_visitAt_147 : decode b_T_visitAt 147 = .ok (.istore 6, 2) := by decide +kernel
theorem d_T_visitAt_149 : decode b_T_visitAt 149 = .ok (.aload_n 0, 1) := by decide +kernel
theorem d_T_visitAt_150 : decode b_T_visitAt 150 = .ok (.iload_n 2, 1) := by decide +kernel
theorem d_T_visitAt_151 : decode b_T_visitAt 151 = .ok (.invokevirtual 115, 3) := by decide +kernel
theorem d_T_visitAt_154 : decode b_T_visitAt 154 = .ok (.istore 7, 2) := by decide +kernel
theorem d_T_visitAt_156 : decode b_T_visitAt 156 = .ok (.iload 7, 2) := by decide +kernel
theorem d_T_visitAt_158 : decode b_T_visitAt 158 = .ok (.istore 8, 2) := by decide +kernel
theorem d_T_visitAt_160 : decode b_T_visitAt 160 = .ok (.iload 8, 2) := by decide +kernel
theorem d_T_visitAt_162 : decode b_T_visitAt 162 = .ok (.iconst 1, 1) := by decide +kernel
theorem d_T_visitAt_163 : decode b_T_visitAt 163 = .ok (.if_icmp .le 27, 3) := by decide +kernel
theorem d_T_visitAt_166 : decode b_T_visitAt 166 = .ok (.aload_n 0, 1) := by decide +kernel
theorem d_T_visitAt_167 : decode b_T_visitAt 167 = .ok (.getfield 34, 3) := by decide +kernel
theorem d_T_visitAt_170 : decode b_T_visitAt 170 = .ok (.sipush 3001, 3) := by decide +kernel
theorem d_T_visitAt_173 : decode b_T_visitAt 173 = .ok (.iload_n 2, 1) := by decide +kernel
theorem d_T_visitAt_174 : decode b_T_visitAt 174 = .ok (.imul, 1) := by decide +kernel
theorem d_T_visitAt_175 : decode b_T_visitAt 175 = .ok (.iload 8, 2) := by decide +kernel
theorem d_T_visitAt_177 : decode b_T_visitAt 177 = .ok (.iadd, 1) := by decide +kernel
theorem d_T_visitAt_178 : decode b_T_visitAt 178 = .ok (.iconst 1, 1) := by decide +kernel
theorem d_T_visitAt_179 : decode b_T_visitAt 179 = .ok (.isub, 1) := by decide +kernel
theorem d_T_visitAt_180 : decode b_T_visitAt 180 = .ok (.baload, 1) := by decide +kernel
theorem d_T_visitAt_181 : decode b_T_visitAt 181 = .ok (.ifCond .eq 9, 3) := by decide +kernel
theorem d_T_visitAt_184 : decode b_T_visitAt 184 = .ok (.iinc 8 (-1), 3) := by decide +kernel
theorem d_T_visitAt_187 : decode b_T_visitAt 187 = .ok (.goto (-27), 3) := by decide +kernel
theorem d_T_visitAt_190 : decode b_T_visitAt 190 = .ok (.iload 7, 2) := by decide +kernel
theorem d_T_visitAt_192 : decode b_T_visitAt 192 = .ok (.ifCond .le 17, 3) := by decide +kernel
theorem d_T_visitAt_195 : decode b_T_visitAt 195 = .ok (.aload_n 0, 1) := by decide +kernel
theorem d_T_visitAt_196 : decode b_T_visitAt 196 = .ok (.iload_n 1, 1) := by decide +kernel
theorem d_T_visitAt_197 : decode b_T_visitAt 197 = .ok (.iload 8, 2) := by decide +kernel
theorem d_T_visitAt_199 : decode b_T_visitAt 199 = .ok (.iload 7, 2) := by decide +kernel
theorem d_T_visitAt_201 : decode b_T_visitAt 201 = .ok (.aload_n 0, 1) := by decide +kernel
theorem d_T_visitAt_202 : decode b_T_visitAt 202 = .ok (.iload_n 1, 1) := by decide +kernel
theorem d_T_visitAt_203 : decode b_T_visitAt 203 = .ok (.invokevirtual 95, 3) := by decide +kernel
theorem d_T_visitAt_206 : decode b_T_visitAt 206 = .ok (.invokevirtual 106, 3) := by decide +kernel
theorem d_T_visitAt_209 : decode b_T_visitAt 209 = .ok (.iload 6, 2) := by decide +kernel
theorem d_T_visitAt_211 : decode b_T_visitAt 211 = .ok (.ireturn, 1) := by decide +kernel
theorem d_T_revokedAt_0 : decode b_T_revokedAt 0 = .ok (.aload_n 0, 1) := by decide +kernel
theorem d_T_revokedAt_1 : decode b_T_revokedAt 1 = .ok (.getfield 27, 3) := by decide +kernel
theorem d_T_revokedAt_4 : decode b_T_revokedAt 4 = .ok (.iload_n 2, 1) := by decide +kernel
theorem d_T_revokedAt_5 : decode b_T_revokedAt 5 = .ok (.iaload, 1) := by decide +kernel
theorem d_T_revokedAt_6 : decode b_T_revokedAt 6 = .ok (.ifCond .le 27, 3) := by decide +kernel
theorem d_T_revokedAt_9 : decode b_T_revokedAt 9 = .ok (.aload_n 0, 1) := by decide +kernel
theorem d_T_revokedAt_10 : decode b_T_revokedAt 10 = .ok (.getfield 34, 3) := by decide +kernel
theorem d_T_revokedAt_13 : decode b_T_revokedAt 13 = .ok (.sipush 3001, 3) := by decide +kernel
theorem d_T_revokedAt_16 : decode b_T_revokedAt 16 = .ok (.iload_n 1, 1) := by decide +kernel
theorem d_T_revokedAt_17 : decode b_T_revokedAt 17 = .ok (.imul, 1) := by decide +kernel
theorem d_T_revokedAt_18 : decode b_T_revokedAt 18 = .ok (.aload_n 0, 1) := by decide +kernel
theorem d_T_revokedAt_19 : decode b_T_revokedAt 19 = .ok (.getfield 27, 3) := by decide +kernel
theorem d_T_revokedAt_22 : decode b_T_revokedAt 22 = .ok (.iload_n 2, 1) := by decide +kernel
theorem d_T_revokedAt_23 : decode b_T_revokedAt 23 = .ok (.iaload, 1) := by decide +kernel
theorem d_T_revokedAt_24 : decode b_T_revokedAt 24 = .ok (.iadd, 1) := by decide +kernel
theorem d_T_revokedAt_25 : decode b_T_revokedAt 25 = .ok (.baload, 1) := by decide +kernel
theorem d_T_revokedAt_26 : decode b_T_revokedAt 26 = .ok (.ifCond .eq 7, 3) := by decide +kernel
theorem d_T_revokedAt_29 : decode b_T_revokedAt 29 = .ok (.iconst 1, 1) := by decide +kernel
theorem d_T_revokedAt_30 : decode b_T_revokedAt 30 = .ok (.goto 4, 3) := by decide +kernel
theorem d_T_revokedAt_33 : decode b_T_revokedAt 33 = .ok (.iconst 0, 1) := by decide +kernel
theorem d_T_revokedAt_34 : decode b_T_revokedAt 34 = .ok (.ireturn, 1) := by decide +kernel
theorem d_T_greatest_0 : decode b_T_greatest 0 = .ok (.sipush 3000, 3) := by decide +kernel
theorem d_T_greatest_3 : decode b_T_greatest 3 = .ok (.istore_n 2, 1) := by decide +kernel
theorem d_T_greatest_4 : decode b_T_greatest 4 = .ok (.iload_n 2, 1) := by decide +kernel
theorem d_T_greatest_5 : decode b_T_greatest 5 = .ok (.ifCond .le 24, 3) := by decide +kernel
theorem d_T_greatest_8 : decode b_T_greatest 8 = .ok (.aload_n 0, 1) := by decide +kernel
theorem d_T_greatest_9 : decode b_T_greatest 9 = .ok (.getfield 34, 3) := by decide +kernel
theorem d_T_greatest_12 : decode b_T_greatest 12 = .ok (.sipush 3001, 3) := by decide +kernel
theorem d_T_greatest_15 : decode b_T_greatest 15 = .ok (.iload_n 1, 1) := by decide +kernel
theorem d_T_greatest_16 : decode b_T_greatest 16 = .ok (.imul, 1) := by decide +kernel
theorem d_T_greatest_17 : decode b_T_greatest 17 = .ok (.iload_n 2, 1) := by decide +kernel
theorem d_T_greatest_18 : decode b_T_greatest 18 = .ok (.iadd, 1) := by decide +kernel
theorem d_T_greatest_19 : decode b_T_greatest 19 = .ok (.baload, 1) := by decide +kernel
theorem d_T_greatest_20 : decode b_T_greatest 20 = .ok (.ifCond .ne 9, 3) := by decide +kernel
theorem d_T_greatest_23 : decode b_T_greatest 23 = .ok (.iinc 2 (-1), 3) := by decide +kernel
theorem d_T_greatest_26 : decode b_T_greatest 26 = .ok (.goto (-22), 3) := by decide +kernel
theorem d_T_greatest_29 : decode b_T_greatest 29 = .ok (.iload_n 2, 1) := by decide +kernel
theorem d_T_greatest_30 : decode b_T_greatest 30 = .ok (.ireturn, 1) := by decide +kernel
theorem d_T_tear_0 : decode b_T_tear 0 = .ok (.aload_n 0, 1) := by decide +kernel
theorem d_T_tear_1 : decode b_T_tear 1 = .ok (.aload_n 0, 1) := by decide +kernel
theorem d_T_tear_2 : decode b_T_tear 2 = .ok (.iload_n 1, 1) := by decide +kernel
theorem d_T_tear_3 : decode b_T_tear 3 = .ok (.invokevirtual 66, 3) := by decide +kernel
theorem d_T_tear_6 : decode b_T_tear 6 = .ok (.ifCond .eq 7, 3) := by decide +kernel
theorem d_T_tear_9 : decode b_T_tear 9 = .ok (.iconst 1, 1) := by decide +kernel
theorem d_T_tear_10 : decode b_T_tear 10 = .ok (.goto 18, 3) := by decide +kernel
theorem d_T_tear_13 : decode b_T_tear 13 = .ok (.iload_n 2, 1) := by decide +kernel
theorem d_T_tear_14 : decode b_T_tear 14 = .ok (.ifCond .lt 9, 3) := by decide +kernel
theorem d_T_tear_17 : decode b_T_tear 17 = .ok (.iload_n 2, 1) := by decide +kernel
theorem d_T_tear_18 : decode b_T_tear 18 = .ok (.bipush 50, 2) := by decide +kernel
theorem d_T_tear_20 : decode b_T_tear 20 = .ok (.if_icmp .le 7, 3) := by decide +kernel
theorem d_T_tear_23 : decode b_T_tear 23 = .ok (.iconst 2, 1) := by decide +kernel
theorem d_T_tear_24 : decode b_T_tear 24 = .ok (.goto 4, 3) := by decide +kernel
theorem d_T_tear_27 : decode b_T_tear 27 = .ok (.iconst 0, 1) := by decide +kernel
theorem d_T_tear_28 : decode b_T_tear 28 = .ok (.putfield 59, 3) := by decide +kernel
theorem d_T_tear_31 : decode b_T_tear 31 = .ok (.aload_n 0, 1) := by decide +kernel
theorem d_T_tear_32 : decode b_T_tear 32 = .ok (.getfield 59, 3) := by decide +kernel
theorem d_T_tear_35 : decode b_T_tear 35 = .ok (.ifCond .ne 10, 3) := by decide +kernel
theorem d_T_tear_38 : decode b_T_tear 38 = .ok (.aload_n 0, 1) := by decide +kernel
theorem d_T_tear_39 : decode b_T_tear 39 = .ok (.getfield 16, 3) := by decide +kernel
theorem d_T_tear_42 : decode b_T_tear 42 = .ok (.iload_n 1, 1) := by decide +kernel
theorem d_T_tear_43 : decode b_T_tear 43 = .ok (.iload_n 2, 1) := by decide +kernel
theorem d_T_tear_44 : decode b_T_tear 44 = .ok (.iastore, 1) := by decide +kernel
theorem d_T_tear_45 : decode b_T_tear 45 = .ok (.return_, 1) := by decide +kernel
theorem d_T_written_0 : decode b_T_written 0 = .ok (.aload_n 0, 1) := by decide +kernel
theorem d_T_written_1 : decode b_T_written 1 = .ok (.aload_n 0, 1) := by decide +kernel
theorem d_T_written_2 : decode b_T_written 2 = .ok (.iload_n 1, 1) := by decide +kernel
theorem d_T_written_3 : decode b_T_written 3 = .ok (.invokevirtual 66, 3) := by decide +kernel
theorem d_T_written_6 : decode b_T_written 6 = .ok (.ifCond .eq 7, 3) := by decide +kernel
theorem d_T_written_9 : decode b_T_written 9 = .ok (.iconst 1, 1) := by decide +kernel
theorem d_T_written_10 : decode b_T_written 10 = .ok (.goto 4, 3) := by decide +kernel
theorem d_T_written_13 : decode b_T_written 13 = .ok (.iconst 0, 1) := by decide +kernel
theorem d_T_written_14 : decode b_T_written 14 = .ok (.putfield 59, 3) := by decide +kernel
theorem d_T_written_17 : decode b_T_written 17 = .ok (.aload_n 0, 1) := by decide +kernel
theorem d_T_written_18 : decode b_T_written 18 = .ok (.getfield 59, 3) := by decide +kernel
theorem d_T_written_21 : decode b_T_written 21 = .ok (.ifCond .le 7, 3) := by decide +kernel
theorem d_T_written_24 : decode b_T_written 24 = .ok (.iconst 0, 1) := by decide +kernel
theorem d_T_written_25 : decode b_T_written 25 = .ok (.goto 9, 3) := by decide +kernel
theorem d_T_written_28 : decode b_T_written 28 = .ok (.aload_n 0, 1) := by decide +kernel
theorem d_T_written_29 : decode b_T_written 29 = .ok (.getfield 19, 3) := by decide +kernel
theorem d_T_written_32 : decode b_T_written 32 = .ok (.iload_n 1, 1) := by decide +kernel
theorem d_T_written_33 : decode b_T_written 33 = .ok (.iaload, 1) := by decide +kernel
theorem d_T_written_34 : decode b_T_written 34 = .ok (.ireturn, 1) := by decide +kernel
theorem d_T_word_0 : decode b_T_word 0 = .ok (.aload_n 0, 1) := by decide +kernel
theorem d_T_word_1 : decode b_T_word 1 = .ok (.aload_n 0, 1) := by decide +kernel
theorem d_T_word_2 : decode b_T_word 2 = .ok (.iload_n 1, 1) := by decide +kernel
theorem d_T_word_3 : decode b_T_word 3 = .ok (.invokevirtual 66, 3) := by decide +kernel
theorem d_T_word_6 : decode b_T_word 6 = .ok (.ifCond .ne 22, 3) := by decide +kernel
theorem d_T_word_9 : decode b_T_word 9 = .ok (.iload_n 2, 1) := by decide +kernel
theorem d_T_word_10 : decode b_T_word 10 = .ok (.ifCond .lt 18, 3) := by decide +kernel
theorem d_T_word_13 : decode b_T_word 13 = .ok (.iload_n 2, 1) := by decide +kernel
theorem d_T_word_14 : decode b_T_word 14 = .ok (.iconst 1, 1) := by decide +kernel
theorem d_T_word_15 : decode b_T_word 15 = .ok (.if_icmp .gt 13, 3) := by decide +kernel
theorem d_T_word_18 : decode b_T_word 18 = .ok (.iload_n 3, 1) := by decide +kernel
theorem d_T_word_19 : decode b_T_word 19 = .ok (.ifCond .lt 9, 3) := by decide +kernel
theorem d_T_word_22 : decode b_T_word 22 = .ok (.iload_n 3, 1) := by decide +kernel
theorem d_T_word_23 : decode b_T_word 23 = .ok (.bipush 43, 2) := by decide +kernel
theorem d_T_word_25 : decode b_T_word 25 = .ok (.if_icmp .le 7, 3) := by decide +kernel
theorem d_T_word_28 : decode b_T_word 28 = .ok (.iconst 1, 1) := by decide +kernel
theorem d_T_word_29 : decode b_T_word 29 = .ok (.goto 4, 3) := by decide +kernel
theorem d_T_word_32 : decode b_T_word 32 = .ok (.iconst 0, 1) := by decide +kernel
theorem d_T_word_33 : decode b_T_word 33 = .ok (.putfield 59, 3) := by decide +kernel
theorem d_T_word_36 : decode b_T_word 36 = .ok (.aload_n 0, 1) := by decide +kernel
theorem d_T_word_37 : decode b_T_word 37 = .ok (.getfield 59, 3) := by decide +kernel
theorem d_T_word_40 : decode b_T_word 40 = .ok (.ifCond .le 7, 3) := by decide +kernel
theorem d_T_word_43 : decode b_T_word 43 = .ok (.iconst 0, 1) := by decide +kernel
theorem d_T_word_44 : decode b_T_word 44 = .ok (.goto 10, 3) := by decide +kernel
theorem d_T_word_47 : decode b_T_word 47 = .ok (.aload_n 0, 1) := by decide +kernel
theorem d_T_word_48 : decode b_T_word 48 = .ok (.iload_n 1, 1) := by decide +kernel
theorem d_T_word_49 : decode b_T_word 49 = .ok (.iload_n 2, 1) := by decide +kernel
theorem d_T_word_50 : decode b_T_word 50 = .ok (.iload_n 3, 1) := by decide +kernel
theorem d_T_word_51 : decode b_T_word 51 = .ok (.invokevirtual 73, 3) := by decide +kernel
theorem d_T_word_54 : decode b_T_word 54 = .ok (.ireturn, 1) := by decide +kernel
theorem d_T_carries_0 : decode b_T_carries 0 = .ok (.aload_n 0, 1) := by decide +kernel
theorem d_T_carries_1 : decode b_T_carries 1 = .ok (.aload_n 0, 1) := by decide +kernel
theorem d_T_carries_2 : decode b_T_carries 2 = .ok (.iload_n 1, 1) := by decide +kernel
theorem d_T_carries_3 : decode b_T_carries 3 = .ok (.invokevirtual 66, 3) := by decide +kernel
theorem d_T_carries_6 : decode b_T_carries 6 = .ok (.ifCond .eq 7, 3) := by decide +kernel
theorem d_T_carries_9 : decode b_T_carries 9 = .ok (.iconst 1, 1) := by decide +kernel
theorem d_T_carries_10 : decode b_T_carries 10 = .ok (.goto 17, 3) := by decide +kernel
theorem d_T_carries_13 : decode b_T_carries 13 = .ok (.iload_n 2, 1) := by decide +kernel
theorem d_T_carries_14 : decode b_T_carries 14 = .ok (.ifCond .lt 8, 3) := by decide +kernel
theorem d_T_carries_17 : decode b_T_carries 17 = .ok (.iload_n 2, 1) := by decide +kernel
theorem d_T_carries_18 : decode b_T_carries 18 = .ok (.iconst 3, 1) := by decide +kernel
theorem d_T_carries_19 : decode b_T_carries 19 = .ok (.if_icmp .le 7, 3) := by decide +kernel
theorem d_T_carries_22 : decode b_T_carries 22 = .ok (.iconst 2, 1) := by decide +kernel
theorem d_T_carries_23 : decode b_T_carries 23 = .ok (.goto 4, 3) := by decide +kernel
theorem d_T_carries_26 : decode b_T_carries 26 = .ok (.iconst 0, 1) := by decide +kernel
theorem d_T_carries_27 : decode b_T_carries 27 = .ok (.putfield 59, 3) := by decide +kernel
theorem d_T_carries_30 : decode b_T_carries 30 = .ok (.aload_n 0, 1) := by decide +kernel
theorem d_T_carries_31 : decode b_T_carries 31 = .ok (.getfield 59, 3) := by decide +kernel
theorem d_T_carries_34 : decode b_T_carries 34 = .ok (.ifCond .le 5, 3) := by decide +kernel
theorem d_T_carries_37 : decode b_T_carries 37 = .ok (.iconst 0, 1) := by decide +kernel
theorem d_T_carries_38 : decode b_T_carries 38 = .ok (.ireturn, 1) := by decide +kernel
theorem d_T_carries_39 : decode b_T_carries 39 = .ok (.iload_n 2, 1) := by decide +kernel
theorem d_T_carries_40 : decode b_T_carries 40 = .ok (.ifCond .ne 11, 3) := by decide +kernel
theorem d_T_carries_43 : decode b_T_carries 43 = .ok (.aload_n 0, 1) := by decide +kernel
theorem d_T_carries_44 : decode b_T_carries 44 = .ok (.iload_n 1, 1) := by decide +kernel
theorem d_T_carries_45 : decode b_T_carries 45 = .ok (.invokevirtual 85, 3) := by decide +kernel
theorem d_T_carries_48 : decode b_T_carries 48 = .ok (.goto 34, 3) := by decide +kernel
theorem d_T_carries_51 : decode b_T_carries 51 = .ok (.iload_n 2, 1) := by decide +kernel
theorem d_T_carries_52 : decode b_T_carries 52 = .ok (.iconst 1, 1) := by decide +kernel
theorem d_T_carries_53 : decode b_T_carries 53 = .ok (.if_icmp .ne 11, 3) := by decide +kernel
theorem d_T_carries_56 : decode b_T_carries 56 = .ok (.aload_n 0, 1) := by decide +kernel
theorem d_T_carries_57 : decode b_T_carries 57 = .ok (.iload_n 1, 1) := by decide +kernel
theorem d_T_carries_58 : decode b_T_carries 58 = .ok (.invokevirtual 89, 3) := by decide +kernel
theorem d_T_carries_61 : decode b_T_carries 61 = .ok (.goto 21, 3) := by decide +kernel
theorem d_T_carries_64 : decode b_T_carries 64 = .ok (.iload_n 2, 1) := by decide +kernel
theorem d_T_carries_65 : decode b_T_carries 65 = .ok (.iconst 2, 1) := by decide +kernel
theorem d_T_carries_66 : decode b_T_carries 66 = .ok (.if_icmp .ne 11, 3) := by decide +kernel
theorem d_T_carries_69 : decode b_T_carries 69 = .ok (.aload_n 0, 1) := by decide +kernel
theorem d_T_carries_70 : decode b_T_carries 70 = .ok (.iload_n 1, 1) := by decide +kernel
theorem d_T_carries_71 : decode b_T_carries 71 = .ok (.invokevirtual 92, 3) := by decide +kernel
theorem d_T_carries_74 : decode b_T_carries 74 = .ok (.goto 8, 3) := by decide +kernel
theorem d_T_carries_77 : decode b_T_carries 77 = .ok (.aload_n 0, 1) := by decide +kernel
theorem d_T_carries_78 : decode b_T_carries 78 = .ok (.iload_n 1, 1) := by decide +kernel
theorem d_T_carries_79 : decode b_T_carries 79 = .ok (.invokevirtual 95, 3) := by decide +kernel
theorem d_T_carries_82 : decode b_T_carries 82 = .ok (.ireturn, 1) := by decide +kernel
theorem d_T_memory_0 : decode b_T_memory 0 = .ok (.aload_n 0, 1) := by decide +kernel
theorem d_T_memory_1 : decode b_T_memory 1 = .ok (.aload_n 0, 1) := by decide +kernel
theorem d_T_memory_2 : decode b_T_memory 2 = .ok (.iload_n 1, 1) := by decide +kernel
theorem d_T_memory_3 : decode b_T_memory 3 = .ok (.invokevirtual 66, 3) := by decide +kernel
theorem d_T_memory_6 : decode b_T_memory 6 = .ok (.ifCond .eq 7, 3) := by decide +kernel
theorem d_T_memory_9 : decode b_T_memory 9 = .ok (.iconst 1, 1) := by decide +kernel
theorem d_T_memory_10 : decode b_T_memory 10 = .ok (.goto 21, 3) := by decide +kernel
theorem d_T_memory_13 : decode b_T_memory 13 = .ok (.iload_n 2, 1) := by decide +kernel
theorem d_T_memory_14 : decode b_T_memory 14 = .ok (.ifCond .lt 12, 3) := by decide +kernel
theorem d_T_memory_17 : decode b_T_memory 17 = .ok (.iload_n 2, 1) := by decide +kernel
theorem d_T_memory_18 : decode b_T_memory 18 = .ok (.aload_n 0, 1) := by decide +kernel
theorem d_T_memory_19 : decode b_T_memory 19 = .ok (.iload_n 1, 1) := by decide +kernel
theorem d_T_memory_20 : decode b_T_memory 20 = .ok (.invokevirtual 89, 3) := by decide +kernel
theorem d_T_memory_23 : decode b_T_memory 23 = .ok (.if_icmp .lt 7, 3) := by decide +kernel
theorem d_T_memory_26 : decode b_T_memory 26 = .ok (.iconst 1, 1) := by decide +kernel
theorem d_T_memory_27 : decode b_T_memory 27 = .ok (.goto 4, 3) := by decide +kernel
theorem d_T_memory_30 : decode b_T_memory 30 = .ok (.iconst 0, 1) := by decide +kernel
theorem d_T_memory_31 : decode b_T_memory 31 = .ok (.putfield 59, 3) := by decide +kernel
theorem d_T_memory_34 : decode b_T_memory 34 = .ok (.aload_n 0, 1) := by decide +kernel
theorem d_T_memory_35 : decode b_T_memory 35 = .ok (.getfield 59, 3) := by decide +kernel
theorem d_T_memory_38 : decode b_T_memory 38 = .ok (.ifCond .le 7, 3) := by decide +kernel
theorem d_T_memory_41 : decode b_T_memory 41 = .ok (.iconst 0, 1) := by decide +kernel
theorem d_T_memory_42 : decode b_T_memory 42 = .ok (.goto 16, 3) := by decide +kernel
theorem d_T_memory_45 : decode b_T_memory 45 = .ok (.aload_n 0, 1) := by decide +kernel
theorem d_T_memory_46 : decode b_T_memory 46 = .ok (.iload_n 1, 1) := by decide +kernel
theorem d_T_memory_47 : decode b_T_memory 47 = .ok (.aload_n 0, 1) := by decide +kernel
theorem d_T_memory_48 : decode b_T_memory 48 = .ok (.iload_n 1, 1) := by decide +kernel
theorem d_T_memory_49 : decode b_T_memory 49 = .ok (.invokevirtual 85, 3) := by decide +kernel
theorem d_T_memory_52 : decode b_T_memory 52 = .ok (.iconst 3, 1) := by decide +kernel
theorem d_T_memory_53 : decode b_T_memory 53 = .ok (.iload_n 2, 1) := by decide +kernel
theorem d_T_memory_54 : decode b_T_memory 54 = .ok (.iadd, 1) := by decide +kernel
theorem d_T_memory_55 : decode b_T_memory 55 = .ok (.invokevirtual 73, 3) := by decide +kernel
theorem d_T_memory_58 : decode b_T_memory 58 = .ok (.ireturn, 1) := by decide +kernel
theorem d_T_about_0 : decode b_T_about 0 = .ok (.aload_n 0, 1) := by decide +kernel
theorem d_T_about_1 : decode b_T_about 1 = .ok (.iload_n 1, 1) := by decide +kernel
theorem d_T_about_2 : decode b_T_about 2 = .ok (.invokestatic 109, 3) := by decide +kernel
theorem d_T_about_5 : decode b_T_about 5 = .ok (.ifCond .eq 7, 3) := by decide +kernel
theorem d_T_about_8 : decode b_T_about 8 = .ok (.iconst 1, 1) := by decide +kernel
theorem d_T_about_9 : decode b_T_about 9 = .ok (.goto 17, 3) := by decide +kernel
theorem d_T_about_12 : decode b_T_about 12 = .ok (.iload_n 2, 1) := by decide +kernel
theorem d_T_about_13 : decode b_T_about 13 = .ok (.ifCond .lt 8, 3) := by decide +kernel
theorem d_T_about_16 : decode b_T_about 16 = .ok (.iload_n 2, 1) := by decide +kernel
theorem d_T_about_17 : decode b_T_about 17 = .ok (.iconst 4, 1) := by decide +kernel
theorem d_T_about_18 : decode b_T_about 18 = .ok (.if_icmp .le 7, 3) := by decide +kernel
theorem d_T_about_21 : decode b_T_about 21 = .ok (.iconst 2, 1) := by decide +kernel
theorem d_T_about_22 : decode b_T_about 22 = .ok (.goto 4, 3) := by decide +kernel
theorem d_T_about_25 : decode b_T_about 25 = .ok (.iconst 0, 1) := by decide +kernel
theorem d_T_about_26 : decode b_T_about 26 = .ok (.putfield 59, 3) := by decide +kernel
theorem d_T_about_29 : decode b_T_about 29 = .ok (.aload_n 0, 1) := by decide +kernel
theorem d_T_about_30 : decode b_T_about 30 = .ok (.getfield 59, 3) := by decide +kernel
theorem d_T_about_33 : decode b_T_about 33 = .ok (.ifCond .le 5, 3) := by decide +kernel
theorem d_T_about_36 : decode b_T_about 36 = .ok (.iconst 0, 1) := by decide +kernel
theorem d_T_about_37 : decode b_T_about 37 = .ok (.ireturn, 1) := by decide +kernel
theorem d_T_about_38 : decode b_T_about 38 = .ok (.aload_n 0, 1) := by decide +kernel
theorem d_T_about_39 : decode b_T_about 39 = .ok (.getfield 44, 3) := by decide +kernel
theorem d_T_about_42 : decode b_T_about 42 = .ok (.iload_n 1, 1) := by decide +kernel
theorem d_T_about_43 : decode b_T_about 43 = .ok (.iaload, 1) := by decide +kernel
theorem d_T_about_44 : decode b_T_about 44 = .ok (.aload_n 0, 1) := by decide +kernel
theorem d_T_about_45 : decode b_T_about 45 = .ok (.iload_n 1, 1) := by decide +kernel
theorem d_T_about_46 : decode b_T_about 46 = .ok (.invokevirtual 121, 3) := by decide +kernel
theorem d_T_about_49 : decode b_T_about 49 = .ok (.isub, 1) := by decide +kernel
theorem d_T_about_50 : decode b_T_about 50 = .ok (.istore_n 3, 1) := by decide +kernel
theorem d_T_about_51 : decode b_T_about 51 = .ok (.aload_n 0, 1) := by decide +kernel
theorem d_T_about_52 : decode b_T_about 52 = .ok (.iload_n 1, 1) := by decide +kernel
theorem d_T_about_53 : decode b_T_about 53 = .ok (.invokevirtual 115, 3) := by decide +kernel
theorem d_T_about_56 : decode b_T_about 56 = .ok (.istore 4, 2) := by decide +kernel
theorem d_T_about_58 : decode b_T_about 58 = .ok (.iload_n 2, 1) := by decide +kernel
theorem d_T_about_59 : decode b_T_about 59 = .ok (.ifCond .ne 11, 3) := by decide +kernel
theorem d_T_about_62 : decode b_T_about 62 = .ok (.aload_n 0, 1) := by decide +kernel
theorem d_T_about_63 : decode b_T_about 63 = .ok (.iload_n 1, 1) := by decide +kernel
theorem d_T_about_64 : decode b_T_about 64 = .ok (.invokevirtual 121, 3) := by decide +kernel
theorem d_T_about_67 : decode b_T_about 67 = .ok (.goto 68, 3) := by decide +kernel
theorem d_T_about_70 : decode b_T_about 70 = .ok (.iload_n 2, 1) := by decide +kernel
theorem d_T_about_71 : decode b_T_about 71 = .ok (.iconst 1, 1) := by decide +kernel
theorem d_T_about_72 : decode b_T_about 72 = .ok (.if_icmp .ne 28, 3) := by decide +kernel
theorem d_T_about_75 : decode b_T_about 75 = .ok (.iload 4, 2) := by decide +kernel
theorem d_T_about_77 : decode b_T_about 77 = .ok (.aload_n 0, 1) := by decide +kernel
theorem d_T_about_78 : decode b_T_about 78 = .ok (.getfield 44, 3) := by decide +kernel
theorem d_T_about_81 : decode b_T_about 81 = .ok (.iload_n 1, 1) := by decide +kernel
theorem d_T_about_82 : decode b_T_about 82 = .ok (.iaload, 1) := by decide +kernel
theorem d_T_about_83 : decode b_T_about 83 = .ok (.if_icmp .le 8, 3) := by decide +kernel
theorem d_T_about_86 : decode b_T_about 86 = .ok (.iload 4, 2) := by decide +kernel
theorem d_T_about_88 : decode b_T_about 88 = .ok (.goto 47, 3) := by decide +kernel
theorem d_T_about_91 : decode b_T_about 91 = .ok (.aload_n 0, 1) := by decide +kernel
theorem d_T_about_92 : decode b_T_about 92 = .ok (.getfield 44, 3) := by decide +kernel
theorem d_T_about_95 : decode b_T_about 95 = .ok (.iload_n 1, 1) := by decide +kernel
theorem d_T_about_96 : decode b_T_about 96 = .ok (.iaload, 1) := by decide +kernel
theorem d_T_about_97 : decode b_T_about 97 = .ok (.goto 38, 3) := by decide +kernel
theorem d_T_about_100 : decode b_T_about 100 = .ok (.iload_n 2, 1) := by decide +kernel
theorem d_T_about_101 : decode b_T_about 101 = .ok (.iconst 2, 1) := by decide +kernel
theorem d_T_about_102 : decode b_T_about 102 = .ok (.if_icmp .ne 15, 3) := by decide +kernel
theorem d_T_about_105 : decode b_T_about 105 = .ok (.iload_n 3, 1) := by decide +kernel
theorem d_T_about_106 : decode b_T_about 106 = .ok (.ifCond .le 7, 3) := by decide +kernel
theorem d_T_about_109 : decode b_T_about 109 = .ok (.iload_n 3, 1) := by decide +kernel
theorem d_T_about_110 : decode b_T_about 110 = .ok (.goto 25, 3) := by decide +kernel
theorem d_T_about_113 : decode b_T_about 113 = .ok (.iconst 0, 1) := by decide +kernel
theorem d_T_about_114 : decode b_T_about 114 = .ok (.goto 21, 3) := by decide +kernel
theorem d_T_about_117 : decode b_T_about 117 = .ok (.iload_n 2, 1) := by decide +kernel
theorem d_T_about_118 : decode b_T_about 118 = .ok (.iconst 3, 1) := by decide +kernel
theorem d_T_about_119 : decode b_T_about 119 = .ok (.if_icmp .ne 11, 3) := by decide +kernel
theorem d_T_about_122 : decode b_T_about 122 = .ok (.aload_n 0, 1) := by decide +kernel
theorem d_T_about_123 : decode b_T_about 123 = .ok (.iload_n 1, 1) := by decide +kernel
theorem d_T_about_124 : decode b_T_about 124 = .ok (.invokevirtual 124, 3) := by decide +kernel
theorem d_T_about_127 : decode b_T_about 127 = .ok (.goto 8, 3) := by decide +kernel
theorem d_T_about_130 : decode b_T_about 130 = .ok (.aload_n 0, 1) := by decide +kernel
theorem d_T_about_131 : decode b_T_about 131 = .ok (.iload_n 1, 1) := by decide +kernel
theorem d_T_about_132 : decode b_T_about 132 = .ok (.invokevirtual 127, 3) := by decide +kernel
theorem d_T_about_135 : decode b_T_about 135 = .ok (.ireturn, 1) := by decide +kernel
theorem d_T_complete_0 : decode b_T_complete 0 = .ok (.iconst 0, 1) := by decide +kernel
theorem d_T_complete_1 : decode b_T_complete 1 = .ok (.istore_n 2, 1) := by decide +kernel
theorem d_T_complete_2 : decode b_T_complete 2 = .ok (.iload_n 2, 1) := by decide +kernel
theorem d_T_complete_3 : decode b_T_complete 3 = .ok (.sipush 3000, 3) := by decide +kernel
theorem d_T_complete_6 : decode b_T_complete 6 = .ok (.if_icmp .ge 26, 3) := by decide +kernel
theorem d_T_complete_9 : decode b_T_complete 9 = .ok (.aload_n 0, 1) := by decide +kernel
theorem d_T_complete_10 : decode b_T_complete 10 = .ok (.getfield 34, 3) := by decide +kernel
theorem d_T_complete_13 : decode b_T_complete 13 = .ok (.sipush 3001, 3) := by decide +kernel
theorem d_T_complete_16 : decode b_T_complete 16 = .ok (.iload_n 1, 1) := by decide +kernel
theorem d_T_complete_17 : decode b_T_complete 17 = .ok (.imul, 1) := by decide +kernel
theorem d_T_complete_18 : decode b_T_complete 18 = .ok (.iload_n 2, 1) := by decide +kernel
theorem d_T_complete_19 : decode b_T_complete 19 = .ok (.iadd, 1) := by decide +kernel
theorem d_T_complete_20 : decode b_T_complete 20 = .ok (.iconst 1, 1) := by decide +kernel
theorem d_T_complete_21 : decode b_T_complete 21 = .ok (.iadd, 1) := by decide +kernel
theorem d_T_complete_22 : decode b_T_complete 22 = .ok (.baload, 1) := by decide +kernel
theorem d_T_complete_23 : decode b_T_complete 23 = .ok (.ifCond .eq 9, 3) := by decide +kernel
theorem d_T_complete_26 : decode b_T_complete 26 = .ok (.iinc 2 1, 3) := by decide +kernel
theorem d_T_complete_29 : decode b_T_complete 29 = .ok (.goto (-27), 3) := by decide +kernel
theorem d_T_complete_32 : decode b_T_complete 32 = .ok (.iload_n 2, 1) := by decide +kernel
theorem d_T_complete_33 : decode b_T_complete 33 = .ok (.ireturn, 1) := by decide +kernel
theorem d_T_marks_0 : decode b_T_marks 0 = .ok (.iconst 0, 1) := by decide +kernel
theorem d_T_marks_1 : decode b_T_marks 1 = .ok (.istore_n 2, 1) := by decide +kernel
theorem d_T_marks_2 : decode b_T_marks 2 = .ok (.iconst 1, 1) := by decide +kernel
theorem d_T_marks_3 : decode b_T_marks 3 = .ok (.istore_n 3, 1) := by decide +kernel
theorem d_T_marks_4 : decode b_T_marks 4 = .ok (.iload_n 3, 1) := by decide +kernel
theorem d_T_marks_5 : decode b_T_marks 5 = .ok (.sipush 3000, 3) := by decide +kernel
theorem d_T_marks_8 : decode b_T_marks 8 = .ok (.if_icmp .gt 32, 3) := by decide +kernel
theorem d_T_marks_11 : decode b_T_marks 11 = .ok (.aload_n 0, 1) := by decide +kernel
theorem d_T_marks_12 : decode b_T_marks 12 = .ok (.getfield 34, 3) := by decide +kernel
theorem d_T_marks_15 : decode b_T_marks 15 = .ok (.sipush 3001, 3) := by decide +kernel
theorem d_T_marks_18 : decode b_T_marks 18 = .ok (.iload_n 1, 1) := by decide +kernel
theorem d_T_marks_19 : decode b_T_marks 19 = .ok (.imul, 1) := by decide +kernel
theorem d_T_marks_20 : decode b_T_marks 20 = .ok (.iload_n 3, 1) := by decide +kernel
theorem d_T_marks_21 : decode b_T_marks 21 = .ok (.iadd, 1) := by decide +kernel
theorem d_T_marks_22 : decode b_T_marks 22 = .ok (.baload, 1) := by decide +kernel
theorem d_T_marks_23 : decode b_T_marks 23 = .ok (.ifCond .eq 9, 3) := by decide +kernel
theorem d_T_marks_26 : decode b_T_marks 26 = .ok (.iload_n 2, 1) := by decide +kernel
theorem d_T_marks_27 : decode b_T_marks 27 = .ok (.iconst 1, 1) := by decide +kernel
theorem d_T_marks_28 : decode b_T_marks 28 = .ok (.iadd, 1) := by decide +kernel
theorem d_T_marks_29 : decode b_T_marks 29 = .ok (.goto 4, 3) := by decide +kernel
theorem d_T_marks_32 : decode b_T_marks 32 = .ok (.iload_n 2, 1) := by decide +kernel
theorem d_T_marks_33 : decode b_T_marks 33 = .ok (.istore_n 2, 1) := by decide +kernel
theorem d_T_marks_34 : decode b_T_marks 34 = .ok (.iinc 3 1, 3) := by decide +kernel
theorem d_T_marks_37 : decode b_T_marks 37 = .ok (.goto (-33), 3) := by decide +kernel
theorem d_T_marks_40 : decode b_T_marks 40 = .ok (.iload_n 2, 1) := by decide +kernel
theorem d_T_marks_41 : decode b_T_marks 41 = .ok (.ireturn, 1) := by decide +kernel
theorem d_T_runs_0 : decode b_T_runs 0 = .ok (.iconst 0, 1) := by decide +kernel
theorem d_T_runs_1 : decode b_T_runs 1 = .ok (.istore_n 2, 1) := by decide +kernel
theorem d_T_runs_2 : decode b_T_runs 2 = .ok (.iconst 1, 1) := by decide +kernel
theorem d_T_runs_3 : decode b_T_runs 3 = .ok (.istore_n 3, 1) := by decide +kernel
theorem d_T_runs_4 : decode b_T_runs 4 = .ok (.iload_n 3, 1) := by decide +kernel
theorem d_T_runs_5 : decode b_T_runs 5 = .ok (.sipush 3000, 3) := by decide +kernel
theorem d_T_runs_8 : decode b_T_runs 8 = .ok (.if_icmp .gt 49, 3) := by decide +kernel
theorem d_T_runs_11 : decode b_T_runs 11 = .ok (.aload_n 0, 1) := by decide +kernel
theorem d_T_runs_12 : decode b_T_runs 12 = .ok (.getfield 34, 3) := by decide +kernel
theorem d_T_runs_15 : decode b_T_runs 15 = .ok (.sipush 3001, 3) := by decide +kernel
theorem d_T_runs_18 : decode b_T_runs 18 = .ok (.iload_n 1, 1) := by decide +kernel
theorem d_T_runs_19 : decode b_T_runs 19 = .ok (.imul, 1) := by decide +kernel
theorem d_T_runs_20 : decode b_T_runs 20 = .ok (.iload_n 3, 1) := by decide +kernel
theorem d_T_runs_21 : decode b_T_runs 21 = .ok (.iadd, 1) := by decide +kernel
theorem d_T_runs_22 : decode b_T_runs 22 = .ok (.baload, 1) := by decide +kernel
theorem d_T_runs_23 : decode b_T_runs 23 = .ok (.ifCond .eq 26, 3) := by decide +kernel
theorem d_T_runs_26 : decode b_T_runs 26 = .ok (.aload_n 0, 1) := by decide +kernel
theorem d_T_runs_27 : decode b_T_runs 27 = .ok (.getfield 34, 3) := by decide +kernel
theorem d_T_runs_30 : decode b_T_runs 30 = .ok (.sipush 3001, 3) := by decide +kernel
theorem d_T_runs_33 : decode b_T_runs 33 = .ok (.iload_n 1, 1) := by decide +kernel
theorem d_T_runs_34 : decode b_T_runs 34 = .ok (.imul, 1) := by decide +kernel
theorem d_T_runs_35 : decode b_T_runs 35 = .ok (.iload_n 3, 1) := by decide +kernel
theorem d_T_runs_36 : decode b_T_runs 36 = .ok (.iadd, 1) := by decide +kernel
theorem d_T_runs_37 : decode b_T_runs 37 = .ok (.iconst 1, 1) := by decide +kernel
theorem d_T_runs_38 : decode b_T_runs 38 = .ok (.isub, 1) := by decide +kernel
theorem d_T_runs_39 : decode b_T_runs 39 = .ok (.baload, 1) := by decide +kernel
theorem d_T_runs_40 : decode b_T_runs 40 = .ok (.ifCond .ne 9, 3) := by decide +kernel
theorem d_T_runs_43 : decode b_T_runs 43 = .ok (.iload_n 2, 1) := by decide +kernel
theorem d_T_runs_44 : decode b_T_runs 44 = .ok (.iconst 1, 1) := by decide +kernel
theorem d_T_runs_45 : decode b_T_runs 45 = .ok (.iadd, 1) := by decide +kernel
theorem d_T_runs_46 : decode b_T_runs 46 = .ok (.goto 4, 3) := by decide +kernel
theorem d_T_runs_49 : decode b_T_runs 49 = .ok (.iload_n 2, 1) := by decide +kernel
theorem d_T_runs_50 : decode b_T_runs 50 = .ok (.istore_n 2, 1) := by decide +kernel
theorem d_T_runs_51 : decode b_T_runs 51 = .ok (.iinc 3 1, 3) := by decide +kernel
theorem d_T_runs_54 : decode b_T_runs 54 = .ok (.goto (-50), 3) := by decide +kernel
theorem d_T_runs_57 : decode b_T_runs 57 = .ok (.iload_n 2, 1) := by decide +kernel
theorem d_T_runs_58 : decode b_T_runs 58 = .ok (.ireturn, 1) := by decide +kernel
theorem d_T_run_0 : decode b_T_run 0 = .ok (.aload_n 0, 1) := by decide +kernel
theorem d_T_run_1 : decode b_T_run 1 = .ok (.iload_n 1, 1) := by decide +kernel
theorem d_T_run_2 : decode b_T_run 2 = .ok (.invokestatic 109, 3) := by decide +kernel
theorem d_T_run_5 : decode b_T_run 5 = .ok (.ifCond .eq 7, 3) := by decide +kernel
theorem d_T_run_8 : decode b_T_run 8 = .ok (.iconst 1, 1) := by decide +kernel
theorem d_T_run_9 : decode b_T_run 9 = .ok (.goto 21, 3) := by decide +kernel
theorem d_T_run_12 : decode b_T_run 12 = .ok (.iload_n 2, 1) := by decide +kernel
theorem d_T_run_13 : decode b_T_run 13 = .ok (.ifCond .lt 12, 3) := by decide +kernel
theorem d_T_run_16 : decode b_T_run 16 = .ok (.iload_n 2, 1) := by decide +kernel
theorem d_T_run_17 : decode b_T_run 17 = .ok (.aload_n 0, 1) := by decide +kernel
theorem d_T_run_18 : decode b_T_run 18 = .ok (.iload_n 1, 1) := by decide +kernel
theorem d_T_run_19 : decode b_T_run 19 = .ok (.invokevirtual 127, 3) := by decide +kernel
theorem d_T_run_22 : decode b_T_run 22 = .ok (.if_icmp .lt 7, 3) := by decide +kernel
theorem d_T_run_25 : decode b_T_run 25 = .ok (.iconst 1, 1) := by decide +kernel
theorem d_T_run_26 : decode b_T_run 26 = .ok (.goto 4, 3) := by decide +kernel
theorem d_T_run_29 : decode b_T_run 29 = .ok (.iconst 0, 1) := by decide +kernel
theorem d_T_run_30 : decode b_T_run 30 = .ok (.putfield 59, 3) := by decide +kernel
theorem d_T_run_33 : decode b_T_run 33 = .ok (.aload_n 0, 1) := by decide +kernel
theorem d_T_run_34 : decode b_T_run 34 = .ok (.getfield 59, 3) := by decide +kernel
theorem d_T_run_37 : decode b_T_run 37 = .ok (.ifCond .le 5, 3) := by decide +kernel
theorem d_T_run_40 : decode b_T_run 40 = .ok (.iconst 0, 1) := by decide +kernel
theorem d_T_run_41 : decode b_T_run 41 = .ok (.ireturn, 1) := by decide +kernel
theorem d_T_run_42 : decode b_T_run 42 = .ok (.iload_n 2, 1) := by decide +kernel
theorem d_T_run_43 : decode b_T_run 43 = .ok (.istore 4, 2) := by decide +kernel
theorem d_T_run_45 : decode b_T_run 45 = .ok (.iconst 0, 1) := by decide +kernel
theorem d_T_run_46 : decode b_T_run 46 = .ok (.istore 5, 2) := by decide +kernel
theorem d_T_run_48 : decode b_T_run 48 = .ok (.iload 4, 2) := by decide +kernel
theorem d_T_run_50 : decode b_T_run 50 = .ok (.ifCond .lt 54, 3) := by decide +kernel
theorem d_T_run_53 : decode b_T_run 53 = .ok (.iinc 5 1, 3) := by decide +kernel
theorem d_T_run_56 : decode b_T_run 56 = .ok (.aload_n 0, 1) := by decide +kernel
theorem d_T_run_57 : decode b_T_run 57 = .ok (.getfield 34, 3) := by decide +kernel
theorem d_T_run_60 : decode b_T_run 60 = .ok (.sipush 3001, 3) := by decide +kernel
theorem d_T_run_63 : decode b_T_run 63 = .ok (.iload_n 1, 1) := by decide +kernel
theorem d_T_run_64 : decode b_T_run 64 = .ok (.imul, 1) := by decide +kernel
theorem d_T_run_65 : decode b_T_run 65 = .ok (.iload 5, 2) := by decide +kernel
theorem d_T_run_67 : decode b_T_run 67 = .ok (.iadd, 1) := by decide +kernel
theorem d_T_run_68 : decode b_T_run 68 = .ok (.baload, 1) := by decide +kernel
theorem d_T_run_69 : decode b_T_run 69 = .ok (.ifCond .eq 28, 3) := by decide +kernel
theorem d_T_run_72 : decode b_T_run 72 = .ok (.aload_n 0, 1) := by decide +kernel
theorem d_T_run_73 : decode b_T_run 73 = .ok (.getfield 34, 3) := by decide +kernel
theorem d_T_run_76 : decode b_T_run 76 = .ok (.sipush 3001, 3) := by decide +kernel
theorem d_T_run_79 : decode b_T_run 79 = .ok (.iload_n 1, 1) := by decide +kernel
theorem d_T_run_80 : decode b_T_run 80 = .ok (.imul, 1) := by decide +kernel
theorem d_T_run_81 : decode b_T_run 81 = .ok (.iload 5, 2) := by decide +kernel
theorem d_T_run_83 : decode b_T_run 83 = .ok (.iadd, 1) := by decide +kernel
theorem d_T_run_84 : decode b_T_run 84 = .ok (.iconst 1, 1) := by decide +kernel
theorem d_T_run_85 : decode b_T_run 85 = .ok (.isub, 1) := by decide +kernel
theorem d_T_run_86 : decode b_T_run 86 = .ok (.baload, 1) := by decide +kernel
theorem d_T_run_87 : decode b_T_run 87 = .ok (.ifCond .ne 10, 3) := by decide +kernel
theorem d_T_run_90 : decode b_T_run 90 = .ok (.iload 4, 2) := by decide +kernel
theorem d_T_run_92 : decode b_T_run 92 = .ok (.iconst 1, 1) := by decide +kernel
theorem d_T_run_93 : decode b_T_run 93 = .ok (.isub, 1) := by decide +kernel
theorem d_T_run_94 : decode b_T_run 94 = .ok (.goto 5, 3) := by decide +kernel
theorem d_T_run_97 : decode b_T_run 97 = .ok (.iload 4, 2) := by decide +kernel
theorem d_T_run_99 : decode b_T_run 99 = .ok (.istore 4, 2) := by decide +kernel
theorem d_T_run_101 : decode b_T_run 101 = .ok (.goto (-53), 3) := by decide +kernel
theorem d_T_run_104 : decode b_T_run 104 = .ok (.iload_n 3, 1) := by decide +kernel
theorem d_T_run_105 : decode b_T_run 105 = .ok (.ifCond .ne 35, 3) := by decide +kernel
theorem d_T_run_108 : decode b_T_run 108 = .ok (.iload 5, 2) := by decide +kernel
theorem d_T_run_110 : decode b_T_run 110 = .ok (.sipush 3000, 3) := by decide +kernel
theorem d_T_run_113 : decode b_T_run 113 = .ok (.if_icmp .ge 27, 3) := by decide +kernel
theorem d_T_run_116 : decode b_T_run 116 = .ok (.aload_n 0, 1) := by decide +kernel
theorem d_T_run_117 : decode b_T_run 117 = .ok (.getfield 34, 3) := by decide +kernel
theorem d_T_run_120 : decode b_T_run 120 = .ok (.sipush 3001, 3) := by decide +kernel
theorem d_T_run_123 : decode b_T_run 123 = .ok (.iload_n 1, 1) := by decide +kernel
theorem d_T_run_124 : decode b_T_run 124 = .ok (.imul, 1) := by decide +kernel
theorem d_T_run_125 : decode b_T_run 125 = .ok (.iload 5, 2) := by decide +kernel
theorem d_T_run_127 : decode b_T_run 127 = .ok (.iadd, 1) := by decide +kernel
theorem d_T_run_128 : decode b_T_run 128 = .ok (.iconst 1, 1) := by decide +kernel
theorem d_T_run_129 : decode b_T_run 129 = .ok (.iadd, 1) := by decide +kernel
theorem d_T_run_130 : decode b_T_run 130 = .ok (.baload, 1) := by decide +kernel
theorem d_T_run_131 : decode b_T_run 131 = .ok (.ifCond .eq 9, 3) := by decide +kernel
theorem d_T_run_134 : decode b_T_run 134 = .ok (.iinc 5 1, 3) := by decide +kernel
theorem d_T_run_137 : decode b_T_run 137 = .ok (.goto (-33), 3) := by decide +kernel
theorem d_T_run_140 : decode b_T_run 140 = .ok (.iload 5, 2) := by decide +kernel
theorem d_T_run_142 : decode b_T_run 142 = .ok (.ireturn, 1) := by decide +kernel
theorem d_T_refuses_0 : decode b_T_refuses 0 = .ok (.aload_n 0, 1) := by decide +kernel
theorem d_T_refuses_1 : decode b_T_refuses 1 = .ok (.iload_n 1, 1) := by decide +kernel
theorem d_T_refuses_2 : decode b_T_refuses 2 = .ok (.invokestatic 109, 3) := by decide +kernel
theorem d_T_refuses_5 : decode b_T_refuses 5 = .ok (.ifCond .ne 11, 3) := by decide +kernel
theorem d_T_refuses_8 : decode b_T_refuses 8 = .ok (.aload_n 0, 1) := by decide +kernel
theorem d_T_refuses_9 : decode b_T_refuses 9 = .ok (.iload_n 2, 1) := by decide +kernel
theorem d_T_refuses_10 : decode b_T_refuses 10 = .ok (.invokevirtual 66, 3) := by decide +kernel
theorem d_T_refuses_13 : decode b_T_refuses 13 = .ok (.ifCond .eq 7, 3) := by decide +kernel
theorem d_T_refuses_16 : decode b_T_refuses 16 = .ok (.iconst 1, 1) := by decide +kernel
theorem d_T_refuses_17 : decode b_T_refuses 17 = .ok (.goto 4, 3) := by decide +kernel
theorem d_T_refuses_20 : decode b_T_refuses 20 = .ok (.iconst 0, 1) := by decide +kernel
theorem d_T_refuses_21 : decode b_T_refuses 21 = .ok (.putfield 59, 3) := by decide +kernel
theorem d_T_refuses_24 : decode b_T_refuses 24 = .ok (.aload_n 0, 1) := by decide +kernel
theorem d_T_refuses_25 : decode b_T_refuses 25 = .ok (.getfield 59, 3) := by decide +kernel
theorem d_T_refuses_28 : decode b_T_refuses 28 = .ok (.ifCond .ne 16, 3) := by decide +kernel
theorem d_T_refuses_31 : decode b_T_refuses 31 = .ok (.aload_n 0, 1) := by decide +kernel
theorem d_T_refuses_32 : decode b_T_refuses 32 = .ok (.iload_n 1, 1) := by decide +kernel
theorem d_T_refuses_33 : decode b_T_refuses 33 = .ok (.iload_n 2, 1) := by decide +kernel
theorem d_T_refuses_34 : decode b_T_refuses 34 = .ok (.invokevirtual 112, 3) := by decide +kernel
theorem d_T_refuses_37 : decode b_T_refuses 37 = .ok (.ifCond .eq 7, 3) := by decide +kernel
theorem d_T_refuses_40 : decode b_T_refuses 40 = .ok (.iconst 1, 1) := by decide +kernel
theorem d_T_refuses_41 : decode b_T_refuses 41 = .ok (.goto 4, 3) := by decide +kernel
theorem d_T_refuses_44 : decode b_T_refuses 44 = .ok (.iconst 0, 1) := by decide +kernel
theorem d_T_refuses_45 : decode b_T_refuses 45 = .ok (.ireturn, 1) := by decide +kernel
theorem d_T_reach_0 : decode b_T_reach 0 = .ok (.aload_n 0, 1) := by decide +kernel
theorem d_T_reach_1 : decode b_T_reach 1 = .ok (.iload_n 1, 1) := by decide +kernel
theorem d_T_reach_2 : decode b_T_reach 2 = .ok (.iconst 1, 1) := by decide +kernel
theorem d_T_reach_3 : decode b_T_reach 3 = .ok (.if_icmp .lt 11, 3) := by decide +kernel
theorem d_T_reach_6 : decode b_T_reach 6 = .ok (.iload_n 1, 1) := by decide +kernel
theorem d_T_reach_7 : decode b_T_reach 7 = .ok (.aload_n 0, 1) := by decide +kernel
theorem d_T_reach_8 : decode b_T_reach 8 = .ok (.getfield 70, 3) := by decide +kernel
theorem d_T_reach_11 : decode b_T_reach 11 = .ok (.if_icmp .le 7, 3) := by decide +kernel
theorem d_T_reach_14 : decode b_T_reach 14 = .ok (.iconst 1, 1) := by decide +kernel
theorem d_T_reach_15 : decode b_T_reach 15 = .ok (.goto 4, 3) := by decide +kernel
theorem d_T_reach_18 : decode b_T_reach 18 = .ok (.iconst 0, 1) := by decide +kernel
theorem d_T_reach_19 : decode b_T_reach 19 = .ok (.putfield 59, 3) := by decide +kernel
theorem d_T_reach_22 : decode b_T_reach 22 = .ok (.iconst 0, 1) := by decide +kernel
theorem d_T_reach_23 : decode b_T_reach 23 = .ok (.istore_n 2, 1) := by decide +kernel
theorem d_T_reach_24 : decode b_T_reach 24 = .ok (.iconst 0, 1) := by decide +kernel
theorem d_T_reach_25 : decode b_T_reach 25 = .ok (.istore_n 3, 1) := by decide +kernel
theorem d_T_reach_26 : decode b_T_reach 26 = .ok (.iload_n 3, 1) := by decide +kernel
theorem d_T_reach_27 : decode b_T_reach 27 = .ok (.sipush 200, 3) := by decide +kernel
theorem d_T_reach_30 : decode b_T_reach 30 = .ok (.if_icmp .ge 39, 3) := by decide +kernel
theorem d_T_reach_33 : decode b_T_reach 33 = .ok (.aload_n 0, 1) := by decide +kernel
theorem d_T_reach_34 : decode b_T_reach 34 = .ok (.getfield 59, 3) := by decide +kernel
theorem d_T_reach_37 : decode b_T_reach 37 = .ok (.ifCond .ne 32, 3) := by decide +kernel
theorem d_T_reach_40 : decode b_T_reach 40 = .ok (.aload_n 0, 1) := by decide +kernel
theorem d_T_reach_41 : decode b_T_reach 41 = .ok (.getfield 34, 3) := by decide +kernel
theorem d_T_reach_44 : decode b_T_reach 44 = .ok (.sipush 3001, 3) := by decide +kernel
theorem d_T_reach_47 : decode b_T_reach 47 = .ok (.iload_n 3, 1) := by decide +kernel
theorem d_T_reach_48 : decode b_T_reach 48 = .ok (.imul, 1) := by decide +kernel
theorem d_T_reach_49 : decode b_T_reach 49 = .ok (.iload_n 1, 1) := by decide +kernel
theorem d_T_reach_50 : decode b_T_reach 50 = .ok (.iadd, 1) := by decide +kernel
theorem d_T_reach_51 : decode b_T_reach 51 = .ok (.baload, 1) := by decide +kernel
theorem d_T_reach_52 : decode b_T_reach 52 = .ok (.ifCond .eq 9, 3) := by decide +kernel
theorem d_T_reach_55 : decode b_T_reach 55 = .ok (.iload_n 2, 1) := by decide +kernel
theorem d_T_reach_56 : decode b_T_reach 56 = .ok (.iconst 1, 1) := by decide +kernel
theorem d_T_reach_57 : decode b_T_reach 57 = .ok (.iadd, 1) := by decide +kernel
theorem d_T_reach_58 : decode b_T_reach 58 = .ok (.goto 4, 3) := by decide +kernel
theorem d_T_reach_61 : decode b_T_reach 61 = .ok (.iload_n 2, 1) := by decide +kernel
theorem d_T_reach_62 : decode b_T_reach 62 = .ok (.istore_n 2, 1) := by decide +kernel
theorem d_T_reach_63 : decode b_T_reach 63 = .ok (.iinc 3 1, 3) := by decide +kernel
theorem d_T_reach_66 : decode b_T_reach 66 = .ok (.goto (-40), 3) := by decide +kernel
theorem d_T_reach_69 : decode b_T_reach 69 = .ok (.iload_n 2, 1) := by decide +kernel
theorem d_T_reach_70 : decode b_T_reach 70 = .ok (.ireturn, 1) := by decide +kernel
theorem d_T_loseBattery_0 : decode b_T_loseBattery 0 = .ok (.aload_n 0, 1) := by decide +kernel
theorem d_T_loseBattery_1 : decode b_T_loseBattery 1 = .ok (.iload_n 1, 1) := by decide +kernel
theorem d_T_loseBattery_2 : decode b_T_loseBattery 2 = .ok (.invokestatic 109, 3) := by decide +kernel
theorem d_T_loseBattery_5 : decode b_T_loseBattery 5 = .ok (.ifCond .eq 7, 3) := by decide +kernel
theorem d_T_loseBattery_8 : decode b_T_loseBattery 8 = .ok (.iconst 1, 1) := by decide +kernel
theorem d_T_loseBattery_9 : decode b_T_loseBattery 9 = .ok (.goto 4, 3) := by decide +kernel
theorem d_T_loseBattery_12 : decode b_T_loseBattery 12 = .ok (.iconst 0, 1) := by decide +kernel
theorem d_T_loseBattery_13 : decode b_T_loseBattery 13 = .ok (.putfield 59, 3) := by decide +kernel
theorem d_T_loseBattery_16 : decode b_T_loseBattery 16 = .ok (.aload_n 0, 1) := by decide +kernel
theorem d_T_loseBattery_17 : decode b_T_loseBattery 17 = .ok (.getfield 59, 3) := by decide +kernel
theorem d_T_loseBattery_20 : decode b_T_loseBattery 20 = .ok (.ifCond .ne 10, 3) := by decide +kernel
theorem d_T_loseBattery_23 : decode b_T_loseBattery 23 = .ok (.aload_n 0, 1) := by decide +kernel
theorem d_T_loseBattery_24 : decode b_T_loseBattery 24 = .ok (.getfield 44, 3) := by decide +kernel
theorem d_T_loseBattery_27 : decode b_T_loseBattery 27 = .ok (.iload_n 1, 1) := by decide +kernel
theorem d_T_loseBattery_28 : decode b_T_loseBattery 28 = .ok (.iconst 0, 1) := by decide +kernel
theorem d_T_loseBattery_29 : decode b_T_loseBattery 29 = .ok (.iastore, 1) := by decide +kernel
theorem d_T_loseBattery_30 : decode b_T_loseBattery 30 = .ok (.return_, 1) := by decide +kernel
theorem d_T_visit_0 : decode b_T_visit 0 = .ok (.aload_n 0, 1) := by decide +kernel
theorem d_T_visit_1 : decode b_T_visit 1 = .ok (.iload_n 1, 1) := by decide +kernel
theorem d_T_visit_2 : decode b_T_visit 2 = .ok (.ifCond .lt 25, 3) := by decide +kernel
theorem d_T_visit_5 : decode b_T_visit 5 = .ok (.iload_n 1, 1) := by decide +kernel
theorem d_T_visit_6 : decode b_T_visit 6 = .ok (.sipush 199, 3) := by decide +kernel
theorem d_T_visit_9 : decode b_T_visit 9 = .ok (.if_icmp .gt 18, 3) := by decide +kernel
theorem d_T_visit_12 : decode b_T_visit 12 = .ok (.aload_n 0, 1) := by decide +kernel
theorem d_T_visit_13 : decode b_T_visit 13 = .ok (.iload_n 2, 1) := by decide +kernel
theorem d_T_visit_14 : decode b_T_visit 14 = .ok (.invokevirtual 66, 3) := by decide +kernel
theorem d_T_visit_17 : decode b_T_visit 17 = .ok (.ifCond .ne 10, 3) := by decide +kernel
theorem d_T_visit_20 : decode b_T_visit 20 = .ok (.iload_n 3, 1) := by decide +kernel
theorem d_T_visit_21 : decode b_T_visit 21 = .ok (.invokestatic 109, 3) := by decide +kernel
theorem d_T_visit_24 : decode b_T_visit 24 = .ok (.ifCond .eq 7, 3) := by decide +kernel
theorem d_T_visit_27 : decode b_T_visit 27 = .ok (.iconst 1, 1) := by decide +kernel
theorem d_T_visit_28 : decode b_T_visit 28 = .ok (.goto 4, 3) := by decide +kernel
theorem d_T_visit_31 : decode b_T_visit 31 = .ok (.iconst 0, 1) := by decide +kernel
theorem d_T_visit_32 : decode b_T_visit 32 = .ok (.putfield 59, 3) := by decide +kernel
theorem d_T_visit_35 : decode b_T_visit 35 = .ok (.aload_n 0, 1) := by decide +kernel
theorem d_T_visit_36 : decode b_T_visit 36 = .ok (.getfield 59, 3) := by decide +kernel
theorem d_T_visit_39 : decode b_T_visit 39 = .ok (.ifCond .le 4, 3) := by decide +kernel
theorem d_T_visit_42 : decode b_T_visit 42 = .ok (.return_, 1) := by decide +kernel
theorem d_T_visit_43 : decode b_T_visit 43 = .ok (.aload_n 0, 1) := by decide +kernel
theorem d_T_visit_44 : decode b_T_visit 44 = .ok (.getfield 47, 3) := by decide +kernel
theorem d_T_visit_47 : decode b_T_visit 47 = .ok (.iload_n 1, 1) := by decide +kernel
theorem d_T_visit_48 : decode b_T_visit 48 = .ok (.iconst 1, 1) := by decide +kernel
theorem d_T_visit_49 : decode b_T_visit 49 = .ok (.bastore, 1) := by decide +kernel
theorem d_T_visit_50 : decode b_T_visit 50 = .ok (.aload_n 0, 1) := by decide +kernel
theorem d_T_visit_51 : decode b_T_visit 51 = .ok (.getfield 50, 3) := by decide +kernel
theorem d_T_visit_54 : decode b_T_visit 54 = .ok (.iload_n 1, 1) := by decide +kernel
theorem d_T_visit_55 : decode b_T_visit 55 = .ok (.iload_n 2, 1) := by decide +kernel
theorem d_T_visit_56 : decode b_T_visit 56 = .ok (.iastore, 1) := by decide +kernel
theorem d_T_visit_57 : decode b_T_visit 57 = .ok (.aload_n 0, 1) := by decide +kernel
theorem d_T_visit_58 : decode b_T_visit 58 = .ok (.getfield 53, 3) := by decide +kernel
theorem d_T_visit_61 : decode b_T_visit 61 = .ok (.iload_n 1, 1) := by decide +kernel
theorem d_T_visit_62 : decode b_T_visit 62 = .ok (.iload_n 3, 1) := by decide +kernel
theorem d_T_visit_63 : decode b_T_visit 63 = .ok (.iastore, 1) := by decide +kernel
theorem d_T_visit_64 : decode b_T_visit 64 = .ok (.aload_n 0, 1) := by decide +kernel
theorem d_T_visit_65 : decode b_T_visit 65 = .ok (.getfield 56, 3) := by decide +kernel
theorem d_T_visit_68 : decode b_T_visit 68 = .ok (.iload_n 1, 1) := by decide +kernel
theorem d_T_visit_69 : decode b_T_visit 69 = .ok (.iload 4, 2) := by decide +kernel
theorem d_T_visit_71 : decode b_T_visit 71 = .ok (.iastore, 1) := by decide +kernel
theorem d_T_visit_72 : decode b_T_visit 72 = .ok (.return_, 1) := by decide +kernel
theorem d_T_spread_0 : decode b_T_spread 0 = .ok (.aload_n 0, 1) := by decide +kernel
theorem d_T_spread_1 : decode b_T_spread 1 = .ok (.iload_n 1, 1) := by decide +kernel
theorem d_T_spread_2 : decode b_T_spread 2 = .ok (.ifCond .lt 10, 3) := by decide +kernel
theorem d_T_spread_5 : decode b_T_spread 5 = .ok (.iload_n 1, 1) := by decide +kernel
theorem d_T_spread_6 : decode b_T_spread 6 = .ok (.sipush 200, 3) := by decide +kernel
theorem d_T_spread_9 : decode b_T_spread 9 = .ok (.if_icmp .le 7, 3) := by decide +kernel
theorem d_T_spread_12 : decode b_T_spread 12 = .ok (.iconst 1, 1) := by decide +kernel
theorem d_T_spread_13 : decode b_T_spread 13 = .ok (.goto 4, 3) := by decide +kernel
theorem d_T_spread_16 : decode b_T_spread 16 = .ok (.iconst 0, 1) := by decide +kernel
theorem d_T_spread_17 : decode b_T_spread 17 = .ok (.putfield 59, 3) := by decide +kernel
theorem d_T_spread_20 : decode b_T_spread 20 = .ok (.iconst 0, 1) := by decide +kernel
theorem d_T_spread_21 : decode b_T_spread 21 = .ok (.istore_n 2, 1) := by decide +kernel
theorem d_T_spread_22 : decode b_T_spread 22 = .ok (.iconst 0, 1) := by decide +kernel
theorem d_T_spread_23 : decode b_T_spread 23 = .ok (.istore_n 3, 1) := by decide +kernel
theorem d_T_spread_24 : decode b_T_spread 24 = .ok (.iload_n 3, 1) := by decide +kernel
theorem d_T_spread_25 : decode b_T_spread 25 = .ok (.iload_n 1, 1) := by decide +kernel
theorem d_T_spread_26 : decode b_T_spread 26 = .ok (.if_icmp .ge 58, 3) := by decide +kernel
theorem d_T_spread_29 : decode b_T_spread 29 = .ok (.aload_n 0, 1) := by decide +kernel
theorem d_T_spread_30 : decode b_T_spread 30 = .ok (.getfield 59, 3) := by decide +kernel
theorem d_T_spread_33 : decode b_T_spread 33 = .ok (.ifCond .ne 51, 3) := by decide +kernel
theorem d_T_spread_36 : decode b_T_spread 36 = .ok (.aload_n 0, 1) := by decide +kernel
theorem d_T_spread_37 : decode b_T_spread 37 = .ok (.getfield 47, 3) := by decide +kernel
theorem d_T_spread_40 : decode b_T_spread 40 = .ok (.iload_n 3, 1) := by decide +kernel
theorem d_T_spread_41 : decode b_T_spread 41 = .ok (.baload, 1) := by decide +kernel
theorem d_T_spread_42 : decode b_T_spread 42 = .ok (.ifCond .eq 36, 3) := by decide +kernel
theorem d_T_spread_45 : decode b_T_spread 45 = .ok (.aload_n 0, 1) := by decide +kernel
theorem d_T_spread_46 : decode b_T_spread 46 = .ok (.aload_n 0, 1) := by decide +kernel
theorem d_T_spread_47 : decode b_T_spread 47 = .ok (.getfield 50, 3) := by decide +kernel
theorem d_T_spread_50 : decode b_T_spread 50 = .ok (.iload_n 3, 1) := by decide +kernel
theorem d_T_spread_51 : decode b_T_spread 51 = .ok (.iaload, 1) := by decide +kernel
theorem d_T_spread_52 : decode b_T_spread 52 = .ok (.aload_n 0, 1) := by decide +kernel
theorem d_T_spread_53 : decode b_T_spread 53 = .ok (.getfield 53, 3) := by decide +kernel
theorem d_T_spread_56 : decode b_T_spread 56 = .ok (.iload_n 3, 1) := by decide +kernel
theorem d_T_spread_57 : decode b_T_spread 57 = .ok (.iaload, 1) := by decide +kernel
theorem d_T_spread_58 : decode b_T_spread 58 = .ok (.aload_n 0, 1) := by decide +kernel
theorem d_T_spread_59 : decode b_T_spread 59 = .ok (.getfield 56, 3) := by decide +kernel
theorem d_T_spread_62 : decode b_T_spread 62 = .ok (.iload_n 3, 1) := by decide +kernel
theorem d_T_spread_63 : decode b_T_spread 63 = .ok (.iaload, 1) := by decide +kernel
theorem d_T_spread_64 : decode b_T_spread 64 = .ok (.invokevirtual 118, 3) := by decide +kernel
theorem d_T_spread_67 : decode b_T_spread 67 = .ok (.ifCond .ne 9, 3) := by decide +kernel
theorem d_T_spread_70 : decode b_T_spread 70 = .ok (.iload_n 2, 1) := by decide +kernel
theorem d_T_spread_71 : decode b_T_spread 71 = .ok (.iconst 1, 1) := by decide +kernel
theorem d_T_spread_72 : decode b_T_spread 72 = .ok (.iadd, 1) := by decide +kernel
theorem d_T_spread_73 : decode b_T_spread 73 = .ok (.goto 4, 3) := by decide +kernel
theorem d_T_spread_76 : decode b_T_spread 76 = .ok (.iload_n 2, 1) := by decide +kernel
theorem d_T_spread_77 : decode b_T_spread 77 = .ok (.istore_n 2, 1) := by decide +kernel
theorem d_T_spread_78 : decode b_T_spread 78 = .ok (.iinc 3 1, 3) := by decide +kernel
theorem d_T_spread_81 : decode b_T_spread 81 = .ok (.goto (-57), 3) := by decide +kernel
theorem d_T_spread_84 : decode b_T_spread 84 = .ok (.iload_n 2, 1) := by decide +kernel
theorem d_T_spread_85 : decode b_T_spread 85 = .ok (.ireturn, 1) := by decide +kernel
