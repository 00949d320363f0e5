theorem dX11_init_0 : decode cX11_init 0 = .ok (.aload_n 0, 1) := by decide +kernel
theorem dX11_init_1 : decode cX11_init 1 = .ok (.invokespecial 1, 3) := by decide +kernel
theorem dX11_init_4 : decode cX11_init 4 = .ok (.aload_n 0, 1) := by decide +kernel
theorem dX11_init_5 : decode cX11_init 5 = .ok (.new 7, 3) := by decide +kernel
theorem dX11_init_8 : decode cX11_init 8 = .ok (.dup, 1) := by decide +kernel
theorem dX11_init_9 : decode cX11_init 9 = .ok (.invokespecial 9, 3) := by decide +kernel
theorem dX11_init_12 : decode cX11_init 12 = .ok (.putfield 10, 3) := by decide +kernel
theorem dX11_init_15 : decode cX11_init 15 = .ok (.aload_n 0, 1) := by decide +kernel
theorem dX11_init_16 : decode cX11_init 16 = .ok (.bipush 8, 2) := by decide +kernel
theorem dX11_init_18 : decode cX11_init 18 = .ok (.anewarray 16, 3) := by decide +kernel
theorem dX11_init_21 : decode cX11_init 21 = .ok (.dup, 1) := by decide +kernel
theorem dX11_init_22 : decode cX11_init 22 = .ok (.iconst 0, 1) := by decide +kernel
theorem dX11_init_23 : decode cX11_init 23 = .ok (.new 18, 3) := by decide +kernel
theorem dX11_init_26 : decode cX11_init 26 = .ok (.dup, 1) := by decide +kernel
theorem dX11_init_27 : decode cX11_init 27 = .ok (.invokespecial 20, 3) := by decide +kernel
theorem dX11_init_30 : decode cX11_init 30 = .ok (.aastore, 1) := by decide +kernel
theorem dX11_init_31 : decode cX11_init 31 = .ok (.dup, 1) := by decide +kernel
theorem dX11_init_32 : decode cX11_init 32 = .ok (.iconst 1, 1) := by decide +kernel
theorem dX11_init_33 : decode cX11_init 33 = .ok (.new 21, 3) := by decide +kernel
theorem dX11_init_36 : decode cX11_init 36 = .ok (.dup, 1) := by decide +kernel
theorem dX11_init_37 : decode cX11_init 37 = .ok (.invokespecial 23, 3) := by decide +kernel
theorem dX11_init_40 : decode cX11_init 40 = .ok (.aastore, 1) := by decide +kernel
theorem dX11_init_41 : decode cX11_init 41 = .ok (.dup, 1) := by decide +kernel
theorem dX11_init_42 : decode cX11_init 42 = .ok (.iconst 2, 1) := by decide +kernel
theorem dX11_init_43 : decode cX11_init 43 = .ok (.new 24, 3) := by decide +kernel
theorem dX11_init_46 : decode cX11_init 46 = .ok (.dup, 1) := by decide +kernel
theorem dX11_init_47 : decode cX11_init 47 = .ok (.invokespecial 26, 3) := by decide +kernel
theorem dX11_init_50 : decode cX11_init 50 = .ok (.aastore, 1) := by decide +kernel
theorem dX11_init_51 : decode cX11_init 51 = .ok (.dup, 1) := by decide +kernel
theorem dX11_init_52 : decode cX11_init 52 = .ok (.iconst 3, 1) := by decide +kernel
theorem dX11_init_53 : decode cX11_init 53 = .ok (.new 27, 3) := by decide +kernel
theorem dX11_init_56 : decode cX11_init 56 = .ok (.dup, 1) := by decide +kernel
theorem dX11_init_57 : decode cX11_init 57 = .ok (.invokespecial 29, 3) := by decide +kernel
theorem dX11_init_60 : decode cX11_init 60 = .ok (.aastore, 1) := by decide +kernel
theorem dX11_init_61 : decode cX11_init 61 = .ok (.dup, 1) := by decide +kernel
theorem dX11_init_62 : decode cX11_init 62 = .ok (.iconst 4, 1) := by decide +kernel
theorem dX11_init_63 : decode cX11_init 63 = .ok (.new 30, 3) := by decide +kernel
theorem dX11_init_66 : decode cX11_init 66 = .ok (.dup, 1) := by decide +kernel
theorem dX11_init_67 : decode cX11_init 67 = .ok (.invokespecial 32, 3) := by decide +kernel
theorem dX11_init_70 : decode cX11_init 70 = .ok (.aastore, 1) := by decide +kernel
theorem dX11_init_71 : decode cX11_init 71 = .ok (.dup, 1) := by decide +kernel
theorem dX11_init_72 : decode cX11_init 72 = .ok (.iconst 5, 1) := by decide +kernel
theorem dX11_init_73 : decode cX11_init 73 = .ok (.new 33, 3) := by decide +kernel
theorem dX11_init_76 : decode cX11_init 76 = .ok (.dup, 1) := by decide +kernel
theorem dX11_init_77 : decode cX11_init 77 = .ok (.invokespecial 35, 3) := by decide +kernel
theorem dX11_init_80 : decode cX11_init 80 = .ok (.aastore, 1) := by decide +kernel
theorem dX11_init_81 : decode cX11_init 81 = .ok (.dup, 1) := by decide +kernel
theorem dX11_init_82 : decode cX11_init 82 = .ok (.bipush 6, 2) := by decide +kernel
theorem dX11_init_84 : decode cX11_init 84 = .ok (.new 36, 3) := by decide +kernel
theorem dX11_init_87 : decode cX11_init 87 = .ok (.dup, 1) := by decide +kernel
theorem dX11_init_88 : decode cX11_init 88 = .ok (.invokespecial 38, 3) := by decide +kernel
theorem dX11_init_91 : decode cX11_init 91 = .ok (.aastore, 1) := by decide +kernel
theorem dX11_init_92 : decode cX11_init 92 = .ok (.dup, 1) := by decide +kernel
theorem dX11_init_93 : decode cX11_init 93 = .ok (.bipush 7, 2) := by decide +kernel
theorem dX11_init_95 : decode cX11_init 95 = .ok (.new 39, 3) := by decide +kernel
theorem dX11_init_98 : decode cX11_init 98 = .ok (.dup, 1) := by decide +kernel
theorem dX11_init_99 : decode cX11_init 99 = .ok (.invokespecial 41, 3) := by decide +kernel
theorem dX11_init_102 : decode cX11_init 102 = .ok (.aastore, 1) := by decide +kernel
theorem dX11_init_103 : decode cX11_init 103 = .ok (.putfield 42, 3) := by decide +kernel
theorem dX11_init_106 : decode cX11_init 106 = .ok (.aload_n 0, 1) := by decide +kernel
theorem dX11_init_107 : decode cX11_init 107 = .ok (.bipush 8, 2) := by decide +kernel
theorem dX11_init_109 : decode cX11_init 109 = .ok (.newarray .int, 2) := by decide +kernel
theorem dX11_init_111 : decode cX11_init 111 = .ok (.putfield 46, 3) := by decide +kernel
theorem dX11_init_114 : decode cX11_init 114 = .ok (.aload_n 0, 1) := by decide +kernel
theorem dX11_init_115 : decode cX11_init 115 = .ok (.bipush 8, 2) := by decide +kernel
theorem dX11_init_117 : decode cX11_init 117 = .ok (.newarray .int, 2) := by decide +kernel
theorem dX11_init_119 : decode cX11_init 119 = .ok (.putfield 50, 3) := by decide +kernel
theorem dX11_init_122 : decode cX11_init 122 = .ok (.aload_n 0, 1) := by decide +kernel
theorem dX11_init_123 : decode cX11_init 123 = .ok (.bipush 8, 2) := by decide +kernel
theorem dX11_init_125 : decode cX11_init 125 = .ok (.newarray .int, 2) := by decide +kernel
theorem dX11_init_127 : decode cX11_init 127 = .ok (.putfield 53, 3) := by decide +kernel
theorem dX11_init_130 : decode cX11_init 130 = .ok (.aload_n 0, 1) := by decide +kernel
theorem dX11_init_131 : decode cX11_init 131 = .ok (.bipush 8, 2) := by decide +kernel
theorem dX11_init_133 : decode cX11_init 133 = .ok (.newarray .int, 2) := by decide +kernel
theorem dX11_init_135 : decode cX11_init 135 = .ok (.putfield 56, 3) := by decide +kernel
theorem dX11_init_138 : decode cX11_init 138 = .ok (.iconst 0, 1) := by decide +kernel
theorem dX11_init_139 : decode cX11_init 139 = .ok (.istore_n 1, 1) := by decide +kernel
theorem dX11_init_140 : decode cX11_init 140 = .ok (.iload_n 1, 1) := by decide +kernel
theorem dX11_init_141 : decode cX11_init 141 = .ok (.bipush 8, 2) := by decide +kernel
theorem dX11_init_143 : decode cX11_init 143 = .ok (.if_icmp .ge 16, 3) := by decide +kernel
theorem dX11_init_146 : decode cX11_init 146 = .ok (.aload_n 0, 1) := by decide +kernel
theorem dX11_init_147 : decode cX11_init 147 = .ok (.getfield 46, 3) := by decide +kernel
theorem dX11_init_150 : decode cX11_init 150 = .ok (.iload_n 1, 1) := by decide +kernel
theorem dX11_init_151 : decode cX11_init 151 = .ok (.iconst (-1), 1) := by decide +kernel
theorem dX11_init_152 : decode cX11_init 152 = .ok (.iastore, 1) := by decide +kernel
theorem dX11_init_153 : decode cX11_init 153 = .ok (.iinc 1 1, 3) := by decide +kernel
theorem dX11_init_156 : decode cX11_init 156 = .ok (.goto (-16), 3) := by decide +kernel
theorem dX11_init_159 : decode cX11_init 159 = .ok (.return_, 1) := by decide +kernel
theorem dX11_enlist_0 : decode cX11_enlist 0 = .ok (.iload_n 1, 1) := by decide +kernel
theorem dX11_enlist_1 : decode cX11_enlist 1 = .ok (.invokestatic 59, 3) := by decide +kernel
theorem dX11_enlist_4 : decode cX11_enlist 4 = .ok (.ifCond .eq 25, 3) := by decide +kernel
theorem dX11_enlist_7 : decode cX11_enlist 7 = .ok (.iload_n 2, 1) := by decide +kernel
theorem dX11_enlist_8 : decode cX11_enlist 8 = .ok (.ifCond .lt 21, 3) := by decide +kernel
theorem dX11_enlist_11 : decode cX11_enlist 11 = .ok (.iload_n 2, 1) := by decide +kernel
theorem dX11_enlist_12 : decode cX11_enlist 12 = .ok (.bipush 99, 2) := by decide +kernel
theorem dX11_enlist_14 : decode cX11_enlist 14 = .ok (.if_icmp .gt 15, 3) := by decide +kernel
theorem dX11_enlist_17 : decode cX11_enlist 17 = .ok (.aload_n 0, 1) := by decide +kernel
theorem dX11_enlist_18 : decode cX11_enlist 18 = .ok (.getfield 10, 3) := by decide +kernel
theorem dX11_enlist_21 : decode cX11_enlist 21 = .ok (.getfield 63, 3) := by decide +kernel
theorem dX11_enlist_24 : decode cX11_enlist 24 = .ok (.bipush 12, 2) := by decide +kernel
theorem dX11_enlist_26 : decode cX11_enlist 26 = .ok (.if_icmp .lt 6, 3) := by decide +kernel
theorem dX11_enlist_29 : decode cX11_enlist 29 = .ok (.ldc 67, 2) := by decide +kernel
theorem dX11_enlist_31 : decode cX11_enlist 31 = .ok (.ireturn, 1) := by decide +kernel
theorem dX11_enlist_32 : decode cX11_enlist 32 = .ok (.aload_n 0, 1) := by decide +kernel
theorem dX11_enlist_33 : decode cX11_enlist 33 = .ok (.getfield 10, 3) := by decide +kernel
theorem dX11_enlist_36 : decode cX11_enlist 36 = .ok (.iload_n 2, 1) := by decide +kernel
theorem dX11_enlist_37 : decode cX11_enlist 37 = .ok (.iload_n 1, 1) := by decide +kernel
theorem dX11_enlist_38 : decode cX11_enlist 38 = .ok (.aload_n 0, 1) := by decide +kernel
theorem dX11_enlist_39 : decode cX11_enlist 39 = .ok (.getfield 42, 3) := by decide +kernel
theorem dX11_enlist_42 : decode cX11_enlist 42 = .ok (.iload_n 1, 1) := by decide +kernel
theorem dX11_enlist_43 : decode cX11_enlist 43 = .ok (.aaload, 1) := by decide +kernel
theorem dX11_enlist_44 : decode cX11_enlist 44 = .ok (.invokevirtual 68, 3) := by decide +kernel
theorem dX11_enlist_47 : decode cX11_enlist 47 = .ok (.ireturn, 1) := by decide +kernel
theorem dX11_promote_0 : decode cX11_promote 0 = .ok (.aload_n 0, 1) := by decide +kernel
theorem dX11_promote_1 : decode cX11_promote 1 = .ok (.getfield 10, 3) := by decide +kernel
theorem dX11_promote_4 : decode cX11_promote 4 = .ok (.iload_n 1, 1) := by decide +kernel
theorem dX11_promote_5 : decode cX11_promote 5 = .ok (.invokevirtual 72, 3) := by decide +kernel
theorem dX11_promote_8 : decode cX11_promote 8 = .ok (.astore_n 2, 1) := by decide +kernel
theorem dX11_promote_9 : decode cX11_promote 9 = .ok (.aload_n 2, 1) := by decide +kernel
theorem dX11_promote_10 : decode cX11_promote 10 = .ok (.ifnull 20, 3) := by decide +kernel
theorem dX11_promote_13 : decode cX11_promote 13 = .ok (.aload_n 2, 1) := by decide +kernel
theorem dX11_promote_14 : decode cX11_promote 14 = .ok (.getfield 76, 3) := by decide +kernel
theorem dX11_promote_17 : decode cX11_promote 17 = .ok (.iconst 5, 1) := by decide +kernel
theorem dX11_promote_18 : decode cX11_promote 18 = .ok (.if_icmp .eq 12, 3) := by decide +kernel
theorem dX11_promote_21 : decode cX11_promote 21 = .ok (.aload_n 2, 1) := by decide +kernel
theorem dX11_promote_22 : decode cX11_promote 22 = .ok (.getfield 76, 3) := by decide +kernel
theorem dX11_promote_25 : decode cX11_promote 25 = .ok (.bipush 7, 2) := by decide +kernel
theorem dX11_promote_27 : decode cX11_promote 27 = .ok (.if_icmp .ne 6, 3) := by decide +kernel
theorem dX11_promote_30 : decode cX11_promote 30 = .ok (.ldc 67, 2) := by decide +kernel
theorem dX11_promote_32 : decode cX11_promote 32 = .ok (.ireturn, 1) := by decide +kernel
theorem dX11_promote_33 : decode cX11_promote 33 = .ok (.aload_n 0, 1) := by decide +kernel
theorem dX11_promote_34 : decode cX11_promote 34 = .ok (.aload_n 2, 1) := by decide +kernel
theorem dX11_promote_35 : decode cX11_promote 35 = .ok (.aload_n 2, 1) := by decide +kernel
theorem dX11_promote_36 : decode cX11_promote 36 = .ok (.getfield 76, 3) := by decide +kernel
theorem dX11_promote_39 : decode cX11_promote 39 = .ok (.iconst 1, 1) := by decide +kernel
theorem dX11_promote_40 : decode cX11_promote 40 = .ok (.iadd, 1) := by decide +kernel
theorem dX11_promote_41 : decode cX11_promote 41 = .ok (.invokevirtual 81, 3) := by decide +kernel
theorem dX11_promote_44 : decode cX11_promote 44 = .ok (.ireturn, 1) := by decide +kernel
theorem dX11_demote_0 : decode cX11_demote 0 = .ok (.aload_n 0, 1) := by decide +kernel
theorem dX11_demote_1 : decode cX11_demote 1 = .ok (.getfield 10, 3) := by decide +kernel
theorem dX11_demote_4 : decode cX11_demote 4 = .ok (.iload_n 1, 1) := by decide +kernel
theorem dX11_demote_5 : decode cX11_demote 5 = .ok (.invokevirtual 72, 3) := by decide +kernel
theorem dX11_demote_8 : decode cX11_demote 8 = .ok (.astore_n 2, 1) := by decide +kernel
theorem dX11_demote_9 : decode cX11_demote 9 = .ok (.aload_n 2, 1) := by decide +kernel
theorem dX11_demote_10 : decode cX11_demote 10 = .ok (.ifnull 10, 3) := by decide +kernel
theorem dX11_demote_13 : decode cX11_demote 13 = .ok (.aload_n 2, 1) := by decide +kernel
theorem dX11_demote_14 : decode cX11_demote 14 = .ok (.getfield 76, 3) := by decide +kernel
theorem dX11_demote_17 : decode cX11_demote 17 = .ok (.ifCond .ne 6, 3) := by decide +kernel
theorem dX11_demote_20 : decode cX11_demote 20 = .ok (.ldc 67, 2) := by decide +kernel
theorem dX11_demote_22 : decode cX11_demote 22 = .ok (.ireturn, 1) := by decide +kernel
theorem dX11_demote_23 : decode cX11_demote 23 = .ok (.aload_n 0, 1) := by decide +kernel
theorem dX11_demote_24 : decode cX11_demote 24 = .ok (.aload_n 2, 1) := by decide +kernel
theorem dX11_demote_25 : decode cX11_demote 25 = .ok (.aload_n 2, 1) := by decide +kernel
theorem dX11_demote_26 : decode cX11_demote 26 = .ok (.getfield 76, 3) := by decide +kernel
theorem dX11_demote_29 : decode cX11_demote 29 = .ok (.bipush 6, 2) := by decide +kernel
theorem dX11_demote_31 : decode cX11_demote 31 = .ok (.if_icmp .ne 7, 3) := by decide +kernel
theorem dX11_demote_34 : decode cX11_demote 34 = .ok (.iconst 0, 1) := by decide +kernel
theorem dX11_demote_35 : decode cX11_demote 35 = .ok (.goto 9, 3) := by decide +kernel
theorem dX11_demote_38 : decode cX11_demote 38 = .ok (.aload_n 2, 1) := by decide +kernel
theorem dX11_demote_39 : decode cX11_demote 39 = .ok (.getfield 76, 3) := by decide +kernel
theorem dX11_demote_42 : decode cX11_demote 42 = .ok (.iconst 1, 1) := by decide +kernel
theorem dX11_demote_43 : decode cX11_demote 43 = .ok (.isub, 1) := by decide +kernel
theorem dX11_demote_44 : decode cX11_demote 44 = .ok (.invokevirtual 81, 3) := by decide +kernel
theorem dX11_demote_47 : decode cX11_demote 47 = .ok (.ireturn, 1) := by decide +kernel
theorem dX11_toil_0 : decode cX11_toil 0 = .ok (.aload_n 0, 1) := by decide +kernel
theorem dX11_toil_1 : decode cX11_toil 1 = .ok (.getfield 10, 3) := by decide +kernel
theorem dX11_toil_4 : decode cX11_toil 4 = .ok (.iload_n 1, 1) := by decide +kernel
theorem dX11_toil_5 : decode cX11_toil 5 = .ok (.invokevirtual 72, 3) := by decide +kernel
theorem dX11_toil_8 : decode cX11_toil 8 = .ok (.astore_n 3, 1) := by decide +kernel
theorem dX11_toil_9 : decode cX11_toil 9 = .ok (.aload_n 3, 1) := by decide +kernel
theorem dX11_toil_10 : decode cX11_toil 10 = .ok (.ifnull 11, 3) := by decide +kernel
theorem dX11_toil_13 : decode cX11_toil 13 = .ok (.iconst 0, 1) := by decide +kernel
theorem dX11_toil_14 : decode cX11_toil 14 = .ok (.iload_n 2, 1) := by decide +kernel
theorem dX11_toil_15 : decode cX11_toil 15 = .ok (.invokestatic 85, 3) := by decide +kernel
theorem dX11_toil_18 : decode cX11_toil 18 = .ok (.ifCond .eq 7, 3) := by decide +kernel
theorem dX11_toil_21 : decode cX11_toil 21 = .ok (.ldc2_w 89, 3) := by decide +kernel
theorem dX11_toil_24 : decode cX11_toil 24 = .ok (.lreturn, 1) := by decide +kernel
theorem dX11_toil_25 : decode cX11_toil 25 = .ok (.aload_n 0, 1) := by decide +kernel
theorem dX11_toil_26 : decode cX11_toil 26 = .ok (.getfield 10, 3) := by decide +kernel
theorem dX11_toil_29 : decode cX11_toil 29 = .ok (.invokevirtual 91, 3) := by decide +kernel
theorem dX11_toil_32 : decode cX11_toil 32 = .ok (.aload_n 3, 1) := by decide +kernel
theorem dX11_toil_33 : decode cX11_toil 33 = .ok (.getfield 94, 3) := by decide +kernel
theorem dX11_toil_36 : decode cX11_toil 36 = .ok (.aload_n 0, 1) := by decide +kernel
theorem dX11_toil_37 : decode cX11_toil 37 = .ok (.getfield 10, 3) := by decide +kernel
theorem dX11_toil_40 : decode cX11_toil 40 = .ok (.aload_n 3, 1) := by decide +kernel
theorem dX11_toil_41 : decode cX11_toil 41 = .ok (.iload_n 2, 1) := by decide +kernel
theorem dX11_toil_42 : decode cX11_toil 42 = .ok (.invokevirtual 98, 3) := by decide +kernel
theorem dX11_toil_45 : decode cX11_toil 45 = .ok (.lreturn, 1) := by decide +kernel
theorem dX11_pay_0 : decode cX11_pay 0 = .ok (.aload_n 0, 1) := by decide +kernel
theorem dX11_pay_1 : decode cX11_pay 1 = .ok (.getfield 10, 3) := by decide +kernel
theorem dX11_pay_4 : decode cX11_pay 4 = .ok (.iload_n 1, 1) := by decide +kernel
theorem dX11_pay_5 : decode cX11_pay 5 = .ok (.invokevirtual 72, 3) := by decide +kernel
theorem dX11_pay_8 : decode cX11_pay 8 = .ok (.astore_n 3, 1) := by decide +kernel
theorem dX11_pay_9 : decode cX11_pay 9 = .ok (.aload_n 3, 1) := by decide +kernel
theorem dX11_pay_10 : decode cX11_pay 10 = .ok (.ifnull 11, 3) := by decide +kernel
theorem dX11_pay_13 : decode cX11_pay 13 = .ok (.iconst 1, 1) := by decide +kernel
theorem dX11_pay_14 : decode cX11_pay 14 = .ok (.iload_n 2, 1) := by decide +kernel
theorem dX11_pay_15 : decode cX11_pay 15 = .ok (.invokestatic 85, 3) := by decide +kernel
theorem dX11_pay_18 : decode cX11_pay 18 = .ok (.ifCond .eq 7, 3) := by decide +kernel
theorem dX11_pay_21 : decode cX11_pay 21 = .ok (.ldc2_w 89, 3) := by decide +kernel
theorem dX11_pay_24 : decode cX11_pay 24 = .ok (.lreturn, 1) := by decide +kernel
theorem dX11_pay_25 : decode cX11_pay 25 = .ok (.aload_n 0, 1) := by decide +kernel
theorem dX11_pay_26 : decode cX11_pay 26 = .ok (.getfield 10, 3) := by decide +kernel
theorem dX11_pay_29 : decode cX11_pay 29 = .ok (.invokevirtual 91, 3) := by decide +kernel
theorem dX11_pay_32 : decode cX11_pay 32 = .ok (.aload_n 3, 1) := by decide +kernel
theorem dX11_pay_33 : decode cX11_pay 33 = .ok (.getfield 94, 3) := by decide +kernel
theorem dX11_pay_36 : decode cX11_pay 36 = .ok (.aload_n 0, 1) := by decide +kernel
theorem dX11_pay_37 : decode cX11_pay 37 = .ok (.getfield 10, 3) := by decide +kernel
theorem dX11_pay_40 : decode cX11_pay 40 = .ok (.aload_n 3, 1) := by decide +kernel
theorem dX11_pay_41 : decode cX11_pay 41 = .ok (.iload_n 2, 1) := by decide +kernel
theorem dX11_pay_42 : decode cX11_pay 42 = .ok (.invokevirtual 102, 3) := by decide +kernel
theorem dX11_pay_45 : decode cX11_pay 45 = .ok (.lstore 4, 2) := by decide +kernel
theorem dX11_pay_47 : decode cX11_pay 47 = .ok (.aload_n 3, 1) := by decide +kernel
theorem dX11_pay_48 : decode cX11_pay 48 = .ok (.dup, 1) := by decide +kernel
theorem dX11_pay_49 : decode cX11_pay 49 = .ok (.getfield 105, 3) := by decide +kernel
theorem dX11_pay_52 : decode cX11_pay 52 = .ok (.lload 4, 2) := by decide +kernel
theorem dX11_pay_54 : decode cX11_pay 54 = .ok (.ladd, 1) := by decide +kernel
theorem dX11_pay_55 : decode cX11_pay 55 = .ok (.putfield 105, 3) := by decide +kernel
theorem dX11_pay_58 : decode cX11_pay 58 = .ok (.lload 4, 2) := by decide +kernel
theorem dX11_pay_60 : decode cX11_pay 60 = .ok (.lreturn, 1) := by decide +kernel
theorem dX11_climb_0 : decode cX11_climb 0 = .ok (.aload_n 0, 1) := by decide +kernel
theorem dX11_climb_1 : decode cX11_climb 1 = .ok (.getfield 10, 3) := by decide +kernel
theorem dX11_climb_4 : decode cX11_climb 4 = .ok (.iload_n 1, 1) := by decide +kernel
theorem dX11_climb_5 : decode cX11_climb 5 = .ok (.invokevirtual 72, 3) := by decide +kernel
theorem dX11_climb_8 : decode cX11_climb 8 = .ok (.astore_n 3, 1) := by decide +kernel
theorem dX11_climb_9 : decode cX11_climb 9 = .ok (.aload_n 3, 1) := by decide +kernel
theorem dX11_climb_10 : decode cX11_climb 10 = .ok (.ifnull 11, 3) := by decide +kernel
theorem dX11_climb_13 : decode cX11_climb 13 = .ok (.iconst 2, 1) := by decide +kernel
theorem dX11_climb_14 : decode cX11_climb 14 = .ok (.iload_n 2, 1) := by decide +kernel
theorem dX11_climb_15 : decode cX11_climb 15 = .ok (.invokestatic 85, 3) := by decide +kernel
theorem dX11_climb_18 : decode cX11_climb 18 = .ok (.ifCond .eq 6, 3) := by decide +kernel
theorem dX11_climb_21 : decode cX11_climb 21 = .ok (.ldc 67, 2) := by decide +kernel
theorem dX11_climb_23 : decode cX11_climb 23 = .ok (.ireturn, 1) := by decide +kernel
theorem dX11_climb_24 : decode cX11_climb 24 = .ok (.aload_n 0, 1) := by decide +kernel
theorem dX11_climb_25 : decode cX11_climb 25 = .ok (.getfield 10, 3) := by decide +kernel
theorem dX11_climb_28 : decode cX11_climb 28 = .ok (.invokevirtual 91, 3) := by decide +kernel
theorem dX11_climb_31 : decode cX11_climb 31 = .ok (.aload_n 3, 1) := by decide +kernel
theorem dX11_climb_32 : decode cX11_climb 32 = .ok (.getfield 94, 3) := by decide +kernel
theorem dX11_climb_35 : decode cX11_climb 35 = .ok (.aload_n 0, 1) := by decide +kernel
theorem dX11_climb_36 : decode cX11_climb 36 = .ok (.getfield 10, 3) := by decide +kernel
theorem dX11_climb_39 : decode cX11_climb 39 = .ok (.aload_n 3, 1) := by decide +kernel
theorem dX11_climb_40 : decode cX11_climb 40 = .ok (.iload_n 2, 1) := by decide +kernel
theorem dX11_climb_41 : decode cX11_climb 41 = .ok (.invokevirtual 109, 3) := by decide +kernel
theorem dX11_climb_44 : decode cX11_climb 44 = .ok (.ireturn, 1) := by decide +kernel
theorem dX11_heed_0 : decode cX11_heed 0 = .ok (.aload_n 0, 1) := by decide +kernel
theorem dX11_heed_1 : decode cX11_heed 1 = .ok (.getfield 10, 3) := by decide +kernel
theorem dX11_heed_4 : decode cX11_heed 4 = .ok (.iload_n 1, 1) := by decide +kernel
theorem dX11_heed_5 : decode cX11_heed 5 = .ok (.invokevirtual 72, 3) := by decide +kernel
theorem dX11_heed_8 : decode cX11_heed 8 = .ok (.astore_n 3, 1) := by decide +kernel
theorem dX11_heed_9 : decode cX11_heed 9 = .ok (.aload_n 3, 1) := by decide +kernel
theorem dX11_heed_10 : decode cX11_heed 10 = .ok (.ifnull 11, 3) := by decide +kernel
theorem dX11_heed_13 : decode cX11_heed 13 = .ok (.iconst 3, 1) := by decide +kernel
theorem dX11_heed_14 : decode cX11_heed 14 = .ok (.iload_n 2, 1) := by decide +kernel
theorem dX11_heed_15 : decode cX11_heed 15 = .ok (.invokestatic 85, 3) := by decide +kernel
theorem dX11_heed_18 : decode cX11_heed 18 = .ok (.ifCond .eq 6, 3) := by decide +kernel
theorem dX11_heed_21 : decode cX11_heed 21 = .ok (.ldc 67, 2) := by decide +kernel
theorem dX11_heed_23 : decode cX11_heed 23 = .ok (.ireturn, 1) := by decide +kernel
theorem dX11_heed_24 : decode cX11_heed 24 = .ok (.aload_n 0, 1) := by decide +kernel
theorem dX11_heed_25 : decode cX11_heed 25 = .ok (.getfield 10, 3) := by decide +kernel
theorem dX11_heed_28 : decode cX11_heed 28 = .ok (.invokevirtual 91, 3) := by decide +kernel
theorem dX11_heed_31 : decode cX11_heed 31 = .ok (.aload_n 3, 1) := by decide +kernel
theorem dX11_heed_32 : decode cX11_heed 32 = .ok (.getfield 94, 3) := by decide +kernel
theorem dX11_heed_35 : decode cX11_heed 35 = .ok (.aload_n 0, 1) := by decide +kernel
theorem dX11_heed_36 : decode cX11_heed 36 = .ok (.getfield 10, 3) := by decide +kernel
theorem dX11_heed_39 : decode cX11_heed 39 = .ok (.aload_n 3, 1) := by decide +kernel
theorem dX11_heed_40 : decode cX11_heed 40 = .ok (.iload_n 2, 1) := by decide +kernel
theorem dX11_heed_41 : decode cX11_heed 41 = .ok (.invokevirtual 113, 3) := by decide +kernel
theorem dX11_heed_44 : decode cX11_heed 44 = .ok (.ireturn, 1) := by decide +kernel
theorem dX11_race_0 : decode cX11_race 0 = .ok (.aload_n 0, 1) := by decide +kernel
theorem dX11_race_1 : decode cX11_race 1 = .ok (.getfield 10, 3) := by decide +kernel
theorem dX11_race_4 : decode cX11_race 4 = .ok (.iload_n 1, 1) := by decide +kernel
theorem dX11_race_5 : decode cX11_race 5 = .ok (.invokevirtual 72, 3) := by decide +kernel
theorem dX11_race_8 : decode cX11_race 8 = .ok (.astore 4, 2) := by decide +kernel
theorem dX11_race_10 : decode cX11_race 10 = .ok (.aload 4, 2) := by decide +kernel
theorem dX11_race_12 : decode cX11_race 12 = .ok (.ifnull 26, 3) := by decide +kernel
theorem dX11_race_15 : decode cX11_race 15 = .ok (.aload 4, 2) := by decide +kernel
theorem dX11_race_17 : decode cX11_race 17 = .ok (.invokevirtual 116, 3) := by decide +kernel
theorem dX11_race_20 : decode cX11_race 20 = .ok (.ifCond .eq 18, 3) := by decide +kernel
theorem dX11_race_23 : decode cX11_race 23 = .ok (.iconst 2, 1) := by decide +kernel
theorem dX11_race_24 : decode cX11_race 24 = .ok (.iload_n 2, 1) := by decide +kernel
theorem dX11_race_25 : decode cX11_race 25 = .ok (.invokestatic 85, 3) := by decide +kernel
theorem dX11_race_28 : decode cX11_race 28 = .ok (.ifCond .ne 10, 3) := by decide +kernel
theorem dX11_race_31 : decode cX11_race 31 = .ok (.iload_n 3, 1) := by decide +kernel
theorem dX11_race_32 : decode cX11_race 32 = .ok (.invokestatic 120, 3) := by decide +kernel
theorem dX11_race_35 : decode cX11_race 35 = .ok (.ifCond .ne 6, 3) := by decide +kernel
theorem dX11_race_38 : decode cX11_race 38 = .ok (.ldc 67, 2) := by decide +kernel
theorem dX11_race_40 : decode cX11_race 40 = .ok (.ireturn, 1) := by decide +kernel
theorem dX11_race_41 : decode cX11_race 41 = .ok (.aload_n 0, 1) := by decide +kernel
theorem dX11_race_42 : decode cX11_race 42 = .ok (.getfield 10, 3) := by decide +kernel
theorem dX11_race_45 : decode cX11_race 45 = .ok (.invokevirtual 91, 3) := by decide +kernel
theorem dX11_race_48 : decode cX11_race 48 = .ok (.aload 4, 2) := by decide +kernel
theorem dX11_race_50 : decode cX11_race 50 = .ok (.getfield 94, 3) := by decide +kernel
theorem dX11_race_53 : decode cX11_race 53 = .ok (.aload_n 0, 1) := by decide +kernel
theorem dX11_race_54 : decode cX11_race 54 = .ok (.getfield 10, 3) := by decide +kernel
theorem dX11_race_57 : decode cX11_race 57 = .ok (.aload 4, 2) := by decide +kernel
theorem dX11_race_59 : decode cX11_race 59 = .ok (.iload_n 2, 1) := by decide +kernel
theorem dX11_race_60 : decode cX11_race 60 = .ok (.iload_n 3, 1) := by decide +kernel
theorem dX11_race_61 : decode cX11_race 61 = .ok (.invokevirtual 123, 3) := by decide +kernel
theorem dX11_race_64 : decode cX11_race 64 = .ok (.ireturn, 1) := by decide +kernel
theorem dX11_due_0 : decode cX11_due 0 = .ok (.aload_n 0, 1) := by decide +kernel
theorem dX11_due_1 : decode cX11_due 1 = .ok (.getfield 10, 3) := by decide +kernel
theorem dX11_due_4 : decode cX11_due 4 = .ok (.iload_n 1, 1) := by decide +kernel
theorem dX11_due_5 : decode cX11_due 5 = .ok (.invokevirtual 72, 3) := by decide +kernel
theorem dX11_due_8 : decode cX11_due 8 = .ok (.astore 4, 2) := by decide +kernel
theorem dX11_due_10 : decode cX11_due 10 = .ok (.aload 4, 2) := by decide +kernel
theorem dX11_due_12 : decode cX11_due 12 = .ok (.ifnull 23, 3) := by decide +kernel
theorem dX11_due_15 : decode cX11_due 15 = .ok (.aload 4, 2) := by decide +kernel
theorem dX11_due_17 : decode cX11_due 17 = .ok (.invokevirtual 127, 3) := by decide +kernel
theorem dX11_due_20 : decode cX11_due 20 = .ok (.ifCond .eq 15, 3) := by decide +kernel
theorem dX11_due_23 : decode cX11_due 23 = .ok (.iconst 1, 1) := by decide +kernel
theorem dX11_due_24 : decode cX11_due 24 = .ok (.iload_n 2, 1) := by decide +kernel
theorem dX11_due_25 : decode cX11_due 25 = .ok (.invokestatic 85, 3) := by decide +kernel
theorem dX11_due_28 : decode cX11_due 28 = .ok (.ifCond .ne 7, 3) := by decide +kernel
theorem dX11_due_31 : decode cX11_due 31 = .ok (.iload_n 3, 1) := by decide +kernel
theorem dX11_due_32 : decode cX11_due 32 = .ok (.ifCond .ge 7, 3) := by decide +kernel
theorem dX11_due_35 : decode cX11_due 35 = .ok (.ldc2_w 89, 3) := by decide +kernel
theorem dX11_due_38 : decode cX11_due 38 = .ok (.lreturn, 1) := by decide +kernel
theorem dX11_due_39 : decode cX11_due 39 = .ok (.aload_n 0, 1) := by decide +kernel
theorem dX11_due_40 : decode cX11_due 40 = .ok (.getfield 10, 3) := by decide +kernel
theorem dX11_due_43 : decode cX11_due 43 = .ok (.invokevirtual 91, 3) := by decide +kernel
theorem dX11_due_46 : decode cX11_due 46 = .ok (.aload 4, 2) := by decide +kernel
theorem dX11_due_48 : decode cX11_due 48 = .ok (.getfield 94, 3) := by decide +kernel
theorem dX11_due_51 : decode cX11_due 51 = .ok (.aload_n 0, 1) := by decide +kernel
theorem dX11_due_52 : decode cX11_due 52 = .ok (.getfield 10, 3) := by decide +kernel
theorem dX11_due_55 : decode cX11_due 55 = .ok (.aload 4, 2) := by decide +kernel
theorem dX11_due_57 : decode cX11_due 57 = .ok (.iload_n 2, 1) := by decide +kernel
theorem dX11_due_58 : decode cX11_due 58 = .ok (.invokevirtual 102, 3) := by decide +kernel
theorem dX11_due_61 : decode cX11_due 61 = .ok (.iload_n 3, 1) := by decide +kernel
theorem dX11_due_62 : decode cX11_due 62 = .ok (.i2l, 1) := by decide +kernel
theorem dX11_due_63 : decode cX11_due 63 = .ok (.lsub, 1) := by decide +kernel
theorem dX11_due_64 : decode cX11_due 64 = .ok (.lstore 5, 2) := by decide +kernel
theorem dX11_due_66 : decode cX11_due 66 = .ok (.lload 5, 2) := by decide +kernel
theorem dX11_due_68 : decode cX11_due 68 = .ok (.lconst 0, 1) := by decide +kernel
theorem dX11_due_69 : decode cX11_due 69 = .ok (.lcmp, 1) := by decide +kernel
theorem dX11_due_70 : decode cX11_due 70 = .ok (.ifCond .ge 7, 3) := by decide +kernel
theorem dX11_due_73 : decode cX11_due 73 = .ok (.lconst 0, 1) := by decide +kernel
theorem dX11_due_74 : decode cX11_due 74 = .ok (.goto 5, 3) := by decide +kernel
theorem dX11_due_77 : decode cX11_due 77 = .ok (.lload 5, 2) := by decide +kernel
theorem dX11_due_79 : decode cX11_due 79 = .ok (.lreturn, 1) := by decide +kernel
theorem dX11_feed_0 : decode cX11_feed 0 = .ok (.aload_n 0, 1) := by decide +kernel
theorem dX11_feed_1 : decode cX11_feed 1 = .ok (.getfield 10, 3) := by decide +kernel
theorem dX11_feed_4 : decode cX11_feed 4 = .ok (.iload_n 1, 1) := by decide +kernel
theorem dX11_feed_5 : decode cX11_feed 5 = .ok (.invokevirtual 72, 3) := by decide +kernel
theorem dX11_feed_8 : decode cX11_feed 8 = .ok (.astore_n 3, 1) := by decide +kernel
theorem dX11_feed_9 : decode cX11_feed 9 = .ok (.aload_n 3, 1) := by decide +kernel
theorem dX11_feed_10 : decode cX11_feed 10 = .ok (.ifnull 18, 3) := by decide +kernel
theorem dX11_feed_13 : decode cX11_feed 13 = .ok (.aload_n 3, 1) := by decide +kernel
theorem dX11_feed_14 : decode cX11_feed 14 = .ok (.invokevirtual 130, 3) := by decide +kernel
theorem dX11_feed_17 : decode cX11_feed 17 = .ok (.ifCond .eq 11, 3) := by decide +kernel
theorem dX11_feed_20 : decode cX11_feed 20 = .ok (.iconst 0, 1) := by decide +kernel
theorem dX11_feed_21 : decode cX11_feed 21 = .ok (.iload_n 2, 1) := by decide +kernel
theorem dX11_feed_22 : decode cX11_feed 22 = .ok (.invokestatic 85, 3) := by decide +kernel
theorem dX11_feed_25 : decode cX11_feed 25 = .ok (.ifCond .eq 6, 3) := by decide +kernel
theorem dX11_feed_28 : decode cX11_feed 28 = .ok (.ldc 67, 2) := by decide +kernel
theorem dX11_feed_30 : decode cX11_feed 30 = .ok (.ireturn, 1) := by decide +kernel
theorem dX11_feed_31 : decode cX11_feed 31 = .ok (.aload_n 0, 1) := by decide +kernel
theorem dX11_feed_32 : decode cX11_feed 32 = .ok (.getfield 10, 3) := by decide +kernel
theorem dX11_feed_35 : decode cX11_feed 35 = .ok (.invokevirtual 91, 3) := by decide +kernel
theorem dX11_feed_38 : decode cX11_feed 38 = .ok (.aload_n 3, 1) := by decide +kernel
theorem dX11_feed_39 : decode cX11_feed 39 = .ok (.getfield 94, 3) := by decide +kernel
theorem dX11_feed_42 : decode cX11_feed 42 = .ok (.aload_n 0, 1) := by decide +kernel
theorem dX11_feed_43 : decode cX11_feed 43 = .ok (.getfield 10, 3) := by decide +kernel
theorem dX11_feed_46 : decode cX11_feed 46 = .ok (.aload_n 3, 1) := by decide +kernel
theorem dX11_feed_47 : decode cX11_feed 47 = .ok (.iload_n 2, 1) := by decide +kernel
theorem dX11_feed_48 : decode cX11_feed 48 = .ok (.invokevirtual 98, 3) := by decide +kernel
theorem dX11_feed_51 : decode cX11_feed 51 = .ok (.ldc2_w 133, 3) := by decide +kernel
theorem dX11_feed_54 : decode cX11_feed 54 = .ok (.ldiv, 1) := by decide +kernel
theorem dX11_feed_55 : decode cX11_feed 55 = .ok (.l2i, 1) := by decide +kernel
theorem dX11_feed_56 : decode cX11_feed 56 = .ok (.istore 4, 2) := by decide +kernel
theorem dX11_feed_58 : decode cX11_feed 58 = .ok (.aload_n 0, 1) := by decide +kernel
theorem dX11_feed_59 : decode cX11_feed 59 = .ok (.getfield 10, 3) := by decide +kernel
theorem dX11_feed_62 : decode cX11_feed 62 = .ok (.getfield 135, 3) := by decide +kernel
theorem dX11_feed_65 : decode cX11_feed 65 = .ok (.astore 5, 2) := by decide +kernel
theorem dX11_feed_67 : decode cX11_feed 67 = .ok (.aload 5, 2) := by decide +kernel
theorem dX11_feed_69 : decode cX11_feed 69 = .ok (.ifnull 27, 3) := by decide +kernel
theorem dX11_feed_72 : decode cX11_feed 72 = .ok (.aload 5, 2) := by decide +kernel
theorem dX11_feed_74 : decode cX11_feed 74 = .ok (.aload_n 3, 1) := by decide +kernel
theorem dX11_feed_75 : decode cX11_feed 75 = .ok (.if_acmp .eq 11, 3) := by decide +kernel
theorem dX11_feed_78 : decode cX11_feed 78 = .ok (.aload 5, 2) := by decide +kernel
theorem dX11_feed_80 : decode cX11_feed 80 = .ok (.iload 4, 2) := by decide +kernel
theorem dX11_feed_82 : decode cX11_feed 82 = .ok (.ineg, 1) := by decide +kernel
theorem dX11_feed_83 : decode cX11_feed 83 = .ok (.invokevirtual 139, 3) := by decide +kernel
theorem dX11_feed_86 : decode cX11_feed 86 = .ok (.aload 5, 2) := by decide +kernel
theorem dX11_feed_88 : decode cX11_feed 88 = .ok (.getfield 143, 3) := by decide +kernel
theorem dX11_feed_91 : decode cX11_feed 91 = .ok (.astore 5, 2) := by decide +kernel
theorem dX11_feed_93 : decode cX11_feed 93 = .ok (.goto (-26), 3) := by decide +kernel
theorem dX11_feed_96 : decode cX11_feed 96 = .ok (.iload 4, 2) := by decide +kernel
theorem dX11_feed_98 : decode cX11_feed 98 = .ok (.ireturn, 1) := by decide +kernel
theorem dX11_watch_0 : decode cX11_watch 0 = .ok (.iload_n 1, 1) := by decide +kernel
theorem dX11_watch_1 : decode cX11_watch 1 = .ok (.invokestatic 146, 3) := by decide +kernel
theorem dX11_watch_4 : decode cX11_watch 4 = .ok (.ifCond .eq 11, 3) := by decide +kernel
theorem dX11_watch_7 : decode cX11_watch 7 = .ok (.iload_n 1, 1) := by decide +kernel
theorem dX11_watch_8 : decode cX11_watch 8 = .ok (.iload_n 2, 1) := by decide +kernel
theorem dX11_watch_9 : decode cX11_watch 9 = .ok (.invokestatic 85, 3) := by decide +kernel
theorem dX11_watch_12 : decode cX11_watch 12 = .ok (.ifCond .eq 7, 3) := by decide +kernel
theorem dX11_watch_15 : decode cX11_watch 15 = .ok (.ldc2_w 89, 3) := by decide +kernel
theorem dX11_watch_18 : decode cX11_watch 18 = .ok (.lreturn, 1) := by decide +kernel
theorem dX11_watch_19 : decode cX11_watch 19 = .ok (.aload_n 0, 1) := by decide +kernel
theorem dX11_watch_20 : decode cX11_watch 20 = .ok (.getfield 10, 3) := by decide +kernel
theorem dX11_watch_23 : decode cX11_watch 23 = .ok (.invokevirtual 91, 3) := by decide +kernel
theorem dX11_watch_26 : decode cX11_watch 26 = .ok (.lconst 0, 1) := by decide +kernel
theorem dX11_watch_27 : decode cX11_watch 27 = .ok (.lstore_n 3, 1) := by decide +kernel
theorem dX11_watch_28 : decode cX11_watch 28 = .ok (.aload_n 0, 1) := by decide +kernel
theorem dX11_watch_29 : decode cX11_watch 29 = .ok (.getfield 10, 3) := by decide +kernel
theorem dX11_watch_32 : decode cX11_watch 32 = .ok (.getfield 135, 3) := by decide +kernel
theorem dX11_watch_35 : decode cX11_watch 35 = .ok (.astore 5, 2) := by decide +kernel
theorem dX11_watch_37 : decode cX11_watch 37 = .ok (.aload 5, 2) := by decide +kernel
theorem dX11_watch_39 : decode cX11_watch 39 = .ok (.ifnull 24, 3) := by decide +kernel
theorem dX11_watch_42 : decode cX11_watch 42 = .ok (.lload_n 3, 1) := by decide +kernel
theorem dX11_watch_43 : decode cX11_watch 43 = .ok (.aload_n 0, 1) := by decide +kernel
theorem dX11_watch_44 : decode cX11_watch 44 = .ok (.aload 5, 2) := by decide +kernel
theorem dX11_watch_46 : decode cX11_watch 46 = .ok (.iload_n 1, 1) := by decide +kernel
theorem dX11_watch_47 : decode cX11_watch 47 = .ok (.iload_n 2, 1) := by decide +kernel
theorem dX11_watch_48 : decode cX11_watch 48 = .ok (.invokevirtual 149, 3) := by decide +kernel
theorem dX11_watch_51 : decode cX11_watch 51 = .ok (.ladd, 1) := by decide +kernel
theorem dX11_watch_52 : decode cX11_watch 52 = .ok (.lstore_n 3, 1) := by decide +kernel
theorem dX11_watch_53 : decode cX11_watch 53 = .ok (.aload 5, 2) := by decide +kernel
theorem dX11_watch_55 : decode cX11_watch 55 = .ok (.getfield 143, 3) := by decide +kernel
theorem dX11_watch_58 : decode cX11_watch 58 = .ok (.astore 5, 2) := by decide +kernel
theorem dX11_watch_60 : decode cX11_watch 60 = .ok (.goto (-23), 3) := by decide +kernel
theorem dX11_watch_63 : decode cX11_watch 63 = .ok (.lload_n 3, 1) := by decide +kernel
theorem dX11_watch_64 : decode cX11_watch 64 = .ok (.lreturn, 1) := by decide +kernel
theorem dX11_line_0 : decode cX11_line 0 = .ok (.iload_n 1, 1) := by decide +kernel
theorem dX11_line_1 : decode cX11_line 1 = .ok (.ifCond .lt 9, 3) := by decide +kernel
theorem dX11_line_4 : decode cX11_line 4 = .ok (.iload_n 1, 1) := by decide +kernel
theorem dX11_line_5 : decode cX11_line 5 = .ok (.bipush 8, 2) := by decide +kernel
theorem dX11_line_7 : decode cX11_line 7 = .ok (.if_icmp .lt 6, 3) := by decide +kernel
theorem dX11_line_10 : decode cX11_line 10 = .ok (.ldc 67, 2) := by decide +kernel
theorem dX11_line_12 : decode cX11_line 12 = .ok (.ireturn, 1) := by decide +kernel
theorem dX11_line_13 : decode cX11_line 13 = .ok (.iload_n 2, 1) := by decide +kernel
theorem dX11_line_14 : decode cX11_line 14 = .ok (.iconst (-1), 1) := by decide +kernel
theorem dX11_line_15 : decode cX11_line 15 = .ok (.if_icmp .ne 12, 3) := by decide +kernel
theorem dX11_line_18 : decode cX11_line 18 = .ok (.aload_n 0, 1) := by decide +kernel
theorem dX11_line_19 : decode cX11_line 19 = .ok (.getfield 46, 3) := by decide +kernel
theorem dX11_line_22 : decode cX11_line 22 = .ok (.iload_n 1, 1) := by decide +kernel
theorem dX11_line_23 : decode cX11_line 23 = .ok (.iconst (-1), 1) := by decide +kernel
theorem dX11_line_24 : decode cX11_line 24 = .ok (.iastore, 1) := by decide +kernel
theorem dX11_line_25 : decode cX11_line 25 = .ok (.iconst 1, 1) := by decide +kernel
theorem dX11_line_26 : decode cX11_line 26 = .ok (.ireturn, 1) := by decide +kernel
theorem dX11_line_27 : decode cX11_line 27 = .ok (.iload_n 2, 1) := by decide +kernel
theorem dX11_line_28 : decode cX11_line 28 = .ok (.invokestatic 146, 3) := by decide +kernel
theorem dX11_line_31 : decode cX11_line 31 = .ok (.ifCond .eq 34, 3) := by decide +kernel
theorem dX11_line_34 : decode cX11_line 34 = .ok (.iload_n 2, 1) := by decide +kernel
theorem dX11_line_35 : decode cX11_line 35 = .ok (.iload_n 3, 1) := by decide +kernel
theorem dX11_line_36 : decode cX11_line 36 = .ok (.invokestatic 85, 3) := by decide +kernel
theorem dX11_line_39 : decode cX11_line 39 = .ok (.ifCond .ne 26, 3) := by decide +kernel
theorem dX11_line_42 : decode cX11_line 42 = .ok (.iload 4, 2) := by decide +kernel
theorem dX11_line_44 : decode cX11_line 44 = .ok (.invokestatic 59, 3) := by decide +kernel
theorem dX11_line_47 : decode cX11_line 47 = .ok (.ifCond .eq 18, 3) := by decide +kernel
theorem dX11_line_50 : decode cX11_line 50 = .ok (.iload 5, 2) := by decide +kernel
theorem dX11_line_52 : decode cX11_line 52 = .ok (.invokestatic 59, 3) := by decide +kernel
theorem dX11_line_55 : decode cX11_line 55 = .ok (.ifCond .eq 10, 3) := by decide +kernel
theorem dX11_line_58 : decode cX11_line 58 = .ok (.iload 4, 2) := by decide +kernel
theorem dX11_line_60 : decode cX11_line 60 = .ok (.iload 5, 2) := by decide +kernel
theorem dX11_line_62 : decode cX11_line 62 = .ok (.if_icmp .le 6, 3) := by decide +kernel
theorem dX11_line_65 : decode cX11_line 65 = .ok (.ldc 67, 2) := by decide +kernel
theorem dX11_line_67 : decode cX11_line 67 = .ok (.ireturn, 1) := by decide +kernel
theorem dX11_line_68 : decode cX11_line 68 = .ok (.aload_n 0, 1) := by decide +kernel
theorem dX11_line_69 : decode cX11_line 69 = .ok (.getfield 46, 3) := by decide +kernel
theorem dX11_line_72 : decode cX11_line 72 = .ok (.iload_n 1, 1) := by decide +kernel
theorem dX11_line_73 : decode cX11_line 73 = .ok (.iload_n 2, 1) := by decide +kernel
theorem dX11_line_74 : decode cX11_line 74 = .ok (.iastore, 1) := by decide +kernel
theorem dX11_line_75 : decode cX11_line 75 = .ok (.aload_n 0, 1) := by decide +kernel
theorem dX11_line_76 : decode cX11_line 76 = .ok (.getfield 50, 3) := by decide +kernel
theorem dX11_line_79 : decode cX11_line 79 = .ok (.iload_n 1, 1) := by decide +kernel
theorem dX11_line_80 : decode cX11_line 80 = .ok (.iload_n 3, 1) := by decide +kernel
theorem dX11_line_81 : decode cX11_line 81 = .ok (.iastore, 1) := by decide +kernel
theorem dX11_line_82 : decode cX11_line 82 = .ok (.aload_n 0, 1) := by decide +kernel
theorem dX11_line_83 : decode cX11_line 83 = .ok (.getfield 53, 3) := by decide +kernel
theorem dX11_line_86 : decode cX11_line 86 = .ok (.iload_n 1, 1) := by decide +kernel
theorem dX11_line_87 : decode cX11_line 87 = .ok (.iload 4, 2) := by decide +kernel
theorem dX11_line_89 : decode cX11_line 89 = .ok (.iastore, 1) := by decide +kernel
theorem dX11_line_90 : decode cX11_line 90 = .ok (.aload_n 0, 1) := by decide +kernel
theorem dX11_line_91 : decode cX11_line 91 = .ok (.getfield 56, 3) := by decide +kernel
theorem dX11_line_94 : decode cX11_line 94 = .ok (.iload_n 1, 1) := by decide +kernel
theorem dX11_line_95 : decode cX11_line 95 = .ok (.iload 5, 2) := by decide +kernel
theorem dX11_line_97 : decode cX11_line 97 = .ok (.iastore, 1) := by decide +kernel
theorem dX11_line_98 : decode cX11_line 98 = .ok (.iconst 1, 1) := by decide +kernel
theorem dX11_line_99 : decode cX11_line 99 = .ok (.ireturn, 1) := by decide +kernel
theorem dX11_sail_0 : decode cX11_sail 0 = .ok (.iload_n 1, 1) := by decide +kernel
theorem dX11_sail_1 : decode cX11_sail 1 = .ok (.invokestatic 120, 3) := by decide +kernel
theorem dX11_sail_4 : decode cX11_sail 4 = .ok (.ifCond .ne 7, 3) := by decide +kernel
theorem dX11_sail_7 : decode cX11_sail 7 = .ok (.ldc2_w 89, 3) := by decide +kernel
theorem dX11_sail_10 : decode cX11_sail 10 = .ok (.lreturn, 1) := by decide +kernel
theorem dX11_sail_11 : decode cX11_sail 11 = .ok (.aload_n 0, 1) := by decide +kernel
theorem dX11_sail_12 : decode cX11_sail 12 = .ok (.getfield 10, 3) := by decide +kernel
theorem dX11_sail_15 : decode cX11_sail 15 = .ok (.invokevirtual 91, 3) := by decide +kernel
theorem dX11_sail_18 : decode cX11_sail 18 = .ok (.lconst 0, 1) := by decide +kernel
theorem dX11_sail_19 : decode cX11_sail 19 = .ok (.lstore_n 2, 1) := by decide +kernel
theorem dX11_sail_20 : decode cX11_sail 20 = .ok (.iconst 0, 1) := by decide +kernel
theorem dX11_sail_21 : decode cX11_sail 21 = .ok (.istore 4, 2) := by decide +kernel
theorem dX11_sail_23 : decode cX11_sail 23 = .ok (.iload 4, 2) := by decide +kernel
theorem dX11_sail_25 : decode cX11_sail 25 = .ok (.iload_n 1, 1) := by decide +kernel
theorem dX11_sail_26 : decode cX11_sail 26 = .ok (.if_icmp .ge 71, 3) := by decide +kernel
theorem dX11_sail_29 : decode cX11_sail 29 = .ok (.iconst 0, 1) := by decide +kernel
theorem dX11_sail_30 : decode cX11_sail 30 = .ok (.istore 5, 2) := by decide +kernel
theorem dX11_sail_32 : decode cX11_sail 32 = .ok (.iload 5, 2) := by decide +kernel
theorem dX11_sail_34 : decode cX11_sail 34 = .ok (.bipush 8, 2) := by decide +kernel
theorem dX11_sail_36 : decode cX11_sail 36 = .ok (.if_icmp .ge 55, 3) := by decide +kernel
theorem dX11_sail_39 : decode cX11_sail 39 = .ok (.aload_n 0, 1) := by decide +kernel
theorem dX11_sail_40 : decode cX11_sail 40 = .ok (.getfield 46, 3) := by decide +kernel
theorem dX11_sail_43 : decode cX11_sail 43 = .ok (.iload 5, 2) := by decide +kernel
theorem dX11_sail_45 : decode cX11_sail 45 = .ok (.iaload, 1) := by decide +kernel
theorem dX11_sail_46 : decode cX11_sail 46 = .ok (.iconst (-1), 1) := by decide +kernel
theorem dX11_sail_47 : decode cX11_sail 47 = .ok (.if_icmp .eq 38, 3) := by decide +kernel
theorem dX11_sail_50 : decode cX11_sail 50 = .ok (.lload_n 2, 1) := by decide +kernel
theorem dX11_sail_51 : decode cX11_sail 51 = .ok (.aload_n 0, 1) := by decide +kernel
theorem dX11_sail_52 : decode cX11_sail 52 = .ok (.aload_n 0, 1) := by decide +kernel
theorem dX11_sail_53 : decode cX11_sail 53 = .ok (.getfield 46, 3) := by decide +kernel
theorem dX11_sail_56 : decode cX11_sail 56 = .ok (.iload 5, 2) := by decide +kernel
theorem dX11_sail_58 : decode cX11_sail 58 = .ok (.iaload, 1) := by decide +kernel
theorem dX11_sail_59 : decode cX11_sail 59 = .ok (.aload_n 0, 1) := by decide +kernel
theorem dX11_sail_60 : decode cX11_sail 60 = .ok (.getfield 50, 3) := by decide +kernel
theorem dX11_sail_63 : decode cX11_sail 63 = .ok (.iload 5, 2) := by decide +kernel
theorem dX11_sail_65 : decode cX11_sail 65 = .ok (.iaload, 1) := by decide +kernel
theorem dX11_sail_66 : decode cX11_sail 66 = .ok (.aload_n 0, 1) := by decide +kernel
theorem dX11_sail_67 : decode cX11_sail 67 = .ok (.getfield 53, 3) := by decide +kernel
theorem dX11_sail_70 : decode cX11_sail 70 = .ok (.iload 5, 2) := by decide +kernel
theorem dX11_sail_72 : decode cX11_sail 72 = .ok (.iaload, 1) := by decide +kernel
theorem dX11_sail_73 : decode cX11_sail 73 = .ok (.aload_n 0, 1) := by decide +kernel
theorem dX11_sail_74 : decode cX11_sail 74 = .ok (.getfield 56, 3) := by decide +kernel
theorem dX11_sail_77 : decode cX11_sail 77 = .ok (.iload 5, 2) := by decide +kernel
theorem dX11_sail_79 : decode cX11_sail 79 = .ok (.iaload, 1) := by decide +kernel
theorem dX11_sail_80 : decode cX11_sail 80 = .ok (.invokevirtual 153, 3) := by decide +kernel
theorem dX11_sail_83 : decode cX11_sail 83 = .ok (.ladd, 1) := by decide +kernel
theorem dX11_sail_84 : decode cX11_sail 84 = .ok (.lstore_n 2, 1) := by decide +kernel
theorem dX11_sail_85 : decode cX11_sail 85 = .ok (.iinc 5 1, 3) := by decide +kernel
theorem dX11_sail_88 : decode cX11_sail 88 = .ok (.goto (-56), 3) := by decide +kernel
theorem dX11_sail_91 : decode cX11_sail 91 = .ok (.iinc 4 1, 3) := by decide +kernel
theorem dX11_sail_94 : decode cX11_sail 94 = .ok (.goto (-71), 3) := by decide +kernel
theorem dX11_sail_97 : decode cX11_sail 97 = .ok (.lload_n 2, 1) := by decide +kernel
theorem dX11_sail_98 : decode cX11_sail 98 = .ok (.lreturn, 1) := by decide +kernel
theorem dX11_rest_0 : decode cX11_rest 0 = .ok (.iload_n 1, 1) := by decide +kernel
theorem dX11_rest_1 : decode cX11_rest 1 = .ok (.ifCond .lt 10, 3) := by decide +kernel
theorem dX11_rest_4 : decode cX11_rest 4 = .ok (.iload_n 1, 1) := by decide +kernel
theorem dX11_rest_5 : decode cX11_rest 5 = .ok (.sipush 1000, 3) := by decide +kernel
theorem dX11_rest_8 : decode cX11_rest 8 = .ok (.if_icmp .le 6, 3) := by decide +kernel
theorem dX11_rest_11 : decode cX11_rest 11 = .ok (.ldc 67, 2) := by decide +kernel
theorem dX11_rest_13 : decode cX11_rest 13 = .ok (.ireturn, 1) := by decide +kernel
theorem dX11_rest_14 : decode cX11_rest 14 = .ok (.aload_n 0, 1) := by decide +kernel
theorem dX11_rest_15 : decode cX11_rest 15 = .ok (.getfield 10, 3) := by decide +kernel
theorem dX11_rest_18 : decode cX11_rest 18 = .ok (.getfield 135, 3) := by decide +kernel
theorem dX11_rest_21 : decode cX11_rest 21 = .ok (.astore_n 2, 1) := by decide +kernel
theorem dX11_rest_22 : decode cX11_rest 22 = .ok (.aload_n 2, 1) := by decide +kernel
theorem dX11_rest_23 : decode cX11_rest 23 = .ok (.ifnull 17, 3) := by decide +kernel
theorem dX11_rest_26 : decode cX11_rest 26 = .ok (.aload_n 2, 1) := by decide +kernel
theorem dX11_rest_27 : decode cX11_rest 27 = .ok (.iload_n 1, 1) := by decide +kernel
theorem dX11_rest_28 : decode cX11_rest 28 = .ok (.ineg, 1) := by decide +kernel
theorem dX11_rest_29 : decode cX11_rest 29 = .ok (.invokevirtual 139, 3) := by decide +kernel
theorem dX11_rest_32 : decode cX11_rest 32 = .ok (.aload_n 2, 1) := by decide +kernel
theorem dX11_rest_33 : decode cX11_rest 33 = .ok (.getfield 143, 3) := by decide +kernel
theorem dX11_rest_36 : decode cX11_rest 36 = .ok (.astore_n 2, 1) := by decide +kernel
theorem dX11_rest_37 : decode cX11_rest 37 = .ok (.goto (-15), 3) := by decide +kernel
theorem dX11_rest_40 : decode cX11_rest 40 = .ok (.aload_n 0, 1) := by decide +kernel
theorem dX11_rest_41 : decode cX11_rest 41 = .ok (.getfield 10, 3) := by decide +kernel
theorem dX11_rest_44 : decode cX11_rest 44 = .ok (.getfield 63, 3) := by decide +kernel
theorem dX11_rest_47 : decode cX11_rest 47 = .ok (.ireturn, 1) := by decide +kernel
theorem dX11_told_0 : decode cX11_told 0 = .ok (.aload_n 0, 1) := by decide +kernel
theorem dX11_told_1 : decode cX11_told 1 = .ok (.getfield 10, 3) := by decide +kernel
theorem dX11_told_4 : decode cX11_told 4 = .ok (.iload_n 1, 1) := by decide +kernel
theorem dX11_told_5 : decode cX11_told 5 = .ok (.invokevirtual 72, 3) := by decide +kernel
theorem dX11_told_8 : decode cX11_told 8 = .ok (.astore_n 3, 1) := by decide +kernel
theorem dX11_told_9 : decode cX11_told 9 = .ok (.aload_n 3, 1) := by decide +kernel
theorem dX11_told_10 : decode cX11_told 10 = .ok (.ifnonnull 7, 3) := by decide +kernel
theorem dX11_told_13 : decode cX11_told 13 = .ok (.ldc2_w 89, 3) := by decide +kernel
theorem dX11_told_16 : decode cX11_told 16 = .ok (.lreturn, 1) := by decide +kernel
theorem dX11_told_17 : decode cX11_told 17 = .ok (.iload_n 2, 1) := by decide +kernel
theorem dX11_told_18 : decode cX11_told 18 = .ok (.tableswitch 104 0 6 #[42, 48, 54, 60, 65, 78, 91], 42) := by decide +kernel
theorem dX11_told_60 : decode cX11_told 60 = .ok (.aload_n 3, 1) := by decide +kernel
theorem dX11_told_61 : decode cX11_told 61 = .ok (.getfield 76, 3) := by decide +kernel
theorem dX11_told_64 : decode cX11_told 64 = .ok (.i2l, 1) := by decide +kernel
theorem dX11_told_65 : decode cX11_told 65 = .ok (.lreturn, 1) := by decide +kernel
theorem dX11_told_66 : decode cX11_told 66 = .ok (.aload_n 3, 1) := by decide +kernel
theorem dX11_told_67 : decode cX11_told 67 = .ok (.getfield 157, 3) := by decide +kernel
theorem dX11_told_70 : decode cX11_told 70 = .ok (.i2l, 1) := by decide +kernel
theorem dX11_told_71 : decode cX11_told 71 = .ok (.lreturn, 1) := by decide +kernel
theorem dX11_told_72 : decode cX11_told 72 = .ok (.aload_n 3, 1) := by decide +kernel
theorem dX11_told_73 : decode cX11_told 73 = .ok (.getfield 160, 3) := by decide +kernel
theorem dX11_told_76 : decode cX11_told 76 = .ok (.i2l, 1) := by decide +kernel
theorem dX11_told_77 : decode cX11_told 77 = .ok (.lreturn, 1) := by decide +kernel
theorem dX11_told_78 : decode cX11_told 78 = .ok (.aload_n 3, 1) := by decide +kernel
theorem dX11_told_79 : decode cX11_told 79 = .ok (.getfield 105, 3) := by decide +kernel
theorem dX11_told_82 : decode cX11_told 82 = .ok (.lreturn, 1) := by decide +kernel
theorem dX11_told_83 : decode cX11_told 83 = .ok (.aload_n 3, 1) := by decide +kernel
theorem dX11_told_84 : decode cX11_told 84 = .ok (.invokevirtual 116, 3) := by decide +kernel
theorem dX11_told_87 : decode cX11_told 87 = .ok (.ifCond .eq 7, 3) := by decide +kernel
theorem dX11_told_90 : decode cX11_told 90 = .ok (.lconst 1, 1) := by decide +kernel
theorem dX11_told_91 : decode cX11_told 91 = .ok (.goto 4, 3) := by decide +kernel
theorem dX11_told_94 : decode cX11_told 94 = .ok (.lconst 0, 1) := by decide +kernel
theorem dX11_told_95 : decode cX11_told 95 = .ok (.lreturn, 1) := by decide +kernel
theorem dX11_told_96 : decode cX11_told 96 = .ok (.aload_n 3, 1) := by decide +kernel
theorem dX11_told_97 : decode cX11_told 97 = .ok (.invokevirtual 127, 3) := by decide +kernel
theorem dX11_told_100 : decode cX11_told 100 = .ok (.ifCond .eq 7, 3) := by decide +kernel
theorem dX11_told_103 : decode cX11_told 103 = .ok (.lconst 1, 1) := by decide +kernel
theorem dX11_told_104 : decode cX11_told 104 = .ok (.goto 4, 3) := by decide +kernel
theorem dX11_told_107 : decode cX11_told 107 = .ok (.lconst 0, 1) := by decide +kernel
theorem dX11_told_108 : decode cX11_told 108 = .ok (.lreturn, 1) := by decide +kernel
theorem dX11_told_109 : decode cX11_told 109 = .ok (.aload_n 3, 1) := by decide +kernel
theorem dX11_told_110 : decode cX11_told 110 = .ok (.invokevirtual 130, 3) := by decide +kernel
theorem dX11_told_113 : decode cX11_told 113 = .ok (.ifCond .eq 7, 3) := by decide +kernel
theorem dX11_told_116 : decode cX11_told 116 = .ok (.lconst 1, 1) := by decide +kernel
theorem dX11_told_117 : decode cX11_told 117 = .ok (.goto 4, 3) := by decide +kernel
theorem dX11_told_120 : decode cX11_told 120 = .ok (.lconst 0, 1) := by decide +kernel
theorem dX11_told_121 : decode cX11_told 121 = .ok (.lreturn, 1) := by decide +kernel
theorem dX11_told_122 : decode cX11_told 122 = .ok (.ldc2_w 89, 3) := by decide +kernel
theorem dX11_told_125 : decode cX11_told 125 = .ok (.lreturn, 1) := by decide +kernel
theorem dX11_note_0 : decode cX11_note 0 = .ok (.iload_n 1, 1) := by decide +kernel
theorem dX11_note_1 : decode cX11_note 1 = .ok (.ifCond .lt 20, 3) := by decide +kernel
theorem dX11_note_4 : decode cX11_note 4 = .ok (.iload_n 1, 1) := by decide +kernel
theorem dX11_note_5 : decode cX11_note 5 = .ok (.aload_n 0, 1) := by decide +kernel
theorem dX11_note_6 : decode cX11_note 6 = .ok (.getfield 10, 3) := by decide +kernel
theorem dX11_note_9 : decode cX11_note 9 = .ok (.getfield 163, 3) := by decide +kernel
theorem dX11_note_12 : decode cX11_note 12 = .ok (.if_icmp .ge 9, 3) := by decide +kernel
theorem dX11_note_15 : decode cX11_note 15 = .ok (.iload_n 1, 1) := by decide +kernel
theorem dX11_note_16 : decode cX11_note 16 = .ok (.bipush 64, 2) := by decide +kernel
theorem dX11_note_18 : decode cX11_note 18 = .ok (.if_icmp .lt 6, 3) := by decide +kernel
theorem dX11_note_21 : decode cX11_note 21 = .ok (.ldc 67, 2) := by decide +kernel
theorem dX11_note_23 : decode cX11_note 23 = .ok (.ireturn, 1) := by decide +kernel
theorem dX11_note_24 : decode cX11_note 24 = .ok (.aload_n 0, 1) := by decide +kernel
theorem dX11_note_25 : decode cX11_note 25 = .ok (.getfield 10, 3) := by decide +kernel
theorem dX11_note_28 : decode cX11_note 28 = .ok (.getfield 166, 3) := by decide +kernel
theorem dX11_note_31 : decode cX11_note 31 = .ok (.iload_n 1, 1) := by decide +kernel
theorem dX11_note_32 : decode cX11_note 32 = .ok (.iaload, 1) := by decide +kernel
theorem dX11_note_33 : decode cX11_note 33 = .ok (.ireturn, 1) := by decide +kernel
theorem dX11_notes_0 : decode cX11_notes 0 = .ok (.aload_n 0, 1) := by decide +kernel
theorem dX11_notes_1 : decode cX11_notes 1 = .ok (.getfield 10, 3) := by decide +kernel
theorem dX11_notes_4 : decode cX11_notes 4 = .ok (.getfield 163, 3) := by decide +kernel
theorem dX11_notes_7 : decode cX11_notes 7 = .ok (.ireturn, 1) := by decide +kernel
theorem dX11_giveRank_0 : decode cX11_giveRank 0 = .ok (.iload_n 2, 1) := by decide +kernel
theorem dX11_giveRank_1 : decode cX11_giveRank 1 = .ok (.invokestatic 59, 3) := by decide +kernel
theorem dX11_giveRank_4 : decode cX11_giveRank 4 = .ok (.ifCond .ne 6, 3) := by decide +kernel
theorem dX11_giveRank_7 : decode cX11_giveRank 7 = .ok (.ldc 67, 2) := by decide +kernel
theorem dX11_giveRank_9 : decode cX11_giveRank 9 = .ok (.ireturn, 1) := by decide +kernel
theorem dX11_giveRank_10 : decode cX11_giveRank 10 = .ok (.aload_n 1, 1) := by decide +kernel
theorem dX11_giveRank_11 : decode cX11_giveRank 11 = .ok (.iload_n 2, 1) := by decide +kernel
theorem dX11_giveRank_12 : decode cX11_giveRank 12 = .ok (.putfield 76, 3) := by decide +kernel
theorem dX11_giveRank_15 : decode cX11_giveRank 15 = .ok (.aload_n 1, 1) := by decide +kernel
theorem dX11_giveRank_16 : decode cX11_giveRank 16 = .ok (.aload_n 0, 1) := by decide +kernel
theorem dX11_giveRank_17 : decode cX11_giveRank 17 = .ok (.getfield 42, 3) := by decide +kernel
theorem dX11_giveRank_20 : decode cX11_giveRank 20 = .ok (.iload_n 2, 1) := by decide +kernel
theorem dX11_giveRank_21 : decode cX11_giveRank 21 = .ok (.aaload, 1) := by decide +kernel
theorem dX11_giveRank_22 : decode cX11_giveRank 22 = .ok (.putfield 94, 3) := by decide +kernel
theorem dX11_giveRank_25 : decode cX11_giveRank 25 = .ok (.iload_n 2, 1) := by decide +kernel
theorem dX11_giveRank_26 : decode cX11_giveRank 26 = .ok (.ireturn, 1) := by decide +kernel
theorem dX11_sailLine_0 : decode cX11_sailLine 0 = .ok (.lconst 0, 1) := by decide +kernel
theorem dX11_sailLine_1 : decode cX11_sailLine 1 = .ok (.lstore 5, 2) := by decide +kernel
theorem dX11_sailLine_3 : decode cX11_sailLine 3 = .ok (.aload_n 0, 1) := by decide +kernel
theorem dX11_sailLine_4 : decode cX11_sailLine 4 = .ok (.getfield 10, 3) := by decide +kernel
theorem dX11_sailLine_7 : decode cX11_sailLine 7 = .ok (.getfield 135, 3) := by decide +kernel
theorem dX11_sailLine_10 : decode cX11_sailLine 10 = .ok (.astore 7, 2) := by decide +kernel
theorem dX11_sailLine_12 : decode cX11_sailLine 12 = .ok (.aload 7, 2) := by decide +kernel
theorem dX11_sailLine_14 : decode cX11_sailLine 14 = .ok (.ifnull 66, 3) := by decide +kernel
theorem dX11_sailLine_17 : decode cX11_sailLine 17 = .ok (.aload 7, 2) := by decide +kernel
theorem dX11_sailLine_19 : decode cX11_sailLine 19 = .ok (.getfield 76, 3) := by decide +kernel
theorem dX11_sailLine_22 : decode cX11_sailLine 22 = .ok (.iload_n 3, 1) := by decide +kernel
theorem dX11_sailLine_23 : decode cX11_sailLine 23 = .ok (.if_icmp .lt 47, 3) := by decide +kernel
theorem dX11_sailLine_26 : decode cX11_sailLine 26 = .ok (.aload 7, 2) := by decide +kernel
theorem dX11_sailLine_28 : decode cX11_sailLine 28 = .ok (.getfield 76, 3) := by decide +kernel
theorem dX11_sailLine_31 : decode cX11_sailLine 31 = .ok (.iload 4, 2) := by decide +kernel
theorem dX11_sailLine_33 : decode cX11_sailLine 33 = .ok (.if_icmp .gt 37, 3) := by decide +kernel
theorem dX11_sailLine_36 : decode cX11_sailLine 36 = .ok (.aload_n 0, 1) := by decide +kernel
theorem dX11_sailLine_37 : decode cX11_sailLine 37 = .ok (.aload 7, 2) := by decide +kernel
theorem dX11_sailLine_39 : decode cX11_sailLine 39 = .ok (.iload_n 1, 1) := by decide +kernel
theorem dX11_sailLine_40 : decode cX11_sailLine 40 = .ok (.iload_n 2, 1) := by decide +kernel
theorem dX11_sailLine_41 : decode cX11_sailLine 41 = .ok (.invokevirtual 149, 3) := by decide +kernel
theorem dX11_sailLine_44 : decode cX11_sailLine 44 = .ok (.lstore 8, 2) := by decide +kernel
theorem dX11_sailLine_46 : decode cX11_sailLine 46 = .ok (.iload_n 1, 1) := by decide +kernel
theorem dX11_sailLine_47 : decode cX11_sailLine 47 = .ok (.iconst 1, 1) := by decide +kernel
theorem dX11_sailLine_48 : decode cX11_sailLine 48 = .ok (.if_icmp .ne 15, 3) := by decide +kernel
theorem dX11_sailLine_51 : decode cX11_sailLine 51 = .ok (.aload 7, 2) := by decide +kernel
theorem dX11_sailLine_53 : decode cX11_sailLine 53 = .ok (.dup, 1) := by decide +kernel
theorem dX11_sailLine_54 : decode cX11_sailLine 54 = .ok (.getfield 105, 3) := by decide +kernel
theorem dX11_sailLine_57 : decode cX11_sailLine 57 = .ok (.lload 8, 2) := by decide +kernel
theorem dX11_sailLine_59 : decode cX11_sailLine 59 = .ok (.ladd, 1) := by decide +kernel
theorem dX11_sailLine_60 : decode cX11_sailLine 60 = .ok (.putfield 105, 3) := by decide +kernel
theorem dX11_sailLine_63 : decode cX11_sailLine 63 = .ok (.lload 5, 2) := by decide +kernel
theorem dX11_sailLine_65 : decode cX11_sailLine 65 = .ok (.lload 8, 2) := by decide +kernel
theorem dX11_sailLine_67 : decode cX11_sailLine 67 = .ok (.ladd, 1) := by decide +kernel
theorem dX11_sailLine_68 : decode cX11_sailLine 68 = .ok (.lstore 5, 2) := by decide +kernel
theorem dX11_sailLine_70 : decode cX11_sailLine 70 = .ok (.aload 7, 2) := by decide +kernel
theorem dX11_sailLine_72 : decode cX11_sailLine 72 = .ok (.getfield 143, 3) := by decide +kernel
theorem dX11_sailLine_75 : decode cX11_sailLine 75 = .ok (.astore 7, 2) := by decide +kernel
theorem dX11_sailLine_77 : decode cX11_sailLine 77 = .ok (.goto (-65), 3) := by decide +kernel
theorem dX11_sailLine_80 : decode cX11_sailLine 80 = .ok (.lload 5, 2) := by decide +kernel
theorem dX11_sailLine_82 : decode cX11_sailLine 82 = .ok (.lreturn, 1) := by decide +kernel
theorem dX11_doDuty_0 : decode cX11_doDuty 0 = .ok (.iload_n 2, 1) := by decide +kernel
theorem dX11_doDuty_1 : decode cX11_doDuty 1 = .ok (.tableswitch 70 0 2 #[27, 41, 55], 27) := by decide +kernel
theorem dX11_doDuty_28 : decode cX11_doDuty 28 = .ok (.aload_n 1, 1) := by decide +kernel
theorem dX11_doDuty_29 : decode cX11_doDuty 29 = .ok (.getfield 94, 3) := by decide +kernel
theorem dX11_doDuty_32 : decode cX11_doDuty 32 = .ok (.aload_n 0, 1) := by decide +kernel
theorem dX11_doDuty_33 : decode cX11_doDuty 33 = .ok (.getfield 10, 3) := by decide +kernel
theorem dX11_doDuty_36 : decode cX11_doDuty 36 = .ok (.aload_n 1, 1) := by decide +kernel
theorem dX11_doDuty_37 : decode cX11_doDuty 37 = .ok (.iload_n 3, 1) := by decide +kernel
theorem dX11_doDuty_38 : decode cX11_doDuty 38 = .ok (.invokevirtual 98, 3) := by decide +kernel
theorem dX11_doDuty_41 : decode cX11_doDuty 41 = .ok (.lreturn, 1) := by decide +kernel
theorem dX11_doDuty_42 : decode cX11_doDuty 42 = .ok (.aload_n 1, 1) := by decide +kernel
theorem dX11_doDuty_43 : decode cX11_doDuty 43 = .ok (.getfield 94, 3) := by decide +kernel
theorem dX11_doDuty_46 : decode cX11_doDuty 46 = .ok (.aload_n 0, 1) := by decide +kernel
theorem dX11_doDuty_47 : decode cX11_doDuty 47 = .ok (.getfield 10, 3) := by decide +kernel
theorem dX11_doDuty_50 : decode cX11_doDuty 50 = .ok (.aload_n 1, 1) := by decide +kernel
theorem dX11_doDuty_51 : decode cX11_doDuty 51 = .ok (.iload_n 3, 1) := by decide +kernel
theorem dX11_doDuty_52 : decode cX11_doDuty 52 = .ok (.invokevirtual 102, 3) := by decide +kernel
theorem dX11_doDuty_55 : decode cX11_doDuty 55 = .ok (.lreturn, 1) := by decide +kernel
theorem dX11_doDuty_56 : decode cX11_doDuty 56 = .ok (.aload_n 1, 1) := by decide +kernel
theorem dX11_doDuty_57 : decode cX11_doDuty 57 = .ok (.getfield 94, 3) := by decide +kernel
theorem dX11_doDuty_60 : decode cX11_doDuty 60 = .ok (.aload_n 0, 1) := by decide +kernel
theorem dX11_doDuty_61 : decode cX11_doDuty 61 = .ok (.getfield 10, 3) := by decide +kernel
theorem dX11_doDuty_64 : decode cX11_doDuty 64 = .ok (.aload_n 1, 1) := by decide +kernel
theorem dX11_doDuty_65 : decode cX11_doDuty 65 = .ok (.iload_n 3, 1) := by decide +kernel
theorem dX11_doDuty_66 : decode cX11_doDuty 66 = .ok (.invokevirtual 109, 3) := by decide +kernel
theorem dX11_doDuty_69 : decode cX11_doDuty 69 = .ok (.i2l, 1) := by decide +kernel
theorem dX11_doDuty_70 : decode cX11_doDuty 70 = .ok (.lreturn, 1) := by decide +kernel
theorem dX11_doDuty_71 : decode cX11_doDuty 71 = .ok (.aload_n 1, 1) := by decide +kernel
theorem dX11_doDuty_72 : decode cX11_doDuty 72 = .ok (.getfield 94, 3) := by decide +kernel
theorem dX11_doDuty_75 : decode cX11_doDuty 75 = .ok (.aload_n 0, 1) := by decide +kernel
theorem dX11_doDuty_76 : decode cX11_doDuty 76 = .ok (.getfield 10, 3) := by decide +kernel
theorem dX11_doDuty_79 : decode cX11_doDuty 79 = .ok (.aload_n 1, 1) := by decide +kernel
theorem dX11_doDuty_80 : decode cX11_doDuty 80 = .ok (.iload_n 3, 1) := by decide +kernel
theorem dX11_doDuty_81 : decode cX11_doDuty 81 = .ok (.invokevirtual 113, 3) := by decide +kernel
theorem dX11_doDuty_84 : decode cX11_doDuty 84 = .ok (.i2l, 1) := by decide +kernel
theorem dX11_doDuty_85 : decode cX11_doDuty 85 = .ok (.lreturn, 1) := by decide +kernel
theorem dX11_isRank_0 : decode cX11_isRank 0 = .ok (.iload_n 0, 1) := by decide +kernel
theorem dX11_isRank_1 : decode cX11_isRank 1 = .ok (.ifCond .lt 13, 3) := by decide +kernel
theorem dX11_isRank_4 : decode cX11_isRank 4 = .ok (.iload_n 0, 1) := by decide +kernel
theorem dX11_isRank_5 : decode cX11_isRank 5 = .ok (.bipush 7, 2) := by decide +kernel
theorem dX11_isRank_7 : decode cX11_isRank 7 = .ok (.if_icmp .gt 7, 3) := by decide +kernel
theorem dX11_isRank_10 : decode cX11_isRank 10 = .ok (.iconst 1, 1) := by decide +kernel
theorem dX11_isRank_11 : decode cX11_isRank 11 = .ok (.goto 4, 3) := by decide +kernel
theorem dX11_isRank_14 : decode cX11_isRank 14 = .ok (.iconst 0, 1) := by decide +kernel
theorem dX11_isRank_15 : decode cX11_isRank 15 = .ok (.ireturn, 1) := by decide +kernel
theorem dX11_isDuty_0 : decode cX11_isDuty 0 = .ok (.iload_n 0, 1) := by decide +kernel
theorem dX11_isDuty_1 : decode cX11_isDuty 1 = .ok (.ifCond .lt 12, 3) := by decide +kernel
theorem dX11_isDuty_4 : decode cX11_isDuty 4 = .ok (.iload_n 0, 1) := by decide +kernel
theorem dX11_isDuty_5 : decode cX11_isDuty 5 = .ok (.iconst 3, 1) := by decide +kernel
theorem dX11_isDuty_6 : decode cX11_isDuty 6 = .ok (.if_icmp .gt 7, 3) := by decide +kernel
theorem dX11_isDuty_9 : decode cX11_isDuty 9 = .ok (.iconst 1, 1) := by decide +kernel
theorem dX11_isDuty_10 : decode cX11_isDuty 10 = .ok (.goto 4, 3) := by decide +kernel
theorem dX11_isDuty_13 : decode cX11_isDuty 13 = .ok (.iconst 0, 1) := by decide +kernel
theorem dX11_isDuty_14 : decode cX11_isDuty 14 = .ok (.ireturn, 1) := by decide +kernel
theorem dX11_isTimes_0 : decode cX11_isTimes 0 = .ok (.iload_n 0, 1) := by decide +kernel
theorem dX11_isTimes_1 : decode cX11_isTimes 1 = .ok (.ifCond .lt 13, 3) := by decide +kernel
theorem dX11_isTimes_4 : decode cX11_isTimes 4 = .ok (.iload_n 0, 1) := by decide +kernel
theorem dX11_isTimes_5 : decode cX11_isTimes 5 = .ok (.bipush 20, 2) := by decide +kernel
theorem dX11_isTimes_7 : decode cX11_isTimes 7 = .ok (.if_icmp .gt 7, 3) := by decide +kernel
theorem dX11_isTimes_10 : decode cX11_isTimes 10 = .ok (.iconst 1, 1) := by decide +kernel
theorem dX11_isTimes_11 : decode cX11_isTimes 11 = .ok (.goto 4, 3) := by decide +kernel
theorem dX11_isTimes_14 : decode cX11_isTimes 14 = .ok (.iconst 0, 1) := by decide +kernel
theorem dX11_isTimes_15 : decode cX11_isTimes 15 = .ok (.ireturn, 1) := by decide +kernel
theorem dX11_isBeyondBound_0 : decode cX11_isBeyondBound 0 = .ok (.iload_n 1, 1) := by decide +kernel
theorem dX11_isBeyondBound_1 : decode cX11_isBeyondBound 1 = .ok (.ifCond .lt 11, 3) := by decide +kernel
theorem dX11_isBeyondBound_4 : decode cX11_isBeyondBound 4 = .ok (.iload_n 1, 1) := by decide +kernel
theorem dX11_isBeyondBound_5 : decode cX11_isBeyondBound 5 = .ok (.iload_n 0, 1) := by decide +kernel
theorem dX11_isBeyondBound_6 : decode cX11_isBeyondBound 6 = .ok (.invokestatic 169, 3) := by decide +kernel
theorem dX11_isBeyondBound_9 : decode cX11_isBeyondBound 9 = .ok (.if_icmp .le 7, 3) := by decide +kernel
theorem dX11_isBeyondBound_12 : decode cX11_isBeyondBound 12 = .ok (.iconst 1, 1) := by decide +kernel
theorem dX11_isBeyondBound_13 : decode cX11_isBeyondBound 13 = .ok (.goto 4, 3) := by decide +kernel
theorem dX11_isBeyondBound_16 : decode cX11_isBeyondBound 16 = .ok (.iconst 0, 1) := by decide +kernel
theorem dX11_isBeyondBound_17 : decode cX11_isBeyondBound 17 = .ok (.ireturn, 1) := by decide +kernel
theorem dX11_boundOf_0 : decode cX11_boundOf 0 = .ok (.iload_n 0, 1) := by decide +kernel
theorem dX11_boundOf_1 : decode cX11_boundOf 1 = .ok (.tableswitch 38 0 2 #[27, 30, 34], 27) := by decide +kernel
theorem dX11_boundOf_28 : decode cX11_boundOf 28 = .ok (.bipush 100, 2) := by decide +kernel
theorem dX11_boundOf_30 : decode cX11_boundOf 30 = .ok (.ireturn, 1) := by decide +kernel
theorem dX11_boundOf_31 : decode cX11_boundOf 31 = .ok (.sipush 1000, 3) := by decide +kernel
theorem dX11_boundOf_34 : decode cX11_boundOf 34 = .ok (.ireturn, 1) := by decide +kernel
theorem dX11_boundOf_35 : decode cX11_boundOf 35 = .ok (.sipush 200, 3) := by decide +kernel
theorem dX11_boundOf_38 : decode cX11_boundOf 38 = .ok (.ireturn, 1) := by decide +kernel
theorem dX11_boundOf_39 : decode cX11_boundOf 39 = .ok (.sipush 9999, 3) := by decide +kernel
theorem dX11_boundOf_42 : decode cX11_boundOf 42 = .ok (.ireturn, 1) := by decide +kernel
