theorem dX0_init_0 : decode cX0_init 0 = .ok (.aload_n 0, 1) := by decide +kernel
theorem dX0_init_1 : decode cX0_init 1 = .ok (.invokespecial 3, 3) := by decide +kernel
theorem dX0_init_4 : decode cX0_init 4 = .ok (.return_, 1) := by decide +kernel
theorem dX0_payWay_0 : decode cX0_payWay 0 = .ok (.aload_n 1, 1) := by decide +kernel
theorem dX0_payWay_1 : decode cX0_payWay 1 = .ok (.iconst 3, 1) := by decide +kernel
theorem dX0_payWay_2 : decode cX0_payWay 2 = .ok (.iconst 1, 1) := by decide +kernel
theorem dX0_payWay_3 : decode cX0_payWay 3 = .ok (.invokevirtual 9, 3) := by decide +kernel
theorem dX0_payWay_6 : decode cX0_payWay 6 = .ok (.aload_n 0, 1) := by decide +kernel
theorem dX0_payWay_7 : decode cX0_payWay 7 = .ok (.aload_n 1, 1) := by decide +kernel
theorem dX0_payWay_8 : decode cX0_payWay 8 = .ok (.aload_n 2, 1) := by decide +kernel
theorem dX0_payWay_9 : decode cX0_payWay 9 = .ok (.iload_n 3, 1) := by decide +kernel
theorem dX0_payWay_10 : decode cX0_payWay 10 = .ok (.invokespecial 15, 3) := by decide +kernel
theorem dX0_payWay_13 : decode cX0_payWay 13 = .ok (.ldc2_w 19, 3) := by decide +kernel
theorem dX0_payWay_16 : decode cX0_payWay 16 = .ok (.iload_n 3, 1) := by decide +kernel
theorem dX0_payWay_17 : decode cX0_payWay 17 = .ok (.i2l, 1) := by decide +kernel
theorem dX0_payWay_18 : decode cX0_payWay 18 = .ok (.lmul, 1) := by decide +kernel
theorem dX0_payWay_19 : decode cX0_payWay 19 = .ok (.ladd, 1) := by decide +kernel
theorem dX0_payWay_20 : decode cX0_payWay 20 = .ok (.lstore 4, 2) := by decide +kernel
theorem dX0_payWay_22 : decode cX0_payWay 22 = .ok (.aload_n 1, 1) := by decide +kernel
theorem dX0_payWay_23 : decode cX0_payWay 23 = .ok (.getfield 21, 3) := by decide +kernel
theorem dX0_payWay_26 : decode cX0_payWay 26 = .ok (.astore 6, 2) := by decide +kernel
theorem dX0_payWay_28 : decode cX0_payWay 28 = .ok (.aload 6, 2) := by decide +kernel
theorem dX0_payWay_30 : decode cX0_payWay 30 = .ok (.ifnull 28, 3) := by decide +kernel
theorem dX0_payWay_33 : decode cX0_payWay 33 = .ok (.aload 6, 2) := by decide +kernel
theorem dX0_payWay_35 : decode cX0_payWay 35 = .ok (.invokevirtual 25, 3) := by decide +kernel
theorem dX0_payWay_38 : decode cX0_payWay 38 = .ok (.ifCond .eq 10, 3) := by decide +kernel
theorem dX0_payWay_41 : decode cX0_payWay 41 = .ok (.lload 4, 2) := by decide +kernel
theorem dX0_payWay_43 : decode cX0_payWay 43 = .ok (.iload_n 3, 1) := by decide +kernel
theorem dX0_payWay_44 : decode cX0_payWay 44 = .ok (.i2l, 1) := by decide +kernel
theorem dX0_payWay_45 : decode cX0_payWay 45 = .ok (.ladd, 1) := by decide +kernel
theorem dX0_payWay_46 : decode cX0_payWay 46 = .ok (.lstore 4, 2) := by decide +kernel
theorem dX0_payWay_48 : decode cX0_payWay 48 = .ok (.aload 6, 2) := by decide +kernel
theorem dX0_payWay_50 : decode cX0_payWay 50 = .ok (.getfield 31, 3) := by decide +kernel
theorem dX0_payWay_53 : decode cX0_payWay 53 = .ok (.astore 6, 2) := by decide +kernel
theorem dX0_payWay_55 : decode cX0_payWay 55 = .ok (.goto (-27), 3) := by decide +kernel
theorem dX0_payWay_58 : decode cX0_payWay 58 = .ok (.lload 4, 2) := by decide +kernel
theorem dX0_payWay_60 : decode cX0_payWay 60 = .ok (.lreturn, 1) := by decide +kernel
theorem dX0_heedWay_0 : decode cX0_heedWay 0 = .ok (.aload_n 1, 1) := by decide +kernel
theorem dX0_heedWay_1 : decode cX0_heedWay 1 = .ok (.iconst 3, 1) := by decide +kernel
theorem dX0_heedWay_2 : decode cX0_heedWay 2 = .ok (.iconst 3, 1) := by decide +kernel
theorem dX0_heedWay_3 : decode cX0_heedWay 3 = .ok (.invokevirtual 9, 3) := by decide +kernel
theorem dX0_heedWay_6 : decode cX0_heedWay 6 = .ok (.aload_n 0, 1) := by decide +kernel
theorem dX0_heedWay_7 : decode cX0_heedWay 7 = .ok (.aload_n 1, 1) := by decide +kernel
theorem dX0_heedWay_8 : decode cX0_heedWay 8 = .ok (.aload_n 2, 1) := by decide +kernel
theorem dX0_heedWay_9 : decode cX0_heedWay 9 = .ok (.iload_n 3, 1) := by decide +kernel
theorem dX0_heedWay_10 : decode cX0_heedWay 10 = .ok (.invokespecial 34, 3) := by decide +kernel
theorem dX0_heedWay_13 : decode cX0_heedWay 13 = .ok (.istore 4, 2) := by decide +kernel
theorem dX0_heedWay_15 : decode cX0_heedWay 15 = .ok (.aload_n 1, 1) := by decide +kernel
theorem dX0_heedWay_16 : decode cX0_heedWay 16 = .ok (.getfield 21, 3) := by decide +kernel
theorem dX0_heedWay_19 : decode cX0_heedWay 19 = .ok (.astore 5, 2) := by decide +kernel
theorem dX0_heedWay_21 : decode cX0_heedWay 21 = .ok (.aload 5, 2) := by decide +kernel
theorem dX0_heedWay_23 : decode cX0_heedWay 23 = .ok (.ifnull 38, 3) := by decide +kernel
theorem dX0_heedWay_26 : decode cX0_heedWay 26 = .ok (.aload 5, 2) := by decide +kernel
theorem dX0_heedWay_28 : decode cX0_heedWay 28 = .ok (.invokevirtual 25, 3) := by decide +kernel
theorem dX0_heedWay_31 : decode cX0_heedWay 31 = .ok (.ifCond .eq 20, 3) := by decide +kernel
theorem dX0_heedWay_34 : decode cX0_heedWay 34 = .ok (.iload 4, 2) := by decide +kernel
theorem dX0_heedWay_36 : decode cX0_heedWay 36 = .ok (.aload 5, 2) := by decide +kernel
theorem dX0_heedWay_38 : decode cX0_heedWay 38 = .ok (.getfield 38, 3) := by decide +kernel
theorem dX0_heedWay_41 : decode cX0_heedWay 41 = .ok (.aload_n 1, 1) := by decide +kernel
theorem dX0_heedWay_42 : decode cX0_heedWay 42 = .ok (.aload 5, 2) := by decide +kernel
theorem dX0_heedWay_44 : decode cX0_heedWay 44 = .ok (.iload_n 3, 1) := by decide +kernel
theorem dX0_heedWay_45 : decode cX0_heedWay 45 = .ok (.invokevirtual 42, 3) := by decide +kernel
theorem dX0_heedWay_48 : decode cX0_heedWay 48 = .ok (.iadd, 1) := by decide +kernel
theorem dX0_heedWay_49 : decode cX0_heedWay 49 = .ok (.istore 4, 2) := by decide +kernel
theorem dX0_heedWay_51 : decode cX0_heedWay 51 = .ok (.aload 5, 2) := by decide +kernel
theorem dX0_heedWay_53 : decode cX0_heedWay 53 = .ok (.getfield 31, 3) := by decide +kernel
theorem dX0_heedWay_56 : decode cX0_heedWay 56 = .ok (.astore 5, 2) := by decide +kernel
theorem dX0_heedWay_58 : decode cX0_heedWay 58 = .ok (.goto (-37), 3) := by decide +kernel
theorem dX0_heedWay_61 : decode cX0_heedWay 61 = .ok (.iload 4, 2) := by decide +kernel
theorem dX0_heedWay_63 : decode cX0_heedWay 63 = .ok (.ireturn, 1) := by decide +kernel
theorem dX1_init_0 : decode cX1_init 0 = .ok (.aload_n 0, 1) := by decide +kernel
theorem dX1_init_1 : decode cX1_init 1 = .ok (.invokespecial 3, 3) := by decide +kernel
theorem dX1_init_4 : decode cX1_init 4 = .ok (.return_, 1) := by decide +kernel
theorem dX1_toilWay_0 : decode cX1_toilWay 0 = .ok (.aload_n 1, 1) := by decide +kernel
theorem dX1_toilWay_1 : decode cX1_toilWay 1 = .ok (.bipush 6, 2) := by decide +kernel
theorem dX1_toilWay_3 : decode cX1_toilWay 3 = .ok (.iconst 0, 1) := by decide +kernel
theorem dX1_toilWay_4 : decode cX1_toilWay 4 = .ok (.invokevirtual 9, 3) := by decide +kernel
theorem dX1_toilWay_7 : decode cX1_toilWay 7 = .ok (.aload_n 0, 1) := by decide +kernel
theorem dX1_toilWay_8 : decode cX1_toilWay 8 = .ok (.aload_n 1, 1) := by decide +kernel
theorem dX1_toilWay_9 : decode cX1_toilWay 9 = .ok (.aload_n 2, 1) := by decide +kernel
theorem dX1_toilWay_10 : decode cX1_toilWay 10 = .ok (.iload_n 3, 1) := by decide +kernel
theorem dX1_toilWay_11 : decode cX1_toilWay 11 = .ok (.invokespecial 15, 3) := by decide +kernel
theorem dX1_toilWay_14 : decode cX1_toilWay 14 = .ok (.lstore 4, 2) := by decide +kernel
theorem dX1_toilWay_16 : decode cX1_toilWay 16 = .ok (.aload_n 2, 1) := by decide +kernel
theorem dX1_toilWay_17 : decode cX1_toilWay 17 = .ok (.iload_n 3, 1) := by decide +kernel
theorem dX1_toilWay_18 : decode cX1_toilWay 18 = .ok (.iconst 2, 1) := by decide +kernel
theorem dX1_toilWay_19 : decode cX1_toilWay 19 = .ok (.idiv, 1) := by decide +kernel
theorem dX1_toilWay_20 : decode cX1_toilWay 20 = .ok (.ineg, 1) := by decide +kernel
theorem dX1_toilWay_21 : decode cX1_toilWay 21 = .ok (.invokevirtual 19, 3) := by decide +kernel
theorem dX1_toilWay_24 : decode cX1_toilWay 24 = .ok (.lload 4, 2) := by decide +kernel
theorem dX1_toilWay_26 : decode cX1_toilWay 26 = .ok (.lreturn, 1) := by decide +kernel
theorem dX1_heedWay_0 : decode cX1_heedWay 0 = .ok (.aload_n 1, 1) := by decide +kernel
theorem dX1_heedWay_1 : decode cX1_heedWay 1 = .ok (.bipush 6, 2) := by decide +kernel
theorem dX1_heedWay_3 : decode cX1_heedWay 3 = .ok (.iconst 3, 1) := by decide +kernel
theorem dX1_heedWay_4 : decode cX1_heedWay 4 = .ok (.invokevirtual 9, 3) := by decide +kernel
theorem dX1_heedWay_7 : decode cX1_heedWay 7 = .ok (.aload_n 0, 1) := by decide +kernel
theorem dX1_heedWay_8 : decode cX1_heedWay 8 = .ok (.aload_n 1, 1) := by decide +kernel
theorem dX1_heedWay_9 : decode cX1_heedWay 9 = .ok (.aload_n 2, 1) := by decide +kernel
theorem dX1_heedWay_10 : decode cX1_heedWay 10 = .ok (.iload_n 3, 1) := by decide +kernel
theorem dX1_heedWay_11 : decode cX1_heedWay 11 = .ok (.invokespecial 25, 3) := by decide +kernel
theorem dX1_heedWay_14 : decode cX1_heedWay 14 = .ok (.ineg, 1) := by decide +kernel
theorem dX1_heedWay_15 : decode cX1_heedWay 15 = .ok (.ireturn, 1) := by decide +kernel
theorem dX2_init_0 : decode cX2_init 0 = .ok (.aload_n 0, 1) := by decide +kernel
theorem dX2_init_1 : decode cX2_init 1 = .ok (.invokespecial 3, 3) := by decide +kernel
theorem dX2_init_4 : decode cX2_init 4 = .ok (.aload_n 0, 1) := by decide +kernel
theorem dX2_init_5 : decode cX2_init 5 = .ok (.bipush 64, 2) := by decide +kernel
theorem dX2_init_7 : decode cX2_init 7 = .ok (.newarray .int, 2) := by decide +kernel
theorem dX2_init_9 : decode cX2_init 9 = .ok (.putfield 9, 3) := by decide +kernel
theorem dX2_init_12 : decode cX2_init 12 = .ok (.return_, 1) := by decide +kernel
theorem dX2_add_0 : decode cX2_add 0 = .ok (.new 15, 3) := by decide +kernel
theorem dX2_add_3 : decode cX2_add 3 = .ok (.dup, 1) := by decide +kernel
theorem dX2_add_4 : decode cX2_add 4 = .ok (.aload_n 0, 1) := by decide +kernel
theorem dX2_add_5 : decode cX2_add 5 = .ok (.getfield 17, 3) := by decide +kernel
theorem dX2_add_8 : decode cX2_add 8 = .ok (.iload_n 1, 1) := by decide +kernel
theorem dX2_add_9 : decode cX2_add 9 = .ok (.iload_n 2, 1) := by decide +kernel
theorem dX2_add_10 : decode cX2_add 10 = .ok (.aload_n 3, 1) := by decide +kernel
theorem dX2_add_11 : decode cX2_add 11 = .ok (.invokespecial 21, 3) := by decide +kernel
theorem dX2_add_14 : decode cX2_add 14 = .ok (.astore 4, 2) := by decide +kernel
theorem dX2_add_16 : decode cX2_add 16 = .ok (.aload_n 0, 1) := by decide +kernel
theorem dX2_add_17 : decode cX2_add 17 = .ok (.getfield 24, 3) := by decide +kernel
theorem dX2_add_20 : decode cX2_add 20 = .ok (.ifnonnull 12, 3) := by decide +kernel
theorem dX2_add_23 : decode cX2_add 23 = .ok (.aload_n 0, 1) := by decide +kernel
theorem dX2_add_24 : decode cX2_add 24 = .ok (.aload 4, 2) := by decide +kernel
theorem dX2_add_26 : decode cX2_add 26 = .ok (.putfield 28, 3) := by decide +kernel
theorem dX2_add_29 : decode cX2_add 29 = .ok (.goto 12, 3) := by decide +kernel
theorem dX2_add_32 : decode cX2_add 32 = .ok (.aload_n 0, 1) := by decide +kernel
theorem dX2_add_33 : decode cX2_add 33 = .ok (.getfield 24, 3) := by decide +kernel
theorem dX2_add_36 : decode cX2_add 36 = .ok (.aload 4, 2) := by decide +kernel
theorem dX2_add_38 : decode cX2_add 38 = .ok (.putfield 31, 3) := by decide +kernel
theorem dX2_add_41 : decode cX2_add 41 = .ok (.aload_n 0, 1) := by decide +kernel
theorem dX2_add_42 : decode cX2_add 42 = .ok (.aload 4, 2) := by decide +kernel
theorem dX2_add_44 : decode cX2_add 44 = .ok (.putfield 24, 3) := by decide +kernel
theorem dX2_add_47 : decode cX2_add 47 = .ok (.aload_n 0, 1) := by decide +kernel
theorem dX2_add_48 : decode cX2_add 48 = .ok (.dup, 1) := by decide +kernel
theorem dX2_add_49 : decode cX2_add 49 = .ok (.getfield 17, 3) := by decide +kernel
theorem dX2_add_52 : decode cX2_add 52 = .ok (.iconst 1, 1) := by decide +kernel
theorem dX2_add_53 : decode cX2_add 53 = .ok (.iadd, 1) := by decide +kernel
theorem dX2_add_54 : decode cX2_add 54 = .ok (.putfield 17, 3) := by decide +kernel
theorem dX2_add_57 : decode cX2_add 57 = .ok (.aload 4, 2) := by decide +kernel
theorem dX2_add_59 : decode cX2_add 59 = .ok (.getfield 34, 3) := by decide +kernel
theorem dX2_add_62 : decode cX2_add 62 = .ok (.ireturn, 1) := by decide +kernel
theorem dX2_member_0 : decode cX2_member 0 = .ok (.aload_n 0, 1) := by decide +kernel
theorem dX2_member_1 : decode cX2_member 1 = .ok (.getfield 28, 3) := by decide +kernel
theorem dX2_member_4 : decode cX2_member 4 = .ok (.astore_n 2, 1) := by decide +kernel
theorem dX2_member_5 : decode cX2_member 5 = .ok (.aload_n 2, 1) := by decide +kernel
theorem dX2_member_6 : decode cX2_member 6 = .ok (.ifnull 21, 3) := by decide +kernel
theorem dX2_member_9 : decode cX2_member 9 = .ok (.aload_n 2, 1) := by decide +kernel
theorem dX2_member_10 : decode cX2_member 10 = .ok (.getfield 34, 3) := by decide +kernel
theorem dX2_member_13 : decode cX2_member 13 = .ok (.iload_n 1, 1) := by decide +kernel
theorem dX2_member_14 : decode cX2_member 14 = .ok (.if_icmp .ne 5, 3) := by decide +kernel
theorem dX2_member_17 : decode cX2_member 17 = .ok (.aload_n 2, 1) := by decide +kernel
theorem dX2_member_18 : decode cX2_member 18 = .ok (.areturn, 1) := by decide +kernel
theorem dX2_member_19 : decode cX2_member 19 = .ok (.aload_n 2, 1) := by decide +kernel
theorem dX2_member_20 : decode cX2_member 20 = .ok (.getfield 31, 3) := by decide +kernel
theorem dX2_member_23 : decode cX2_member 23 = .ok (.astore_n 2, 1) := by decide +kernel
theorem dX2_member_24 : decode cX2_member 24 = .ok (.goto (-19), 3) := by decide +kernel
theorem dX2_member_27 : decode cX2_member 27 = .ok (.aconst_null, 1) := by decide +kernel
theorem dX2_member_28 : decode cX2_member 28 = .ok (.areturn, 1) := by decide +kernel
theorem dX2_forgetNotes_0 : decode cX2_forgetNotes 0 = .ok (.aload_n 0, 1) := by decide +kernel
theorem dX2_forgetNotes_1 : decode cX2_forgetNotes 1 = .ok (.iconst 0, 1) := by decide +kernel
theorem dX2_forgetNotes_2 : decode cX2_forgetNotes 2 = .ok (.putfield 37, 3) := by decide +kernel
theorem dX2_forgetNotes_5 : decode cX2_forgetNotes 5 = .ok (.return_, 1) := by decide +kernel
theorem dX2_noteWay_0 : decode cX2_noteWay 0 = .ok (.aload_n 0, 1) := by decide +kernel
theorem dX2_noteWay_1 : decode cX2_noteWay 1 = .ok (.getfield 37, 3) := by decide +kernel
theorem dX2_noteWay_4 : decode cX2_noteWay 4 = .ok (.bipush 64, 2) := by decide +kernel
theorem dX2_noteWay_6 : decode cX2_noteWay 6 = .ok (.if_icmp .ge 18, 3) := by decide +kernel
theorem dX2_noteWay_9 : decode cX2_noteWay 9 = .ok (.aload_n 0, 1) := by decide +kernel
theorem dX2_noteWay_10 : decode cX2_noteWay 10 = .ok (.getfield 9, 3) := by decide +kernel
theorem dX2_noteWay_13 : decode cX2_noteWay 13 = .ok (.aload_n 0, 1) := by decide +kernel
theorem dX2_noteWay_14 : decode cX2_noteWay 14 = .ok (.getfield 37, 3) := by decide +kernel
theorem dX2_noteWay_17 : decode cX2_noteWay 17 = .ok (.bipush 10, 2) := by decide +kernel
theorem dX2_noteWay_19 : decode cX2_noteWay 19 = .ok (.iload_n 1, 1) := by decide +kernel
theorem dX2_noteWay_20 : decode cX2_noteWay 20 = .ok (.imul, 1) := by decide +kernel
theorem dX2_noteWay_21 : decode cX2_noteWay 21 = .ok (.iload_n 2, 1) := by decide +kernel
theorem dX2_noteWay_22 : decode cX2_noteWay 22 = .ok (.iadd, 1) := by decide +kernel
theorem dX2_noteWay_23 : decode cX2_noteWay 23 = .ok (.iastore, 1) := by decide +kernel
theorem dX2_noteWay_24 : decode cX2_noteWay 24 = .ok (.aload_n 0, 1) := by decide +kernel
theorem dX2_noteWay_25 : decode cX2_noteWay 25 = .ok (.dup, 1) := by decide +kernel
theorem dX2_noteWay_26 : decode cX2_noteWay 26 = .ok (.getfield 37, 3) := by decide +kernel
theorem dX2_noteWay_29 : decode cX2_noteWay 29 = .ok (.iconst 1, 1) := by decide +kernel
theorem dX2_noteWay_30 : decode cX2_noteWay 30 = .ok (.iadd, 1) := by decide +kernel
theorem dX2_noteWay_31 : decode cX2_noteWay 31 = .ok (.putfield 37, 3) := by decide +kernel
theorem dX2_noteWay_34 : decode cX2_noteWay 34 = .ok (.return_, 1) := by decide +kernel
theorem dX3_init_0 : decode cX3_init 0 = .ok (.aload_n 0, 1) := by decide +kernel
theorem dX3_init_1 : decode cX3_init 1 = .ok (.invokespecial 3, 3) := by decide +kernel
theorem dX3_init_4 : decode cX3_init 4 = .ok (.return_, 1) := by decide +kernel
theorem dX3_payWay_0 : decode cX3_payWay 0 = .ok (.aload_n 1, 1) := by decide +kernel
theorem dX3_payWay_1 : decode cX3_payWay 1 = .ok (.iconst 0, 1) := by decide +kernel
theorem dX3_payWay_2 : decode cX3_payWay 2 = .ok (.iconst 1, 1) := by decide +kernel
theorem dX3_payWay_3 : decode cX3_payWay 3 = .ok (.invokevirtual 9, 3) := by decide +kernel
theorem dX3_payWay_6 : decode cX3_payWay 6 = .ok (.iload_n 3, 1) := by decide +kernel
theorem dX3_payWay_7 : decode cX3_payWay 7 = .ok (.i2l, 1) := by decide +kernel
theorem dX3_payWay_8 : decode cX3_payWay 8 = .ok (.iconst 5, 1) := by decide +kernel
theorem dX3_payWay_9 : decode cX3_payWay 9 = .ok (.aload_n 2, 1) := by decide +kernel
theorem dX3_payWay_10 : decode cX3_payWay 10 = .ok (.getfield 15, 3) := by decide +kernel
theorem dX3_payWay_13 : decode cX3_payWay 13 = .ok (.bipush 10, 2) := by decide +kernel
theorem dX3_payWay_15 : decode cX3_payWay 15 = .ok (.idiv, 1) := by decide +kernel
theorem dX3_payWay_16 : decode cX3_payWay 16 = .ok (.iadd, 1) := by decide +kernel
theorem dX3_payWay_17 : decode cX3_payWay 17 = .ok (.i2l, 1) := by decide +kernel
theorem dX3_payWay_18 : decode cX3_payWay 18 = .ok (.lmul, 1) := by decide +kernel
theorem dX3_payWay_19 : decode cX3_payWay 19 = .ok (.lreturn, 1) := by decide +kernel
theorem dX4_init_0 : decode cX4_init 0 = .ok (.aload_n 0, 1) := by decide +kernel
theorem dX4_init_1 : decode cX4_init 1 = .ok (.invokespecial 3, 3) := by decide +kernel
theorem dX4_init_4 : decode cX4_init 4 = .ok (.return_, 1) := by decide +kernel
theorem dX4_toilWay_0 : decode cX4_toilWay 0 = .ok (.aload_n 1, 1) := by decide +kernel
theorem dX4_toilWay_1 : decode cX4_toilWay 1 = .ok (.iconst 5, 1) := by decide +kernel
theorem dX4_toilWay_2 : decode cX4_toilWay 2 = .ok (.iconst 0, 1) := by decide +kernel
theorem dX4_toilWay_3 : decode cX4_toilWay 3 = .ok (.invokevirtual 9, 3) := by decide +kernel
theorem dX4_toilWay_6 : decode cX4_toilWay 6 = .ok (.iload_n 3, 1) := by decide +kernel
theorem dX4_toilWay_7 : decode cX4_toilWay 7 = .ok (.bipush 40, 2) := by decide +kernel
theorem dX4_toilWay_9 : decode cX4_toilWay 9 = .ok (.if_icmp .gt 11, 3) := by decide +kernel
theorem dX4_toilWay_12 : decode cX4_toilWay 12 = .ok (.aload_n 0, 1) := by decide +kernel
theorem dX4_toilWay_13 : decode cX4_toilWay 13 = .ok (.aload_n 1, 1) := by decide +kernel
theorem dX4_toilWay_14 : decode cX4_toilWay 14 = .ok (.aload_n 2, 1) := by decide +kernel
theorem dX4_toilWay_15 : decode cX4_toilWay 15 = .ok (.iload_n 3, 1) := by decide +kernel
theorem dX4_toilWay_16 : decode cX4_toilWay 16 = .ok (.invokespecial 15, 3) := by decide +kernel
theorem dX4_toilWay_19 : decode cX4_toilWay 19 = .ok (.lreturn, 1) := by decide +kernel
theorem dX4_toilWay_20 : decode cX4_toilWay 20 = .ok (.ldc2_w 19, 3) := by decide +kernel
theorem dX4_toilWay_23 : decode cX4_toilWay 23 = .ok (.aload_n 0, 1) := by decide +kernel
theorem dX4_toilWay_24 : decode cX4_toilWay 24 = .ok (.aload_n 1, 1) := by decide +kernel
theorem dX4_toilWay_25 : decode cX4_toilWay 25 = .ok (.aload_n 2, 1) := by decide +kernel
theorem dX4_toilWay_26 : decode cX4_toilWay 26 = .ok (.iload_n 3, 1) := by decide +kernel
theorem dX4_toilWay_27 : decode cX4_toilWay 27 = .ok (.iconst 4, 1) := by decide +kernel
theorem dX4_toilWay_28 : decode cX4_toilWay 28 = .ok (.idiv, 1) := by decide +kernel
theorem dX4_toilWay_29 : decode cX4_toilWay 29 = .ok (.invokespecial 15, 3) := by decide +kernel
theorem dX4_toilWay_32 : decode cX4_toilWay 32 = .ok (.lmul, 1) := by decide +kernel
theorem dX4_toilWay_33 : decode cX4_toilWay 33 = .ok (.lreturn, 1) := by decide +kernel
theorem dX4_payWay_0 : decode cX4_payWay 0 = .ok (.aload_n 1, 1) := by decide +kernel
theorem dX4_payWay_1 : decode cX4_payWay 1 = .ok (.iconst 5, 1) := by decide +kernel
theorem dX4_payWay_2 : decode cX4_payWay 2 = .ok (.iconst 1, 1) := by decide +kernel
theorem dX4_payWay_3 : decode cX4_payWay 3 = .ok (.invokevirtual 9, 3) := by decide +kernel
theorem dX4_payWay_6 : decode cX4_payWay 6 = .ok (.aload_n 0, 1) := by decide +kernel
theorem dX4_payWay_7 : decode cX4_payWay 7 = .ok (.aload_n 1, 1) := by decide +kernel
theorem dX4_payWay_8 : decode cX4_payWay 8 = .ok (.aload_n 2, 1) := by decide +kernel
theorem dX4_payWay_9 : decode cX4_payWay 9 = .ok (.iload_n 3, 1) := by decide +kernel
theorem dX4_payWay_10 : decode cX4_payWay 10 = .ok (.invokespecial 21, 3) := by decide +kernel
theorem dX4_payWay_13 : decode cX4_payWay 13 = .ok (.lstore 4, 2) := by decide +kernel
theorem dX4_payWay_15 : decode cX4_payWay 15 = .ok (.aload_n 2, 1) := by decide +kernel
theorem dX4_payWay_16 : decode cX4_payWay 16 = .ok (.getfield 24, 3) := by decide +kernel
theorem dX4_payWay_19 : decode cX4_payWay 19 = .ok (.sipush 300, 3) := by decide +kernel
theorem dX4_payWay_22 : decode cX4_payWay 22 = .ok (.if_icmp .ge 12, 3) := by decide +kernel
theorem dX4_payWay_25 : decode cX4_payWay 25 = .ok (.ldc2_w 30, 3) := by decide +kernel
theorem dX4_payWay_28 : decode cX4_payWay 28 = .ok (.lload 4, 2) := by decide +kernel
theorem dX4_payWay_30 : decode cX4_payWay 30 = .ok (.lmul, 1) := by decide +kernel
theorem dX4_payWay_31 : decode cX4_payWay 31 = .ok (.goto 5, 3) := by decide +kernel
theorem dX4_payWay_34 : decode cX4_payWay 34 = .ok (.lload 4, 2) := by decide +kernel
theorem dX4_payWay_36 : decode cX4_payWay 36 = .ok (.lreturn, 1) := by decide +kernel
theorem dX4_heedWay_0 : decode cX4_heedWay 0 = .ok (.aload_n 1, 1) := by decide +kernel
theorem dX4_heedWay_1 : decode cX4_heedWay 1 = .ok (.iconst 5, 1) := by decide +kernel
theorem dX4_heedWay_2 : decode cX4_heedWay 2 = .ok (.iconst 3, 1) := by decide +kernel
theorem dX4_heedWay_3 : decode cX4_heedWay 3 = .ok (.invokevirtual 9, 3) := by decide +kernel
theorem dX4_heedWay_6 : decode cX4_heedWay 6 = .ok (.aload_n 2, 1) := by decide +kernel
theorem dX4_heedWay_7 : decode cX4_heedWay 7 = .ok (.getfield 24, 3) := by decide +kernel
theorem dX4_heedWay_10 : decode cX4_heedWay 10 = .ok (.sipush 700, 3) := by decide +kernel
theorem dX4_heedWay_13 : decode cX4_heedWay 13 = .ok (.if_icmp .lt 6, 3) := by decide +kernel
theorem dX4_heedWay_16 : decode cX4_heedWay 16 = .ok (.bipush (-5), 2) := by decide +kernel
theorem dX4_heedWay_18 : decode cX4_heedWay 18 = .ok (.ireturn, 1) := by decide +kernel
theorem dX4_heedWay_19 : decode cX4_heedWay 19 = .ok (.aload_n 0, 1) := by decide +kernel
theorem dX4_heedWay_20 : decode cX4_heedWay 20 = .ok (.aload_n 1, 1) := by decide +kernel
theorem dX4_heedWay_21 : decode cX4_heedWay 21 = .ok (.aload_n 2, 1) := by decide +kernel
theorem dX4_heedWay_22 : decode cX4_heedWay 22 = .ok (.iload_n 3, 1) := by decide +kernel
theorem dX4_heedWay_23 : decode cX4_heedWay 23 = .ok (.iconst 1, 1) := by decide +kernel
theorem dX4_heedWay_24 : decode cX4_heedWay 24 = .ok (.iadd, 1) := by decide +kernel
theorem dX4_heedWay_25 : decode cX4_heedWay 25 = .ok (.invokespecial 32, 3) := by decide +kernel
theorem dX4_heedWay_28 : decode cX4_heedWay 28 = .ok (.ireturn, 1) := by decide +kernel
theorem dX4_raceWay_0 : decode cX4_raceWay 0 = .ok (.iconst 2, 1) := by decide +kernel
theorem dX4_raceWay_1 : decode cX4_raceWay 1 = .ok (.aload_n 0, 1) := by decide +kernel
theorem dX4_raceWay_2 : decode cX4_raceWay 2 = .ok (.aload_n 1, 1) := by decide +kernel
theorem dX4_raceWay_3 : decode cX4_raceWay 3 = .ok (.aload_n 2, 1) := by decide +kernel
theorem dX4_raceWay_4 : decode cX4_raceWay 4 = .ok (.iload_n 3, 1) := by decide +kernel
theorem dX4_raceWay_5 : decode cX4_raceWay 5 = .ok (.iload 4, 2) := by decide +kernel
theorem dX4_raceWay_7 : decode cX4_raceWay 7 = .ok (.iconst 3, 1) := by decide +kernel
theorem dX4_raceWay_8 : decode cX4_raceWay 8 = .ok (.if_icmp .ge 8, 3) := by decide +kernel
theorem dX4_raceWay_11 : decode cX4_raceWay 11 = .ok (.iload 4, 2) := by decide +kernel
theorem dX4_raceWay_13 : decode cX4_raceWay 13 = .ok (.goto 4, 3) := by decide +kernel
theorem dX4_raceWay_16 : decode cX4_raceWay 16 = .ok (.iconst 3, 1) := by decide +kernel
theorem dX4_raceWay_17 : decode cX4_raceWay 17 = .ok (.invokespecial 36, 3) := by decide +kernel
theorem dX4_raceWay_20 : decode cX4_raceWay 20 = .ok (.imul, 1) := by decide +kernel
theorem dX4_raceWay_21 : decode cX4_raceWay 21 = .ok (.ireturn, 1) := by decide +kernel
theorem dX5_init_0 : decode cX5_init 0 = .ok (.aload_n 0, 1) := by decide +kernel
theorem dX5_init_1 : decode cX5_init 1 = .ok (.invokespecial 3, 3) := by decide +kernel
theorem dX5_init_4 : decode cX5_init 4 = .ok (.return_, 1) := by decide +kernel
theorem dX5_toilWay_0 : decode cX5_toilWay 0 = .ok (.aload_n 1, 1) := by decide +kernel
theorem dX5_toilWay_1 : decode cX5_toilWay 1 = .ok (.iconst 4, 1) := by decide +kernel
theorem dX5_toilWay_2 : decode cX5_toilWay 2 = .ok (.iconst 0, 1) := by decide +kernel
theorem dX5_toilWay_3 : decode cX5_toilWay 3 = .ok (.invokevirtual 9, 3) := by decide +kernel
theorem dX5_toilWay_6 : decode cX5_toilWay 6 = .ok (.iload_n 3, 1) := by decide +kernel
theorem dX5_toilWay_7 : decode cX5_toilWay 7 = .ok (.iconst 2, 1) := by decide +kernel
theorem dX5_toilWay_8 : decode cX5_toilWay 8 = .ok (.idiv, 1) := by decide +kernel
theorem dX5_toilWay_9 : decode cX5_toilWay 9 = .ok (.istore 4, 2) := by decide +kernel
theorem dX5_toilWay_11 : decode cX5_toilWay 11 = .ok (.aload_n 0, 1) := by decide +kernel
theorem dX5_toilWay_12 : decode cX5_toilWay 12 = .ok (.aload_n 1, 1) := by decide +kernel
theorem dX5_toilWay_13 : decode cX5_toilWay 13 = .ok (.aload_n 2, 1) := by decide +kernel
theorem dX5_toilWay_14 : decode cX5_toilWay 14 = .ok (.iload 4, 2) := by decide +kernel
theorem dX5_toilWay_16 : decode cX5_toilWay 16 = .ok (.invokespecial 15, 3) := by decide +kernel
theorem dX5_toilWay_19 : decode cX5_toilWay 19 = .ok (.lstore 5, 2) := by decide +kernel
theorem dX5_toilWay_21 : decode cX5_toilWay 21 = .ok (.lload 5, 2) := by decide +kernel
theorem dX5_toilWay_23 : decode cX5_toilWay 23 = .ok (.aload_n 0, 1) := by decide +kernel
theorem dX5_toilWay_24 : decode cX5_toilWay 24 = .ok (.aload_n 1, 1) := by decide +kernel
theorem dX5_toilWay_25 : decode cX5_toilWay 25 = .ok (.aload_n 2, 1) := by decide +kernel
theorem dX5_toilWay_26 : decode cX5_toilWay 26 = .ok (.iload_n 3, 1) := by decide +kernel
theorem dX5_toilWay_27 : decode cX5_toilWay 27 = .ok (.iload 4, 2) := by decide +kernel
theorem dX5_toilWay_29 : decode cX5_toilWay 29 = .ok (.isub, 1) := by decide +kernel
theorem dX5_toilWay_30 : decode cX5_toilWay 30 = .ok (.invokespecial 15, 3) := by decide +kernel
theorem dX5_toilWay_33 : decode cX5_toilWay 33 = .ok (.ladd, 1) := by decide +kernel
theorem dX5_toilWay_34 : decode cX5_toilWay 34 = .ok (.lreturn, 1) := by decide +kernel
theorem dX5_climbWay_0 : decode cX5_climbWay 0 = .ok (.aload_n 1, 1) := by decide +kernel
theorem dX5_climbWay_1 : decode cX5_climbWay 1 = .ok (.iconst 4, 1) := by decide +kernel
theorem dX5_climbWay_2 : decode cX5_climbWay 2 = .ok (.iconst 2, 1) := by decide +kernel
theorem dX5_climbWay_3 : decode cX5_climbWay 3 = .ok (.invokevirtual 9, 3) := by decide +kernel
theorem dX5_climbWay_6 : decode cX5_climbWay 6 = .ok (.aload_n 0, 1) := by decide +kernel
theorem dX5_climbWay_7 : decode cX5_climbWay 7 = .ok (.aload_n 1, 1) := by decide +kernel
theorem dX5_climbWay_8 : decode cX5_climbWay 8 = .ok (.aload_n 2, 1) := by decide +kernel
theorem dX5_climbWay_9 : decode cX5_climbWay 9 = .ok (.iload_n 3, 1) := by decide +kernel
theorem dX5_climbWay_10 : decode cX5_climbWay 10 = .ok (.invokespecial 19, 3) := by decide +kernel
theorem dX5_climbWay_13 : decode cX5_climbWay 13 = .ok (.istore 4, 2) := by decide +kernel
theorem dX5_climbWay_15 : decode cX5_climbWay 15 = .ok (.iload 4, 2) := by decide +kernel
theorem dX5_climbWay_17 : decode cX5_climbWay 17 = .ok (.iconst (-1), 1) := by decide +kernel
theorem dX5_climbWay_18 : decode cX5_climbWay 18 = .ok (.if_icmp .ne 7, 3) := by decide +kernel
theorem dX5_climbWay_21 : decode cX5_climbWay 21 = .ok (.iconst (-1), 1) := by decide +kernel
theorem dX5_climbWay_22 : decode cX5_climbWay 22 = .ok (.goto 7, 3) := by decide +kernel
theorem dX5_climbWay_25 : decode cX5_climbWay 25 = .ok (.iload 4, 2) := by decide +kernel
theorem dX5_climbWay_27 : decode cX5_climbWay 27 = .ok (.iconst 1, 1) := by decide +kernel
theorem dX5_climbWay_28 : decode cX5_climbWay 28 = .ok (.iadd, 1) := by decide +kernel
theorem dX5_climbWay_29 : decode cX5_climbWay 29 = .ok (.ireturn, 1) := by decide +kernel
theorem dX6_init_0 : decode cX6_init 0 = .ok (.aload_n 0, 1) := by decide +kernel
theorem dX6_init_1 : decode cX6_init 1 = .ok (.invokespecial 3, 3) := by decide +kernel
theorem dX6_init_4 : decode cX6_init 4 = .ok (.aload_n 0, 1) := by decide +kernel
theorem dX6_init_5 : decode cX6_init 5 = .ok (.iload_n 1, 1) := by decide +kernel
theorem dX6_init_6 : decode cX6_init 6 = .ok (.putfield 9, 3) := by decide +kernel
theorem dX6_init_9 : decode cX6_init 9 = .ok (.aload_n 0, 1) := by decide +kernel
theorem dX6_init_10 : decode cX6_init 10 = .ok (.iload_n 2, 1) := by decide +kernel
theorem dX6_init_11 : decode cX6_init 11 = .ok (.putfield 15, 3) := by decide +kernel
theorem dX6_init_14 : decode cX6_init 14 = .ok (.aload_n 0, 1) := by decide +kernel
theorem dX6_init_15 : decode cX6_init 15 = .ok (.iload_n 3, 1) := by decide +kernel
theorem dX6_init_16 : decode cX6_init 16 = .ok (.putfield 18, 3) := by decide +kernel
theorem dX6_init_19 : decode cX6_init 19 = .ok (.aload_n 0, 1) := by decide +kernel
theorem dX6_init_20 : decode cX6_init 20 = .ok (.aload 4, 2) := by decide +kernel
theorem dX6_init_22 : decode cX6_init 22 = .ok (.putfield 21, 3) := by decide +kernel
theorem dX6_init_25 : decode cX6_init 25 = .ok (.return_, 1) := by decide +kernel
theorem dX6_tire_0 : decode cX6_tire 0 = .ok (.aload_n 0, 1) := by decide +kernel
theorem dX6_tire_1 : decode cX6_tire 1 = .ok (.getfield 25, 3) := by decide +kernel
theorem dX6_tire_4 : decode cX6_tire 4 = .ok (.iload_n 1, 1) := by decide +kernel
theorem dX6_tire_5 : decode cX6_tire 5 = .ok (.iadd, 1) := by decide +kernel
theorem dX6_tire_6 : decode cX6_tire 6 = .ok (.istore_n 2, 1) := by decide +kernel
theorem dX6_tire_7 : decode cX6_tire 7 = .ok (.iload_n 2, 1) := by decide +kernel
theorem dX6_tire_8 : decode cX6_tire 8 = .ok (.ifCond .ge 5, 3) := by decide +kernel
theorem dX6_tire_11 : decode cX6_tire 11 = .ok (.iconst 0, 1) := by decide +kernel
theorem dX6_tire_12 : decode cX6_tire 12 = .ok (.istore_n 2, 1) := by decide +kernel
theorem dX6_tire_13 : decode cX6_tire 13 = .ok (.aload_n 0, 1) := by decide +kernel
theorem dX6_tire_14 : decode cX6_tire 14 = .ok (.iload_n 2, 1) := by decide +kernel
theorem dX6_tire_15 : decode cX6_tire 15 = .ok (.sipush 1000, 3) := by decide +kernel
theorem dX6_tire_18 : decode cX6_tire 18 = .ok (.if_icmp .le 9, 3) := by decide +kernel
theorem dX6_tire_21 : decode cX6_tire 21 = .ok (.sipush 1000, 3) := by decide +kernel
theorem dX6_tire_24 : decode cX6_tire 24 = .ok (.goto 4, 3) := by decide +kernel
theorem dX6_tire_27 : decode cX6_tire 27 = .ok (.iload_n 2, 1) := by decide +kernel
theorem dX6_tire_28 : decode cX6_tire 28 = .ok (.putfield 25, 3) := by decide +kernel
theorem dX6_tire_31 : decode cX6_tire 31 = .ok (.return_, 1) := by decide +kernel
theorem dX6_isBelowBosun_0 : decode cX6_isBelowBosun 0 = .ok (.aload_n 0, 1) := by decide +kernel
theorem dX6_isBelowBosun_1 : decode cX6_isBelowBosun 1 = .ok (.getfield 18, 3) := by decide +kernel
theorem dX6_isBelowBosun_4 : decode cX6_isBelowBosun 4 = .ok (.iconst 2, 1) := by decide +kernel
theorem dX6_isBelowBosun_5 : decode cX6_isBelowBosun 5 = .ok (.if_icmp .gt 7, 3) := by decide +kernel
theorem dX6_isBelowBosun_8 : decode cX6_isBelowBosun 8 = .ok (.iconst 1, 1) := by decide +kernel
theorem dX6_isBelowBosun_9 : decode cX6_isBelowBosun 9 = .ok (.goto 4, 3) := by decide +kernel
theorem dX6_isBelowBosun_12 : decode cX6_isBelowBosun 12 = .ok (.iconst 0, 1) := by decide +kernel
theorem dX6_isBelowBosun_13 : decode cX6_isBelowBosun 13 = .ok (.ireturn, 1) := by decide +kernel
theorem dX6_isClimber_0 : decode cX6_isClimber 0 = .ok (.aload_n 0, 1) := by decide +kernel
theorem dX6_isClimber_1 : decode cX6_isClimber 1 = .ok (.getfield 18, 3) := by decide +kernel
theorem dX6_isClimber_4 : decode cX6_isClimber 4 = .ok (.iconst 2, 1) := by decide +kernel
theorem dX6_isClimber_5 : decode cX6_isClimber 5 = .ok (.if_icmp .lt 15, 3) := by decide +kernel
theorem dX6_isClimber_8 : decode cX6_isClimber 8 = .ok (.aload_n 0, 1) := by decide +kernel
theorem dX6_isClimber_9 : decode cX6_isClimber 9 = .ok (.getfield 18, 3) := by decide +kernel
theorem dX6_isClimber_12 : decode cX6_isClimber 12 = .ok (.iconst 5, 1) := by decide +kernel
theorem dX6_isClimber_13 : decode cX6_isClimber 13 = .ok (.if_icmp .gt 7, 3) := by decide +kernel
theorem dX6_isClimber_16 : decode cX6_isClimber 16 = .ok (.iconst 1, 1) := by decide +kernel
theorem dX6_isClimber_17 : decode cX6_isClimber 17 = .ok (.goto 4, 3) := by decide +kernel
theorem dX6_isClimber_20 : decode cX6_isClimber 20 = .ok (.iconst 0, 1) := by decide +kernel
theorem dX6_isClimber_21 : decode cX6_isClimber 21 = .ok (.ireturn, 1) := by decide +kernel
theorem dX6_isPayee_0 : decode cX6_isPayee 0 = .ok (.aload_n 0, 1) := by decide +kernel
theorem dX6_isPayee_1 : decode cX6_isPayee 1 = .ok (.getfield 18, 3) := by decide +kernel
theorem dX6_isPayee_4 : decode cX6_isPayee 4 = .ok (.iconst 1, 1) := by decide +kernel
theorem dX6_isPayee_5 : decode cX6_isPayee 5 = .ok (.if_icmp .lt 7, 3) := by decide +kernel
theorem dX6_isPayee_8 : decode cX6_isPayee 8 = .ok (.iconst 1, 1) := by decide +kernel
theorem dX6_isPayee_9 : decode cX6_isPayee 9 = .ok (.goto 4, 3) := by decide +kernel
theorem dX6_isPayee_12 : decode cX6_isPayee 12 = .ok (.iconst 0, 1) := by decide +kernel
theorem dX6_isPayee_13 : decode cX6_isPayee 13 = .ok (.ireturn, 1) := by decide +kernel
theorem dX6_isCarer_0 : decode cX6_isCarer 0 = .ok (.aload_n 0, 1) := by decide +kernel
theorem dX6_isCarer_1 : decode cX6_isCarer 1 = .ok (.getfield 18, 3) := by decide +kernel
theorem dX6_isCarer_4 : decode cX6_isCarer 4 = .ok (.bipush 6, 2) := by decide +kernel
theorem dX6_isCarer_6 : decode cX6_isCarer 6 = .ok (.if_icmp .eq 12, 3) := by decide +kernel
theorem dX6_isCarer_9 : decode cX6_isCarer 9 = .ok (.aload_n 0, 1) := by decide +kernel
theorem dX6_isCarer_10 : decode cX6_isCarer 10 = .ok (.getfield 18, 3) := by decide +kernel
theorem dX6_isCarer_13 : decode cX6_isCarer 13 = .ok (.bipush 7, 2) := by decide +kernel
theorem dX6_isCarer_15 : decode cX6_isCarer 15 = .ok (.if_icmp .ne 7, 3) := by decide +kernel
theorem dX6_isCarer_18 : decode cX6_isCarer 18 = .ok (.iconst 1, 1) := by decide +kernel
theorem dX6_isCarer_19 : decode cX6_isCarer 19 = .ok (.goto 4, 3) := by decide +kernel
theorem dX6_isCarer_22 : decode cX6_isCarer 22 = .ok (.iconst 0, 1) := by decide +kernel
theorem dX6_isCarer_23 : decode cX6_isCarer 23 = .ok (.ireturn, 1) := by decide +kernel
theorem dX7_init_0 : decode cX7_init 0 = .ok (.aload_n 0, 1) := by decide +kernel
theorem dX7_init_1 : decode cX7_init 1 = .ok (.invokespecial 3, 3) := by decide +kernel
theorem dX7_init_4 : decode cX7_init 4 = .ok (.return_, 1) := by decide +kernel
theorem dX7_climbWay_0 : decode cX7_climbWay 0 = .ok (.aload_n 1, 1) := by decide +kernel
theorem dX7_climbWay_1 : decode cX7_climbWay 1 = .ok (.iconst 1, 1) := by decide +kernel
theorem dX7_climbWay_2 : decode cX7_climbWay 2 = .ok (.iconst 2, 1) := by decide +kernel
theorem dX7_climbWay_3 : decode cX7_climbWay 3 = .ok (.invokevirtual 9, 3) := by decide +kernel
theorem dX7_climbWay_6 : decode cX7_climbWay 6 = .ok (.iload_n 3, 1) := by decide +kernel
theorem dX7_climbWay_7 : decode cX7_climbWay 7 = .ok (.bipush 30, 2) := by decide +kernel
theorem dX7_climbWay_9 : decode cX7_climbWay 9 = .ok (.if_icmp .le 11, 3) := by decide +kernel
theorem dX7_climbWay_12 : decode cX7_climbWay 12 = .ok (.aload_n 0, 1) := by decide +kernel
theorem dX7_climbWay_13 : decode cX7_climbWay 13 = .ok (.aload_n 1, 1) := by decide +kernel
theorem dX7_climbWay_14 : decode cX7_climbWay 14 = .ok (.aload_n 2, 1) := by decide +kernel
theorem dX7_climbWay_15 : decode cX7_climbWay 15 = .ok (.iload_n 3, 1) := by decide +kernel
theorem dX7_climbWay_16 : decode cX7_climbWay 16 = .ok (.invokespecial 15, 3) := by decide +kernel
theorem dX7_climbWay_19 : decode cX7_climbWay 19 = .ok (.ireturn, 1) := by decide +kernel
theorem dX7_climbWay_20 : decode cX7_climbWay 20 = .ok (.aload_n 2, 1) := by decide +kernel
theorem dX7_climbWay_21 : decode cX7_climbWay 21 = .ok (.iload_n 3, 1) := by decide +kernel
theorem dX7_climbWay_22 : decode cX7_climbWay 22 = .ok (.iconst 2, 1) := by decide +kernel
theorem dX7_climbWay_23 : decode cX7_climbWay 23 = .ok (.idiv, 1) := by decide +kernel
theorem dX7_climbWay_24 : decode cX7_climbWay 24 = .ok (.invokevirtual 19, 3) := by decide +kernel
theorem dX7_climbWay_27 : decode cX7_climbWay 27 = .ok (.iconst 3, 1) := by decide +kernel
theorem dX7_climbWay_28 : decode cX7_climbWay 28 = .ok (.iload_n 3, 1) := by decide +kernel
theorem dX7_climbWay_29 : decode cX7_climbWay 29 = .ok (.imul, 1) := by decide +kernel
theorem dX7_climbWay_30 : decode cX7_climbWay 30 = .ok (.ireturn, 1) := by decide +kernel
theorem dX8_init_0 : decode cX8_init 0 = .ok (.aload_n 0, 1) := by decide +kernel
theorem dX8_init_1 : decode cX8_init 1 = .ok (.invokespecial 3, 3) := by decide +kernel
theorem dX8_init_4 : decode cX8_init 4 = .ok (.return_, 1) := by decide +kernel
theorem dX8_toilWay_0 : decode cX8_toilWay 0 = .ok (.aload_n 1, 1) := by decide +kernel
theorem dX8_toilWay_1 : decode cX8_toilWay 1 = .ok (.bipush 8, 2) := by decide +kernel
theorem dX8_toilWay_3 : decode cX8_toilWay 3 = .ok (.iconst 0, 1) := by decide +kernel
theorem dX8_toilWay_4 : decode cX8_toilWay 4 = .ok (.invokevirtual 9, 3) := by decide +kernel
theorem dX8_toilWay_7 : decode cX8_toilWay 7 = .ok (.iload_n 3, 1) := by decide +kernel
theorem dX8_toilWay_8 : decode cX8_toilWay 8 = .ok (.i2l, 1) := by decide +kernel
theorem dX8_toilWay_9 : decode cX8_toilWay 9 = .ok (.bipush 10, 2) := by decide +kernel
theorem dX8_toilWay_11 : decode cX8_toilWay 11 = .ok (.aload_n 2, 1) := by decide +kernel
theorem dX8_toilWay_12 : decode cX8_toilWay 12 = .ok (.getfield 15, 3) := by decide +kernel
theorem dX8_toilWay_15 : decode cX8_toilWay 15 = .ok (.iadd, 1) := by decide +kernel
theorem dX8_toilWay_16 : decode cX8_toilWay 16 = .ok (.i2l, 1) := by decide +kernel
theorem dX8_toilWay_17 : decode cX8_toilWay 17 = .ok (.lmul, 1) := by decide +kernel
theorem dX8_toilWay_18 : decode cX8_toilWay 18 = .ok (.aload_n 2, 1) := by decide +kernel
theorem dX8_toilWay_19 : decode cX8_toilWay 19 = .ok (.getfield 21, 3) := by decide +kernel
theorem dX8_toilWay_22 : decode cX8_toilWay 22 = .ok (.i2l, 1) := by decide +kernel
theorem dX8_toilWay_23 : decode cX8_toilWay 23 = .ok (.lsub, 1) := by decide +kernel
theorem dX8_toilWay_24 : decode cX8_toilWay 24 = .ok (.lstore 4, 2) := by decide +kernel
theorem dX8_toilWay_26 : decode cX8_toilWay 26 = .ok (.aload_n 2, 1) := by decide +kernel
theorem dX8_toilWay_27 : decode cX8_toilWay 27 = .ok (.iload_n 3, 1) := by decide +kernel
theorem dX8_toilWay_28 : decode cX8_toilWay 28 = .ok (.invokevirtual 24, 3) := by decide +kernel
theorem dX8_toilWay_31 : decode cX8_toilWay 31 = .ok (.lload 4, 2) := by decide +kernel
theorem dX8_toilWay_33 : decode cX8_toilWay 33 = .ok (.lconst 0, 1) := by decide +kernel
theorem dX8_toilWay_34 : decode cX8_toilWay 34 = .ok (.lcmp, 1) := by decide +kernel
theorem dX8_toilWay_35 : decode cX8_toilWay 35 = .ok (.ifCond .ge 7, 3) := by decide +kernel
theorem dX8_toilWay_38 : decode cX8_toilWay 38 = .ok (.lconst 0, 1) := by decide +kernel
theorem dX8_toilWay_39 : decode cX8_toilWay 39 = .ok (.goto 5, 3) := by decide +kernel
theorem dX8_toilWay_42 : decode cX8_toilWay 42 = .ok (.lload 4, 2) := by decide +kernel
theorem dX8_toilWay_44 : decode cX8_toilWay 44 = .ok (.lreturn, 1) := by decide +kernel
theorem dX8_climbWay_0 : decode cX8_climbWay 0 = .ok (.aload_n 1, 1) := by decide +kernel
theorem dX8_climbWay_1 : decode cX8_climbWay 1 = .ok (.bipush 8, 2) := by decide +kernel
theorem dX8_climbWay_3 : decode cX8_climbWay 3 = .ok (.iconst 2, 1) := by decide +kernel
theorem dX8_climbWay_4 : decode cX8_climbWay 4 = .ok (.invokevirtual 9, 3) := by decide +kernel
theorem dX8_climbWay_7 : decode cX8_climbWay 7 = .ok (.iload_n 3, 1) := by decide +kernel
theorem dX8_climbWay_8 : decode cX8_climbWay 8 = .ok (.bipush 10, 2) := by decide +kernel
theorem dX8_climbWay_10 : decode cX8_climbWay 10 = .ok (.aload_n 2, 1) := by decide +kernel
theorem dX8_climbWay_11 : decode cX8_climbWay 11 = .ok (.getfield 15, 3) := by decide +kernel
theorem dX8_climbWay_14 : decode cX8_climbWay 14 = .ok (.iadd, 1) := by decide +kernel
theorem dX8_climbWay_15 : decode cX8_climbWay 15 = .ok (.if_icmp .le 5, 3) := by decide +kernel
theorem dX8_climbWay_18 : decode cX8_climbWay 18 = .ok (.iconst (-1), 1) := by decide +kernel
theorem dX8_climbWay_19 : decode cX8_climbWay 19 = .ok (.ireturn, 1) := by decide +kernel
theorem dX8_climbWay_20 : decode cX8_climbWay 20 = .ok (.aload_n 2, 1) := by decide +kernel
theorem dX8_climbWay_21 : decode cX8_climbWay 21 = .ok (.iload_n 3, 1) := by decide +kernel
theorem dX8_climbWay_22 : decode cX8_climbWay 22 = .ok (.invokevirtual 24, 3) := by decide +kernel
theorem dX8_climbWay_25 : decode cX8_climbWay 25 = .ok (.iconst 2, 1) := by decide +kernel
theorem dX8_climbWay_26 : decode cX8_climbWay 26 = .ok (.iload_n 3, 1) := by decide +kernel
theorem dX8_climbWay_27 : decode cX8_climbWay 27 = .ok (.imul, 1) := by decide +kernel
theorem dX8_climbWay_28 : decode cX8_climbWay 28 = .ok (.ireturn, 1) := by decide +kernel
theorem dX8_heedWay_0 : decode cX8_heedWay 0 = .ok (.aload_n 1, 1) := by decide +kernel
theorem dX8_heedWay_1 : decode cX8_heedWay 1 = .ok (.bipush 8, 2) := by decide +kernel
theorem dX8_heedWay_3 : decode cX8_heedWay 3 = .ok (.iconst 3, 1) := by decide +kernel
theorem dX8_heedWay_4 : decode cX8_heedWay 4 = .ok (.invokevirtual 9, 3) := by decide +kernel
theorem dX8_heedWay_7 : decode cX8_heedWay 7 = .ok (.bipush 31, 2) := by decide +kernel
theorem dX8_heedWay_9 : decode cX8_heedWay 9 = .ok (.iload_n 3, 1) := by decide +kernel
theorem dX8_heedWay_10 : decode cX8_heedWay 10 = .ok (.imul, 1) := by decide +kernel
theorem dX8_heedWay_11 : decode cX8_heedWay 11 = .ok (.aload_n 2, 1) := by decide +kernel
theorem dX8_heedWay_12 : decode cX8_heedWay 12 = .ok (.getfield 28, 3) := by decide +kernel
theorem dX8_heedWay_15 : decode cX8_heedWay 15 = .ok (.iadd, 1) := by decide +kernel
theorem dX8_heedWay_16 : decode cX8_heedWay 16 = .ok (.sipush 1000, 3) := by decide +kernel
theorem dX8_heedWay_19 : decode cX8_heedWay 19 = .ok (.irem, 1) := by decide +kernel
theorem dX8_heedWay_20 : decode cX8_heedWay 20 = .ok (.ireturn, 1) := by decide +kernel
theorem dX8_raceWay_0 : decode cX8_raceWay 0 = .ok (.iconst 0, 1) := by decide +kernel
theorem dX8_raceWay_1 : decode cX8_raceWay 1 = .ok (.istore 5, 2) := by decide +kernel
theorem dX8_raceWay_3 : decode cX8_raceWay 3 = .ok (.iconst 0, 1) := by decide +kernel
theorem dX8_raceWay_4 : decode cX8_raceWay 4 = .ok (.istore 6, 2) := by decide +kernel
theorem dX8_raceWay_6 : decode cX8_raceWay 6 = .ok (.iload 6, 2) := by decide +kernel
theorem dX8_raceWay_8 : decode cX8_raceWay 8 = .ok (.iload 4, 2) := by decide +kernel
theorem dX8_raceWay_10 : decode cX8_raceWay 10 = .ok (.if_icmp .ge 34, 3) := by decide +kernel
theorem dX8_raceWay_13 : decode cX8_raceWay 13 = .ok (.aload_n 0, 1) := by decide +kernel
theorem dX8_raceWay_14 : decode cX8_raceWay 14 = .ok (.aload_n 1, 1) := by decide +kernel
theorem dX8_raceWay_15 : decode cX8_raceWay 15 = .ok (.aload_n 2, 1) := by decide +kernel
theorem dX8_raceWay_16 : decode cX8_raceWay 16 = .ok (.iload_n 3, 1) := by decide +kernel
theorem dX8_raceWay_17 : decode cX8_raceWay 17 = .ok (.invokevirtual 31, 3) := by decide +kernel
theorem dX8_raceWay_20 : decode cX8_raceWay 20 = .ok (.istore 7, 2) := by decide +kernel
theorem dX8_raceWay_22 : decode cX8_raceWay 22 = .ok (.iload 7, 2) := by decide +kernel
theorem dX8_raceWay_24 : decode cX8_raceWay 24 = .ok (.iconst (-1), 1) := by decide +kernel
theorem dX8_raceWay_25 : decode cX8_raceWay 25 = .ok (.if_icmp .ne 6, 3) := by decide +kernel
theorem dX8_raceWay_28 : decode cX8_raceWay 28 = .ok (.iload 5, 2) := by decide +kernel
theorem dX8_raceWay_30 : decode cX8_raceWay 30 = .ok (.ireturn, 1) := by decide +kernel
theorem dX8_raceWay_31 : decode cX8_raceWay 31 = .ok (.iload 5, 2) := by decide +kernel
theorem dX8_raceWay_33 : decode cX8_raceWay 33 = .ok (.iload 7, 2) := by decide +kernel
theorem dX8_raceWay_35 : decode cX8_raceWay 35 = .ok (.iadd, 1) := by decide +kernel
theorem dX8_raceWay_36 : decode cX8_raceWay 36 = .ok (.istore 5, 2) := by decide +kernel
theorem dX8_raceWay_38 : decode cX8_raceWay 38 = .ok (.iinc 6 1, 3) := by decide +kernel
theorem dX8_raceWay_41 : decode cX8_raceWay 41 = .ok (.goto (-35), 3) := by decide +kernel
theorem dX8_raceWay_44 : decode cX8_raceWay 44 = .ok (.iload 5, 2) := by decide +kernel
theorem dX8_raceWay_46 : decode cX8_raceWay 46 = .ok (.ireturn, 1) := by decide +kernel
theorem dX9_init_0 : decode cX9_init 0 = .ok (.aload_n 0, 1) := by decide +kernel
theorem dX9_init_1 : decode cX9_init 1 = .ok (.invokespecial 3, 3) := by decide +kernel
theorem dX9_init_4 : decode cX9_init 4 = .ok (.return_, 1) := by decide +kernel
theorem dX9_payWay_0 : decode cX9_payWay 0 = .ok (.aload_n 1, 1) := by decide +kernel
theorem dX9_payWay_1 : decode cX9_payWay 1 = .ok (.bipush 7, 2) := by decide +kernel
theorem dX9_payWay_3 : decode cX9_payWay 3 = .ok (.iconst 1, 1) := by decide +kernel
theorem dX9_payWay_4 : decode cX9_payWay 4 = .ok (.invokevirtual 9, 3) := by decide +kernel
theorem dX9_payWay_7 : decode cX9_payWay 7 = .ok (.aload_n 0, 1) := by decide +kernel
theorem dX9_payWay_8 : decode cX9_payWay 8 = .ok (.aload_n 1, 1) := by decide +kernel
theorem dX9_payWay_9 : decode cX9_payWay 9 = .ok (.aload_n 2, 1) := by decide +kernel
theorem dX9_payWay_10 : decode cX9_payWay 10 = .ok (.iload_n 3, 1) := by decide +kernel
theorem dX9_payWay_11 : decode cX9_payWay 11 = .ok (.invokespecial 15, 3) := by decide +kernel
theorem dX9_payWay_14 : decode cX9_payWay 14 = .ok (.lstore 4, 2) := by decide +kernel
theorem dX9_payWay_16 : decode cX9_payWay 16 = .ok (.aload_n 1, 1) := by decide +kernel
theorem dX9_payWay_17 : decode cX9_payWay 17 = .ok (.getfield 19, 3) := by decide +kernel
theorem dX9_payWay_20 : decode cX9_payWay 20 = .ok (.astore 6, 2) := by decide +kernel
theorem dX9_payWay_22 : decode cX9_payWay 22 = .ok (.aload 6, 2) := by decide +kernel
theorem dX9_payWay_24 : decode cX9_payWay 24 = .ok (.ifnull 32, 3) := by decide +kernel
theorem dX9_payWay_27 : decode cX9_payWay 27 = .ok (.aload 6, 2) := by decide +kernel
theorem dX9_payWay_29 : decode cX9_payWay 29 = .ok (.getfield 23, 3) := by decide +kernel
theorem dX9_payWay_32 : decode cX9_payWay 32 = .ok (.sipush 500, 3) := by decide +kernel
theorem dX9_payWay_35 : decode cX9_payWay 35 = .ok (.if_icmp .le 11, 3) := by decide +kernel
theorem dX9_payWay_38 : decode cX9_payWay 38 = .ok (.lload 4, 2) := by decide +kernel
theorem dX9_payWay_40 : decode cX9_payWay 40 = .ok (.ldc2_w 29, 3) := by decide +kernel
theorem dX9_payWay_43 : decode cX9_payWay 43 = .ok (.ladd, 1) := by decide +kernel
theorem dX9_payWay_44 : decode cX9_payWay 44 = .ok (.lstore 4, 2) := by decide +kernel
theorem dX9_payWay_46 : decode cX9_payWay 46 = .ok (.aload 6, 2) := by decide +kernel
theorem dX9_payWay_48 : decode cX9_payWay 48 = .ok (.getfield 31, 3) := by decide +kernel
theorem dX9_payWay_51 : decode cX9_payWay 51 = .ok (.astore 6, 2) := by decide +kernel
theorem dX9_payWay_53 : decode cX9_payWay 53 = .ok (.goto (-31), 3) := by decide +kernel
theorem dX9_payWay_56 : decode cX9_payWay 56 = .ok (.lload 4, 2) := by decide +kernel
theorem dX9_payWay_58 : decode cX9_payWay 58 = .ok (.lreturn, 1) := by decide +kernel
theorem dX9_climbWay_0 : decode cX9_climbWay 0 = .ok (.aload_n 1, 1) := by decide +kernel
theorem dX9_climbWay_1 : decode cX9_climbWay 1 = .ok (.bipush 7, 2) := by decide +kernel
theorem dX9_climbWay_3 : decode cX9_climbWay 3 = .ok (.iconst 2, 1) := by decide +kernel
theorem dX9_climbWay_4 : decode cX9_climbWay 4 = .ok (.invokevirtual 9, 3) := by decide +kernel
theorem dX9_climbWay_7 : decode cX9_climbWay 7 = .ok (.aload_n 0, 1) := by decide +kernel
theorem dX9_climbWay_8 : decode cX9_climbWay 8 = .ok (.aload_n 1, 1) := by decide +kernel
theorem dX9_climbWay_9 : decode cX9_climbWay 9 = .ok (.aload_n 2, 1) := by decide +kernel
theorem dX9_climbWay_10 : decode cX9_climbWay 10 = .ok (.iload_n 3, 1) := by decide +kernel
theorem dX9_climbWay_11 : decode cX9_climbWay 11 = .ok (.iconst 2, 1) := by decide +kernel
theorem dX9_climbWay_12 : decode cX9_climbWay 12 = .ok (.idiv, 1) := by decide +kernel
theorem dX9_climbWay_13 : decode cX9_climbWay 13 = .ok (.invokespecial 34, 3) := by decide +kernel
theorem dX9_climbWay_16 : decode cX9_climbWay 16 = .ok (.ireturn, 1) := by decide +kernel
theorem dX10_init_0 : decode cX10_init 0 = .ok (.aload_n 0, 1) := by decide +kernel
theorem dX10_init_1 : decode cX10_init 1 = .ok (.invokespecial 3, 3) := by decide +kernel
theorem dX10_init_4 : decode cX10_init 4 = .ok (.return_, 1) := by decide +kernel
theorem dX10_toilWay_0 : decode cX10_toilWay 0 = .ok (.aload_n 1, 1) := by decide +kernel
theorem dX10_toilWay_1 : decode cX10_toilWay 1 = .ok (.iconst 2, 1) := by decide +kernel
theorem dX10_toilWay_2 : decode cX10_toilWay 2 = .ok (.iconst 0, 1) := by decide +kernel
theorem dX10_toilWay_3 : decode cX10_toilWay 3 = .ok (.invokevirtual 9, 3) := by decide +kernel
theorem dX10_toilWay_6 : decode cX10_toilWay 6 = .ok (.aload_n 2, 1) := by decide +kernel
theorem dX10_toilWay_7 : decode cX10_toilWay 7 = .ok (.getfield 15, 3) := by decide +kernel
theorem dX10_toilWay_10 : decode cX10_toilWay 10 = .ok (.sipush 500, 3) := by decide +kernel
theorem dX10_toilWay_13 : decode cX10_toilWay 13 = .ok (.if_icmp .le 5, 3) := by decide +kernel
theorem dX10_toilWay_16 : decode cX10_toilWay 16 = .ok (.lconst 0, 1) := by decide +kernel
theorem dX10_toilWay_17 : decode cX10_toilWay 17 = .ok (.lreturn, 1) := by decide +kernel
theorem dX10_toilWay_18 : decode cX10_toilWay 18 = .ok (.aload_n 0, 1) := by decide +kernel
theorem dX10_toilWay_19 : decode cX10_toilWay 19 = .ok (.aload_n 1, 1) := by decide +kernel
theorem dX10_toilWay_20 : decode cX10_toilWay 20 = .ok (.aload_n 2, 1) := by decide +kernel
theorem dX10_toilWay_21 : decode cX10_toilWay 21 = .ok (.iload_n 3, 1) := by decide +kernel
theorem dX10_toilWay_22 : decode cX10_toilWay 22 = .ok (.invokespecial 21, 3) := by decide +kernel
theorem dX10_toilWay_25 : decode cX10_toilWay 25 = .ok (.ldc2_w 25, 3) := by decide +kernel
theorem dX10_toilWay_28 : decode cX10_toilWay 28 = .ok (.iload_n 3, 1) := by decide +kernel
theorem dX10_toilWay_29 : decode cX10_toilWay 29 = .ok (.i2l, 1) := by decide +kernel
theorem dX10_toilWay_30 : decode cX10_toilWay 30 = .ok (.lmul, 1) := by decide +kernel
theorem dX10_toilWay_31 : decode cX10_toilWay 31 = .ok (.ladd, 1) := by decide +kernel
theorem dX10_toilWay_32 : decode cX10_toilWay 32 = .ok (.lreturn, 1) := by decide +kernel
theorem dX10_heedWay_0 : decode cX10_heedWay 0 = .ok (.aload_n 1, 1) := by decide +kernel
theorem dX10_heedWay_1 : decode cX10_heedWay 1 = .ok (.iconst 2, 1) := by decide +kernel
theorem dX10_heedWay_2 : decode cX10_heedWay 2 = .ok (.iconst 3, 1) := by decide +kernel
theorem dX10_heedWay_3 : decode cX10_heedWay 3 = .ok (.invokevirtual 9, 3) := by decide +kernel
theorem dX10_heedWay_6 : decode cX10_heedWay 6 = .ok (.iload_n 3, 1) := by decide +kernel
theorem dX10_heedWay_7 : decode cX10_heedWay 7 = .ok (.iconst 2, 1) := by decide +kernel
theorem dX10_heedWay_8 : decode cX10_heedWay 8 = .ok (.irem, 1) := by decide +kernel
theorem dX10_heedWay_9 : decode cX10_heedWay 9 = .ok (.ifCond .eq 5, 3) := by decide +kernel
theorem dX10_heedWay_12 : decode cX10_heedWay 12 = .ok (.iload_n 3, 1) := by decide +kernel
theorem dX10_heedWay_13 : decode cX10_heedWay 13 = .ok (.ireturn, 1) := by decide +kernel
theorem dX10_heedWay_14 : decode cX10_heedWay 14 = .ok (.aload_n 0, 1) := by decide +kernel
theorem dX10_heedWay_15 : decode cX10_heedWay 15 = .ok (.aload_n 1, 1) := by decide +kernel
theorem dX10_heedWay_16 : decode cX10_heedWay 16 = .ok (.aload_n 2, 1) := by decide +kernel
theorem dX10_heedWay_17 : decode cX10_heedWay 17 = .ok (.iload_n 3, 1) := by decide +kernel
theorem dX10_heedWay_18 : decode cX10_heedWay 18 = .ok (.invokespecial 27, 3) := by decide +kernel
theorem dX10_heedWay_21 : decode cX10_heedWay 21 = .ok (.sipush 1000, 3) := by decide +kernel
theorem dX10_heedWay_24 : decode cX10_heedWay 24 = .ok (.iadd, 1) := by decide +kernel
theorem dX10_heedWay_25 : decode cX10_heedWay 25 = .ok (.ireturn, 1) := by decide +kernel
