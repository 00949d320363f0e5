theorem dX12_init_0 : decode cX12_init 0 = .ok (.aload_n 0, 1) := by decide +kernel
theorem dX12_init_1 : decode cX12_init 1 = .ok (.invokespecial 1, 3) := by decide +kernel
theorem dX12_init_4 : decode cX12_init 4 = .ok (.aload_n 0, 1) := by decide +kernel
theorem dX12_init_5 : decode cX12_init 5 = .ok (.bipush 12, 2) := by decide +kernel
theorem dX12_init_7 : decode cX12_init 7 = .ok (.newarray .int, 2) := by decide +kernel
theorem dX12_init_9 : decode cX12_init 9 = .ok (.putfield 7, 3) := by decide +kernel
theorem dX12_init_12 : decode cX12_init 12 = .ok (.aload_n 0, 1) := by decide +kernel
theorem dX12_init_13 : decode cX12_init 13 = .ok (.bipush 12, 2) := by decide +kernel
theorem dX12_init_15 : decode cX12_init 15 = .ok (.newarray .int, 2) := by decide +kernel
theorem dX12_init_17 : decode cX12_init 17 = .ok (.putfield 13, 3) := by decide +kernel
theorem dX12_init_20 : decode cX12_init 20 = .ok (.aload_n 0, 1) := by decide +kernel
theorem dX12_init_21 : decode cX12_init 21 = .ok (.bipush 12, 2) := by decide +kernel
theorem dX12_init_23 : decode cX12_init 23 = .ok (.newarray .int, 2) := by decide +kernel
theorem dX12_init_25 : decode cX12_init 25 = .ok (.putfield 16, 3) := by decide +kernel
theorem dX12_init_28 : decode cX12_init 28 = .ok (.aload_n 0, 1) := by decide +kernel
theorem dX12_init_29 : decode cX12_init 29 = .ok (.bipush 12, 2) := by decide +kernel
theorem dX12_init_31 : decode cX12_init 31 = .ok (.newarray .long, 2) := by decide +kernel
theorem dX12_init_33 : decode cX12_init 33 = .ok (.putfield 19, 3) := by decide +kernel
theorem dX12_init_36 : decode cX12_init 36 = .ok (.aload_n 0, 1) := by decide +kernel
theorem dX12_init_37 : decode cX12_init 37 = .ok (.bipush 8, 2) := by decide +kernel
theorem dX12_init_39 : decode cX12_init 39 = .ok (.newarray .int, 2) := by decide +kernel
theorem dX12_init_41 : decode cX12_init 41 = .ok (.putfield 23, 3) := by decide +kernel
theorem dX12_init_44 : decode cX12_init 44 = .ok (.aload_n 0, 1) := by decide +kernel
theorem dX12_init_45 : decode cX12_init 45 = .ok (.bipush 8, 2) := by decide +kernel
theorem dX12_init_47 : decode cX12_init 47 = .ok (.newarray .int, 2) := by decide +kernel
theorem dX12_init_49 : decode cX12_init 49 = .ok (.putfield 26, 3) := by decide +kernel
theorem dX12_init_52 : decode cX12_init 52 = .ok (.aload_n 0, 1) := by decide +kernel
theorem dX12_init_53 : decode cX12_init 53 = .ok (.bipush 8, 2) := by decide +kernel
theorem dX12_init_55 : decode cX12_init 55 = .ok (.newarray .int, 2) := by decide +kernel
theorem dX12_init_57 : decode cX12_init 57 = .ok (.putfield 29, 3) := by decide +kernel
theorem dX12_init_60 : decode cX12_init 60 = .ok (.aload_n 0, 1) := by decide +kernel
theorem dX12_init_61 : decode cX12_init 61 = .ok (.bipush 8, 2) := by decide +kernel
theorem dX12_init_63 : decode cX12_init 63 = .ok (.newarray .int, 2) := by decide +kernel
theorem dX12_init_65 : decode cX12_init 65 = .ok (.putfield 32, 3) := by decide +kernel
theorem dX12_init_68 : decode cX12_init 68 = .ok (.aload_n 0, 1) := by decide +kernel
theorem dX12_init_69 : decode cX12_init 69 = .ok (.bipush 64, 2) := by decide +kernel
theorem dX12_init_71 : decode cX12_init 71 = .ok (.newarray .int, 2) := by decide +kernel
theorem dX12_init_73 : decode cX12_init 73 = .ok (.putfield 35, 3) := by decide +kernel
theorem dX12_init_76 : decode cX12_init 76 = .ok (.iconst 0, 1) := by decide +kernel
theorem dX12_init_77 : decode cX12_init 77 = .ok (.istore_n 1, 1) := by decide +kernel
theorem dX12_init_78 : decode cX12_init 78 = .ok (.iload_n 1, 1) := by decide +kernel
theorem dX12_init_79 : decode cX12_init 79 = .ok (.bipush 8, 2) := by decide +kernel
theorem dX12_init_81 : decode cX12_init 81 = .ok (.if_icmp .ge 16, 3) := by decide +kernel
theorem dX12_init_84 : decode cX12_init 84 = .ok (.aload_n 0, 1) := by decide +kernel
theorem dX12_init_85 : decode cX12_init 85 = .ok (.getfield 23, 3) := by decide +kernel
theorem dX12_init_88 : decode cX12_init 88 = .ok (.iload_n 1, 1) := by decide +kernel
theorem dX12_init_89 : decode cX12_init 89 = .ok (.iconst (-1), 1) := by decide +kernel
theorem dX12_init_90 : decode cX12_init 90 = .ok (.iastore, 1) := by decide +kernel
theorem dX12_init_91 : decode cX12_init 91 = .ok (.iinc 1 1, 3) := by decide +kernel
theorem dX12_init_94 : decode cX12_init 94 = .ok (.goto (-16), 3) := by decide +kernel
theorem dX12_init_97 : decode cX12_init 97 = .ok (.return_, 1) := by decide +kernel
theorem dX12_elderOf_0 : decode cX12_elderOf 0 = .ok (.iload_n 0, 1) := by decide +kernel
theorem dX12_elderOf_1 : decode cX12_elderOf 1 = .ok (.lookupswitch 32 #[(0, 27), (6, 30)], 27) := by decide +kernel
theorem dX12_elderOf_28 : decode cX12_elderOf 28 = .ok (.bipush 8, 2) := by decide +kernel
theorem dX12_elderOf_30 : decode cX12_elderOf 30 = .ok (.ireturn, 1) := by decide +kernel
theorem dX12_elderOf_31 : decode cX12_elderOf 31 = .ok (.iconst 0, 1) := by decide +kernel
theorem dX12_elderOf_32 : decode cX12_elderOf 32 = .ok (.ireturn, 1) := by decide +kernel
theorem dX12_elderOf_33 : decode cX12_elderOf 33 = .ok (.iload_n 0, 1) := by decide +kernel
theorem dX12_elderOf_34 : decode cX12_elderOf 34 = .ok (.iconst 1, 1) := by decide +kernel
theorem dX12_elderOf_35 : decode cX12_elderOf 35 = .ok (.isub, 1) := by decide +kernel
theorem dX12_elderOf_36 : decode cX12_elderOf 36 = .ok (.ireturn, 1) := by decide +kernel
theorem dX12_boundOf_0 : decode cX12_boundOf 0 = .ok (.iload_n 0, 1) := by decide +kernel
theorem dX12_boundOf_1 : decode cX12_boundOf 1 = .ok (.ifCond .ne 8, 3) := by decide +kernel
theorem dX12_boundOf_4 : decode cX12_boundOf 4 = .ok (.bipush 100, 2) := by decide +kernel
theorem dX12_boundOf_6 : decode cX12_boundOf 6 = .ok (.goto 28, 3) := by decide +kernel
theorem dX12_boundOf_9 : decode cX12_boundOf 9 = .ok (.iload_n 0, 1) := by decide +kernel
theorem dX12_boundOf_10 : decode cX12_boundOf 10 = .ok (.iconst 1, 1) := by decide +kernel
theorem dX12_boundOf_11 : decode cX12_boundOf 11 = .ok (.if_icmp .ne 9, 3) := by decide +kernel
theorem dX12_boundOf_14 : decode cX12_boundOf 14 = .ok (.sipush 1000, 3) := by decide +kernel
theorem dX12_boundOf_17 : decode cX12_boundOf 17 = .ok (.goto 17, 3) := by decide +kernel
theorem dX12_boundOf_20 : decode cX12_boundOf 20 = .ok (.iload_n 0, 1) := by decide +kernel
theorem dX12_boundOf_21 : decode cX12_boundOf 21 = .ok (.iconst 2, 1) := by decide +kernel
theorem dX12_boundOf_22 : decode cX12_boundOf 22 = .ok (.if_icmp .ne 9, 3) := by decide +kernel
theorem dX12_boundOf_25 : decode cX12_boundOf 25 = .ok (.sipush 200, 3) := by decide +kernel
theorem dX12_boundOf_28 : decode cX12_boundOf 28 = .ok (.goto 6, 3) := by decide +kernel
theorem dX12_boundOf_31 : decode cX12_boundOf 31 = .ok (.sipush 9999, 3) := by decide +kernel
theorem dX12_boundOf_34 : decode cX12_boundOf 34 = .ok (.ireturn, 1) := by decide +kernel
theorem dX12_isMember_0 : decode cX12_isMember 0 = .ok (.iload_n 1, 1) := by decide +kernel
theorem dX12_isMember_1 : decode cX12_isMember 1 = .ok (.ifCond .lt 15, 3) := by decide +kernel
theorem dX12_isMember_4 : decode cX12_isMember 4 = .ok (.iload_n 1, 1) := by decide +kernel
theorem dX12_isMember_5 : decode cX12_isMember 5 = .ok (.aload_n 0, 1) := by decide +kernel
theorem dX12_isMember_6 : decode cX12_isMember 6 = .ok (.getfield 38, 3) := by decide +kernel
theorem dX12_isMember_9 : decode cX12_isMember 9 = .ok (.if_icmp .ge 7, 3) := by decide +kernel
theorem dX12_isMember_12 : decode cX12_isMember 12 = .ok (.iconst 1, 1) := by decide +kernel
theorem dX12_isMember_13 : decode cX12_isMember 13 = .ok (.goto 4, 3) := by decide +kernel
theorem dX12_isMember_16 : decode cX12_isMember 16 = .ok (.iconst 0, 1) := by decide +kernel
theorem dX12_isMember_17 : decode cX12_isMember 17 = .ok (.ireturn, 1) := by decide +kernel
theorem dX12_isWithin_0 : decode cX12_isWithin 0 = .ok (.iload_n 1, 1) := by decide +kernel
theorem dX12_isWithin_1 : decode cX12_isWithin 1 = .ok (.ifCond .lt 15, 3) := by decide +kernel
theorem dX12_isWithin_4 : decode cX12_isWithin 4 = .ok (.iload_n 1, 1) := by decide +kernel
theorem dX12_isWithin_5 : decode cX12_isWithin 5 = .ok (.iload_n 0, 1) := by decide +kernel
theorem dX12_isWithin_6 : decode cX12_isWithin 6 = .ok (.invokestatic 42, 3) := by decide +kernel
theorem dX12_isWithin_9 : decode cX12_isWithin 9 = .ok (.if_icmp .gt 7, 3) := by decide +kernel
theorem dX12_isWithin_12 : decode cX12_isWithin 12 = .ok (.iconst 1, 1) := by decide +kernel
theorem dX12_isWithin_13 : decode cX12_isWithin 13 = .ok (.goto 4, 3) := by decide +kernel
theorem dX12_isWithin_16 : decode cX12_isWithin 16 = .ok (.iconst 0, 1) := by decide +kernel
theorem dX12_isWithin_17 : decode cX12_isWithin 17 = .ok (.ireturn, 1) := by decide +kernel
theorem dX12_mark_0 : decode cX12_mark 0 = .ok (.aload_n 0, 1) := by decide +kernel
theorem dX12_mark_1 : decode cX12_mark 1 = .ok (.getfield 46, 3) := by decide +kernel
theorem dX12_mark_4 : decode cX12_mark 4 = .ok (.bipush 64, 2) := by decide +kernel
theorem dX12_mark_6 : decode cX12_mark 6 = .ok (.if_icmp .ge 13, 3) := by decide +kernel
theorem dX12_mark_9 : decode cX12_mark 9 = .ok (.aload_n 0, 1) := by decide +kernel
theorem dX12_mark_10 : decode cX12_mark 10 = .ok (.getfield 35, 3) := by decide +kernel
theorem dX12_mark_13 : decode cX12_mark 13 = .ok (.aload_n 0, 1) := by decide +kernel
theorem dX12_mark_14 : decode cX12_mark 14 = .ok (.getfield 46, 3) := by decide +kernel
theorem dX12_mark_17 : decode cX12_mark 17 = .ok (.iload_n 1, 1) := by decide +kernel
theorem dX12_mark_18 : decode cX12_mark 18 = .ok (.iastore, 1) := by decide +kernel
theorem dX12_mark_19 : decode cX12_mark 19 = .ok (.aload_n 0, 1) := by decide +kernel
theorem dX12_mark_20 : decode cX12_mark 20 = .ok (.dup, 1) := by decide +kernel
theorem dX12_mark_21 : decode cX12_mark 21 = .ok (.getfield 46, 3) := by decide +kernel
theorem dX12_mark_24 : decode cX12_mark 24 = .ok (.iconst 1, 1) := by decide +kernel
theorem dX12_mark_25 : decode cX12_mark 25 = .ok (.iadd, 1) := by decide +kernel
theorem dX12_mark_26 : decode cX12_mark 26 = .ok (.putfield 46, 3) := by decide +kernel
theorem dX12_mark_29 : decode cX12_mark 29 = .ok (.return_, 1) := by decide +kernel
theorem dX12_tire_0 : decode cX12_tire 0 = .ok (.aload_n 0, 1) := by decide +kernel
theorem dX12_tire_1 : decode cX12_tire 1 = .ok (.getfield 16, 3) := by decide +kernel
theorem dX12_tire_4 : decode cX12_tire 4 = .ok (.iload_n 1, 1) := by decide +kernel
theorem dX12_tire_5 : decode cX12_tire 5 = .ok (.iaload, 1) := by decide +kernel
theorem dX12_tire_6 : decode cX12_tire 6 = .ok (.iload_n 2, 1) := by decide +kernel
theorem dX12_tire_7 : decode cX12_tire 7 = .ok (.iadd, 1) := by decide +kernel
theorem dX12_tire_8 : decode cX12_tire 8 = .ok (.istore_n 3, 1) := by decide +kernel
theorem dX12_tire_9 : decode cX12_tire 9 = .ok (.aload_n 0, 1) := by decide +kernel
theorem dX12_tire_10 : decode cX12_tire 10 = .ok (.getfield 16, 3) := by decide +kernel
theorem dX12_tire_13 : decode cX12_tire 13 = .ok (.iload_n 1, 1) := by decide +kernel
theorem dX12_tire_14 : decode cX12_tire 14 = .ok (.iload_n 3, 1) := by decide +kernel
theorem dX12_tire_15 : decode cX12_tire 15 = .ok (.ifCond .ge 7, 3) := by decide +kernel
theorem dX12_tire_18 : decode cX12_tire 18 = .ok (.iconst 0, 1) := by decide +kernel
theorem dX12_tire_19 : decode cX12_tire 19 = .ok (.goto 17, 3) := by decide +kernel
theorem dX12_tire_22 : decode cX12_tire 22 = .ok (.iload_n 3, 1) := by decide +kernel
theorem dX12_tire_23 : decode cX12_tire 23 = .ok (.sipush 1000, 3) := by decide +kernel
theorem dX12_tire_26 : decode cX12_tire 26 = .ok (.if_icmp .le 9, 3) := by decide +kernel
theorem dX12_tire_29 : decode cX12_tire 29 = .ok (.sipush 1000, 3) := by decide +kernel
theorem dX12_tire_32 : decode cX12_tire 32 = .ok (.goto 4, 3) := by decide +kernel
theorem dX12_tire_35 : decode cX12_tire 35 = .ok (.iload_n 3, 1) := by decide +kernel
theorem dX12_tire_36 : decode cX12_tire 36 = .ok (.iastore, 1) := by decide +kernel
theorem dX12_tire_37 : decode cX12_tire 37 = .ok (.return_, 1) := by decide +kernel
theorem dX12_howMany_0 : decode cX12_howMany 0 = .ok (.iconst 0, 1) := by decide +kernel
theorem dX12_howMany_1 : decode cX12_howMany 1 = .ok (.istore_n 3, 1) := by decide +kernel
theorem dX12_howMany_2 : decode cX12_howMany 2 = .ok (.iconst 0, 1) := by decide +kernel
theorem dX12_howMany_3 : decode cX12_howMany 3 = .ok (.istore 4, 2) := by decide +kernel
theorem dX12_howMany_5 : decode cX12_howMany 5 = .ok (.iload 4, 2) := by decide +kernel
theorem dX12_howMany_7 : decode cX12_howMany 7 = .ok (.aload_n 0, 1) := by decide +kernel
theorem dX12_howMany_8 : decode cX12_howMany 8 = .ok (.getfield 38, 3) := by decide +kernel
theorem dX12_howMany_11 : decode cX12_howMany 11 = .ok (.if_icmp .ge 34, 3) := by decide +kernel
theorem dX12_howMany_14 : decode cX12_howMany 14 = .ok (.aload_n 0, 1) := by decide +kernel
theorem dX12_howMany_15 : decode cX12_howMany 15 = .ok (.getfield 7, 3) := by decide +kernel
theorem dX12_howMany_18 : decode cX12_howMany 18 = .ok (.iload 4, 2) := by decide +kernel
theorem dX12_howMany_20 : decode cX12_howMany 20 = .ok (.iaload, 1) := by decide +kernel
theorem dX12_howMany_21 : decode cX12_howMany 21 = .ok (.iload_n 1, 1) := by decide +kernel
theorem dX12_howMany_22 : decode cX12_howMany 22 = .ok (.if_icmp .lt 17, 3) := by decide +kernel
theorem dX12_howMany_25 : decode cX12_howMany 25 = .ok (.aload_n 0, 1) := by decide +kernel
theorem dX12_howMany_26 : decode cX12_howMany 26 = .ok (.getfield 7, 3) := by decide +kernel
theorem dX12_howMany_29 : decode cX12_howMany 29 = .ok (.iload 4, 2) := by decide +kernel
theorem dX12_howMany_31 : decode cX12_howMany 31 = .ok (.iaload, 1) := by decide +kernel
theorem dX12_howMany_32 : decode cX12_howMany 32 = .ok (.iload_n 2, 1) := by decide +kernel
theorem dX12_howMany_33 : decode cX12_howMany 33 = .ok (.if_icmp .gt 6, 3) := by decide +kernel
theorem dX12_howMany_36 : decode cX12_howMany 36 = .ok (.iinc 3 1, 3) := by decide +kernel
theorem dX12_howMany_39 : decode cX12_howMany 39 = .ok (.iinc 4 1, 3) := by decide +kernel
theorem dX12_howMany_42 : decode cX12_howMany 42 = .ok (.goto (-37), 3) := by decide +kernel
theorem dX12_howMany_45 : decode cX12_howMany 45 = .ok (.iload_n 3, 1) := by decide +kernel
theorem dX12_howMany_46 : decode cX12_howMany 46 = .ok (.ireturn, 1) := by decide +kernel
theorem dX12_soulToils_0 : decode cX12_soulToils 0 = .ok (.aload_n 0, 1) := by decide +kernel
theorem dX12_soulToils_1 : decode cX12_soulToils 1 = .ok (.bipush 80, 2) := by decide +kernel
theorem dX12_soulToils_3 : decode cX12_soulToils 3 = .ok (.invokevirtual 49, 3) := by decide +kernel
theorem dX12_soulToils_6 : decode cX12_soulToils 6 = .ok (.iload_n 2, 1) := by decide +kernel
theorem dX12_soulToils_7 : decode cX12_soulToils 7 = .ok (.i2l, 1) := by decide +kernel
theorem dX12_soulToils_8 : decode cX12_soulToils 8 = .ok (.bipush 10, 2) := by decide +kernel
theorem dX12_soulToils_10 : decode cX12_soulToils 10 = .ok (.aload_n 0, 1) := by decide +kernel
theorem dX12_soulToils_11 : decode cX12_soulToils 11 = .ok (.getfield 13, 3) := by decide +kernel
theorem dX12_soulToils_14 : decode cX12_soulToils 14 = .ok (.iload_n 1, 1) := by decide +kernel
theorem dX12_soulToils_15 : decode cX12_soulToils 15 = .ok (.iaload, 1) := by decide +kernel
theorem dX12_soulToils_16 : decode cX12_soulToils 16 = .ok (.iadd, 1) := by decide +kernel
theorem dX12_soulToils_17 : decode cX12_soulToils 17 = .ok (.i2l, 1) := by decide +kernel
theorem dX12_soulToils_18 : decode cX12_soulToils 18 = .ok (.lmul, 1) := by decide +kernel
theorem dX12_soulToils_19 : decode cX12_soulToils 19 = .ok (.aload_n 0, 1) := by decide +kernel
theorem dX12_soulToils_20 : decode cX12_soulToils 20 = .ok (.getfield 16, 3) := by decide +kernel
theorem dX12_soulToils_23 : decode cX12_soulToils 23 = .ok (.iload_n 1, 1) := by decide +kernel
theorem dX12_soulToils_24 : decode cX12_soulToils 24 = .ok (.iaload, 1) := by decide +kernel
theorem dX12_soulToils_25 : decode cX12_soulToils 25 = .ok (.i2l, 1) := by decide +kernel
theorem dX12_soulToils_26 : decode cX12_soulToils 26 = .ok (.lsub, 1) := by decide +kernel
theorem dX12_soulToils_27 : decode cX12_soulToils 27 = .ok (.lstore_n 3, 1) := by decide +kernel
theorem dX12_soulToils_28 : decode cX12_soulToils 28 = .ok (.aload_n 0, 1) := by decide +kernel
theorem dX12_soulToils_29 : decode cX12_soulToils 29 = .ok (.iload_n 1, 1) := by decide +kernel
theorem dX12_soulToils_30 : decode cX12_soulToils 30 = .ok (.iload_n 2, 1) := by decide +kernel
theorem dX12_soulToils_31 : decode cX12_soulToils 31 = .ok (.invokevirtual 53, 3) := by decide +kernel
theorem dX12_soulToils_34 : decode cX12_soulToils 34 = .ok (.lload_n 3, 1) := by decide +kernel
theorem dX12_soulToils_35 : decode cX12_soulToils 35 = .ok (.lconst 0, 1) := by decide +kernel
theorem dX12_soulToils_36 : decode cX12_soulToils 36 = .ok (.lcmp, 1) := by decide +kernel
theorem dX12_soulToils_37 : decode cX12_soulToils 37 = .ok (.ifCond .ge 7, 3) := by decide +kernel
theorem dX12_soulToils_40 : decode cX12_soulToils 40 = .ok (.lconst 0, 1) := by decide +kernel
theorem dX12_soulToils_41 : decode cX12_soulToils 41 = .ok (.goto 4, 3) := by decide +kernel
theorem dX12_soulToils_44 : decode cX12_soulToils 44 = .ok (.lload_n 3, 1) := by decide +kernel
theorem dX12_soulToils_45 : decode cX12_soulToils 45 = .ok (.lreturn, 1) := by decide +kernel
theorem dX12_topmanToils_0 : decode cX12_topmanToils 0 = .ok (.aload_n 0, 1) := by decide +kernel
theorem dX12_topmanToils_1 : decode cX12_topmanToils 1 = .ok (.bipush 20, 2) := by decide +kernel
theorem dX12_topmanToils_3 : decode cX12_topmanToils 3 = .ok (.invokevirtual 49, 3) := by decide +kernel
theorem dX12_topmanToils_6 : decode cX12_topmanToils 6 = .ok (.aload_n 0, 1) := by decide +kernel
theorem dX12_topmanToils_7 : decode cX12_topmanToils 7 = .ok (.getfield 16, 3) := by decide +kernel
theorem dX12_topmanToils_10 : decode cX12_topmanToils 10 = .ok (.iload_n 1, 1) := by decide +kernel
theorem dX12_topmanToils_11 : decode cX12_topmanToils 11 = .ok (.iaload, 1) := by decide +kernel
theorem dX12_topmanToils_12 : decode cX12_topmanToils 12 = .ok (.sipush 500, 3) := by decide +kernel
theorem dX12_topmanToils_15 : decode cX12_topmanToils 15 = .ok (.if_icmp .le 7, 3) := by decide +kernel
theorem dX12_topmanToils_18 : decode cX12_topmanToils 18 = .ok (.lconst 0, 1) := by decide +kernel
theorem dX12_topmanToils_19 : decode cX12_topmanToils 19 = .ok (.goto 16, 3) := by decide +kernel
theorem dX12_topmanToils_22 : decode cX12_topmanToils 22 = .ok (.aload_n 0, 1) := by decide +kernel
theorem dX12_topmanToils_23 : decode cX12_topmanToils 23 = .ok (.iload_n 1, 1) := by decide +kernel
theorem dX12_topmanToils_24 : decode cX12_topmanToils 24 = .ok (.iload_n 2, 1) := by decide +kernel
theorem dX12_topmanToils_25 : decode cX12_topmanToils 25 = .ok (.invokevirtual 57, 3) := by decide +kernel
theorem dX12_topmanToils_28 : decode cX12_topmanToils 28 = .ok (.ldc2_w 61, 3) := by decide +kernel
theorem dX12_topmanToils_31 : decode cX12_topmanToils 31 = .ok (.iload_n 2, 1) := by decide +kernel
theorem dX12_topmanToils_32 : decode cX12_topmanToils 32 = .ok (.i2l, 1) := by decide +kernel
theorem dX12_topmanToils_33 : decode cX12_topmanToils 33 = .ok (.lmul, 1) := by decide +kernel
theorem dX12_topmanToils_34 : decode cX12_topmanToils 34 = .ok (.ladd, 1) := by decide +kernel
theorem dX12_topmanToils_35 : decode cX12_topmanToils 35 = .ok (.lreturn, 1) := by decide +kernel
theorem dX12_mateToils_0 : decode cX12_mateToils 0 = .ok (.aload_n 0, 1) := by decide +kernel
theorem dX12_mateToils_1 : decode cX12_mateToils 1 = .ok (.bipush 40, 2) := by decide +kernel
theorem dX12_mateToils_3 : decode cX12_mateToils 3 = .ok (.invokevirtual 49, 3) := by decide +kernel
theorem dX12_mateToils_6 : decode cX12_mateToils 6 = .ok (.aload_n 0, 1) := by decide +kernel
theorem dX12_mateToils_7 : decode cX12_mateToils 7 = .ok (.iload_n 1, 1) := by decide +kernel
theorem dX12_mateToils_8 : decode cX12_mateToils 8 = .ok (.iload_n 2, 1) := by decide +kernel
theorem dX12_mateToils_9 : decode cX12_mateToils 9 = .ok (.iconst 2, 1) := by decide +kernel
theorem dX12_mateToils_10 : decode cX12_mateToils 10 = .ok (.idiv, 1) := by decide +kernel
theorem dX12_mateToils_11 : decode cX12_mateToils 11 = .ok (.invokevirtual 63, 3) := by decide +kernel
theorem dX12_mateToils_14 : decode cX12_mateToils 14 = .ok (.lstore_n 3, 1) := by decide +kernel
theorem dX12_mateToils_15 : decode cX12_mateToils 15 = .ok (.lload_n 3, 1) := by decide +kernel
theorem dX12_mateToils_16 : decode cX12_mateToils 16 = .ok (.aload_n 0, 1) := by decide +kernel
theorem dX12_mateToils_17 : decode cX12_mateToils 17 = .ok (.iload_n 1, 1) := by decide +kernel
theorem dX12_mateToils_18 : decode cX12_mateToils 18 = .ok (.iload_n 2, 1) := by decide +kernel
theorem dX12_mateToils_19 : decode cX12_mateToils 19 = .ok (.iload_n 2, 1) := by decide +kernel
theorem dX12_mateToils_20 : decode cX12_mateToils 20 = .ok (.iconst 2, 1) := by decide +kernel
theorem dX12_mateToils_21 : decode cX12_mateToils 21 = .ok (.idiv, 1) := by decide +kernel
theorem dX12_mateToils_22 : decode cX12_mateToils 22 = .ok (.isub, 1) := by decide +kernel
theorem dX12_mateToils_23 : decode cX12_mateToils 23 = .ok (.invokevirtual 63, 3) := by decide +kernel
theorem dX12_mateToils_26 : decode cX12_mateToils 26 = .ok (.ladd, 1) := by decide +kernel
theorem dX12_mateToils_27 : decode cX12_mateToils 27 = .ok (.lreturn, 1) := by decide +kernel
theorem dX12_masterToils_0 : decode cX12_masterToils 0 = .ok (.aload_n 0, 1) := by decide +kernel
theorem dX12_masterToils_1 : decode cX12_masterToils 1 = .ok (.bipush 50, 2) := by decide +kernel
theorem dX12_masterToils_3 : decode cX12_masterToils 3 = .ok (.invokevirtual 49, 3) := by decide +kernel
theorem dX12_masterToils_6 : decode cX12_masterToils 6 = .ok (.iload_n 2, 1) := by decide +kernel
theorem dX12_masterToils_7 : decode cX12_masterToils 7 = .ok (.bipush 40, 2) := by decide +kernel
theorem dX12_masterToils_9 : decode cX12_masterToils 9 = .ok (.if_icmp .gt 12, 3) := by decide +kernel
theorem dX12_masterToils_12 : decode cX12_masterToils 12 = .ok (.aload_n 0, 1) := by decide +kernel
theorem dX12_masterToils_13 : decode cX12_masterToils 13 = .ok (.iload_n 1, 1) := by decide +kernel
theorem dX12_masterToils_14 : decode cX12_masterToils 14 = .ok (.iload_n 2, 1) := by decide +kernel
theorem dX12_masterToils_15 : decode cX12_masterToils 15 = .ok (.invokevirtual 66, 3) := by decide +kernel
theorem dX12_masterToils_18 : decode cX12_masterToils 18 = .ok (.goto 15, 3) := by decide +kernel
theorem dX12_masterToils_21 : decode cX12_masterToils 21 = .ok (.ldc2_w 69, 3) := by decide +kernel
theorem dX12_masterToils_24 : decode cX12_masterToils 24 = .ok (.aload_n 0, 1) := by decide +kernel
theorem dX12_masterToils_25 : decode cX12_masterToils 25 = .ok (.iload_n 1, 1) := by decide +kernel
theorem dX12_masterToils_26 : decode cX12_masterToils 26 = .ok (.iload_n 2, 1) := by decide +kernel
theorem dX12_masterToils_27 : decode cX12_masterToils 27 = .ok (.iconst 4, 1) := by decide +kernel
theorem dX12_masterToils_28 : decode cX12_masterToils 28 = .ok (.idiv, 1) := by decide +kernel
theorem dX12_masterToils_29 : decode cX12_masterToils 29 = .ok (.invokevirtual 66, 3) := by decide +kernel
theorem dX12_masterToils_32 : decode cX12_masterToils 32 = .ok (.lmul, 1) := by decide +kernel
theorem dX12_masterToils_33 : decode cX12_masterToils 33 = .ok (.lreturn, 1) := by decide +kernel
theorem dX12_cookToils_0 : decode cX12_cookToils 0 = .ok (.aload_n 0, 1) := by decide +kernel
theorem dX12_cookToils_1 : decode cX12_cookToils 1 = .ok (.bipush 60, 2) := by decide +kernel
theorem dX12_cookToils_3 : decode cX12_cookToils 3 = .ok (.invokevirtual 49, 3) := by decide +kernel
theorem dX12_cookToils_6 : decode cX12_cookToils 6 = .ok (.aload_n 0, 1) := by decide +kernel
theorem dX12_cookToils_7 : decode cX12_cookToils 7 = .ok (.iload_n 1, 1) := by decide +kernel
theorem dX12_cookToils_8 : decode cX12_cookToils 8 = .ok (.iload_n 2, 1) := by decide +kernel
theorem dX12_cookToils_9 : decode cX12_cookToils 9 = .ok (.invokevirtual 57, 3) := by decide +kernel
theorem dX12_cookToils_12 : decode cX12_cookToils 12 = .ok (.lstore_n 3, 1) := by decide +kernel
theorem dX12_cookToils_13 : decode cX12_cookToils 13 = .ok (.aload_n 0, 1) := by decide +kernel
theorem dX12_cookToils_14 : decode cX12_cookToils 14 = .ok (.iload_n 1, 1) := by decide +kernel
theorem dX12_cookToils_15 : decode cX12_cookToils 15 = .ok (.iload_n 2, 1) := by decide +kernel
theorem dX12_cookToils_16 : decode cX12_cookToils 16 = .ok (.iconst 2, 1) := by decide +kernel
theorem dX12_cookToils_17 : decode cX12_cookToils 17 = .ok (.idiv, 1) := by decide +kernel
theorem dX12_cookToils_18 : decode cX12_cookToils 18 = .ok (.ineg, 1) := by decide +kernel
theorem dX12_cookToils_19 : decode cX12_cookToils 19 = .ok (.invokevirtual 53, 3) := by decide +kernel
theorem dX12_cookToils_22 : decode cX12_cookToils 22 = .ok (.lload_n 3, 1) := by decide +kernel
theorem dX12_cookToils_23 : decode cX12_cookToils 23 = .ok (.lreturn, 1) := by decide +kernel
theorem dX12_toils_0 : decode cX12_toils 0 = .ok (.aload_n 0, 1) := by decide +kernel
theorem dX12_toils_1 : decode cX12_toils 1 = .ok (.getfield 7, 3) := by decide +kernel
theorem dX12_toils_4 : decode cX12_toils 4 = .ok (.iload_n 1, 1) := by decide +kernel
theorem dX12_toils_5 : decode cX12_toils 5 = .ok (.iaload, 1) := by decide +kernel
theorem dX12_toils_6 : decode cX12_toils 6 = .ok (.tableswitch 66 0 5 #[38, 38, 45, 45, 52, 59], 38) := by decide +kernel
theorem dX12_toils_44 : decode cX12_toils 44 = .ok (.aload_n 0, 1) := by decide +kernel
theorem dX12_toils_45 : decode cX12_toils 45 = .ok (.iload_n 1, 1) := by decide +kernel
theorem dX12_toils_46 : decode cX12_toils 46 = .ok (.iload_n 2, 1) := by decide +kernel
theorem dX12_toils_47 : decode cX12_toils 47 = .ok (.invokevirtual 57, 3) := by decide +kernel
theorem dX12_toils_50 : decode cX12_toils 50 = .ok (.lreturn, 1) := by decide +kernel
theorem dX12_toils_51 : decode cX12_toils 51 = .ok (.aload_n 0, 1) := by decide +kernel
theorem dX12_toils_52 : decode cX12_toils 52 = .ok (.iload_n 1, 1) := by decide +kernel
theorem dX12_toils_53 : decode cX12_toils 53 = .ok (.iload_n 2, 1) := by decide +kernel
theorem dX12_toils_54 : decode cX12_toils 54 = .ok (.invokevirtual 63, 3) := by decide +kernel
theorem dX12_toils_57 : decode cX12_toils 57 = .ok (.lreturn, 1) := by decide +kernel
theorem dX12_toils_58 : decode cX12_toils 58 = .ok (.aload_n 0, 1) := by decide +kernel
theorem dX12_toils_59 : decode cX12_toils 59 = .ok (.iload_n 1, 1) := by decide +kernel
theorem dX12_toils_60 : decode cX12_toils 60 = .ok (.iload_n 2, 1) := by decide +kernel
theorem dX12_toils_61 : decode cX12_toils 61 = .ok (.invokevirtual 66, 3) := by decide +kernel
theorem dX12_toils_64 : decode cX12_toils 64 = .ok (.lreturn, 1) := by decide +kernel
theorem dX12_toils_65 : decode cX12_toils 65 = .ok (.aload_n 0, 1) := by decide +kernel
theorem dX12_toils_66 : decode cX12_toils 66 = .ok (.iload_n 1, 1) := by decide +kernel
theorem dX12_toils_67 : decode cX12_toils 67 = .ok (.iload_n 2, 1) := by decide +kernel
theorem dX12_toils_68 : decode cX12_toils 68 = .ok (.invokevirtual 71, 3) := by decide +kernel
theorem dX12_toils_71 : decode cX12_toils 71 = .ok (.lreturn, 1) := by decide +kernel
theorem dX12_toils_72 : decode cX12_toils 72 = .ok (.aload_n 0, 1) := by decide +kernel
theorem dX12_toils_73 : decode cX12_toils 73 = .ok (.iload_n 1, 1) := by decide +kernel
theorem dX12_toils_74 : decode cX12_toils 74 = .ok (.iload_n 2, 1) := by decide +kernel
theorem dX12_toils_75 : decode cX12_toils 75 = .ok (.invokevirtual 74, 3) := by decide +kernel
theorem dX12_toils_78 : decode cX12_toils 78 = .ok (.lreturn, 1) := by decide +kernel
theorem dX12_handIsPaid_0 : decode cX12_handIsPaid 0 = .ok (.aload_n 0, 1) := by decide +kernel
theorem dX12_handIsPaid_1 : decode cX12_handIsPaid 1 = .ok (.iconst 1, 1) := by decide +kernel
theorem dX12_handIsPaid_2 : decode cX12_handIsPaid 2 = .ok (.invokevirtual 49, 3) := by decide +kernel
theorem dX12_handIsPaid_5 : decode cX12_handIsPaid 5 = .ok (.iload_n 2, 1) := by decide +kernel
theorem dX12_handIsPaid_6 : decode cX12_handIsPaid 6 = .ok (.i2l, 1) := by decide +kernel
theorem dX12_handIsPaid_7 : decode cX12_handIsPaid 7 = .ok (.iconst 5, 1) := by decide +kernel
theorem dX12_handIsPaid_8 : decode cX12_handIsPaid 8 = .ok (.aload_n 0, 1) := by decide +kernel
theorem dX12_handIsPaid_9 : decode cX12_handIsPaid 9 = .ok (.getfield 13, 3) := by decide +kernel
theorem dX12_handIsPaid_12 : decode cX12_handIsPaid 12 = .ok (.iload_n 1, 1) := by decide +kernel
theorem dX12_handIsPaid_13 : decode cX12_handIsPaid 13 = .ok (.iaload, 1) := by decide +kernel
theorem dX12_handIsPaid_14 : decode cX12_handIsPaid 14 = .ok (.bipush 10, 2) := by decide +kernel
theorem dX12_handIsPaid_16 : decode cX12_handIsPaid 16 = .ok (.idiv, 1) := by decide +kernel
theorem dX12_handIsPaid_17 : decode cX12_handIsPaid 17 = .ok (.iadd, 1) := by decide +kernel
theorem dX12_handIsPaid_18 : decode cX12_handIsPaid 18 = .ok (.i2l, 1) := by decide +kernel
theorem dX12_handIsPaid_19 : decode cX12_handIsPaid 19 = .ok (.lmul, 1) := by decide +kernel
theorem dX12_handIsPaid_20 : decode cX12_handIsPaid 20 = .ok (.lreturn, 1) := by decide +kernel
theorem dX12_bosunIsPaid_0 : decode cX12_bosunIsPaid 0 = .ok (.aload_n 0, 1) := by decide +kernel
theorem dX12_bosunIsPaid_1 : decode cX12_bosunIsPaid 1 = .ok (.bipush 31, 2) := by decide +kernel
theorem dX12_bosunIsPaid_3 : decode cX12_bosunIsPaid 3 = .ok (.invokevirtual 49, 3) := by decide +kernel
theorem dX12_bosunIsPaid_6 : decode cX12_bosunIsPaid 6 = .ok (.aload_n 0, 1) := by decide +kernel
theorem dX12_bosunIsPaid_7 : decode cX12_bosunIsPaid 7 = .ok (.iload_n 1, 1) := by decide +kernel
theorem dX12_bosunIsPaid_8 : decode cX12_bosunIsPaid 8 = .ok (.iload_n 2, 1) := by decide +kernel
theorem dX12_bosunIsPaid_9 : decode cX12_bosunIsPaid 9 = .ok (.invokevirtual 77, 3) := by decide +kernel
theorem dX12_bosunIsPaid_12 : decode cX12_bosunIsPaid 12 = .ok (.lstore_n 3, 1) := by decide +kernel
theorem dX12_bosunIsPaid_13 : decode cX12_bosunIsPaid 13 = .ok (.lload_n 3, 1) := by decide +kernel
theorem dX12_bosunIsPaid_14 : decode cX12_bosunIsPaid 14 = .ok (.ldc2_w 80, 3) := by decide +kernel
theorem dX12_bosunIsPaid_17 : decode cX12_bosunIsPaid 17 = .ok (.iload_n 2, 1) := by decide +kernel
theorem dX12_bosunIsPaid_18 : decode cX12_bosunIsPaid 18 = .ok (.i2l, 1) := by decide +kernel
theorem dX12_bosunIsPaid_19 : decode cX12_bosunIsPaid 19 = .ok (.lmul, 1) := by decide +kernel
theorem dX12_bosunIsPaid_20 : decode cX12_bosunIsPaid 20 = .ok (.ladd, 1) := by decide +kernel
theorem dX12_bosunIsPaid_21 : decode cX12_bosunIsPaid 21 = .ok (.iload_n 2, 1) := by decide +kernel
theorem dX12_bosunIsPaid_22 : decode cX12_bosunIsPaid 22 = .ok (.i2l, 1) := by decide +kernel
theorem dX12_bosunIsPaid_23 : decode cX12_bosunIsPaid 23 = .ok (.aload_n 0, 1) := by decide +kernel
theorem dX12_bosunIsPaid_24 : decode cX12_bosunIsPaid 24 = .ok (.iconst 0, 1) := by decide +kernel
theorem dX12_bosunIsPaid_25 : decode cX12_bosunIsPaid 25 = .ok (.iconst 2, 1) := by decide +kernel
theorem dX12_bosunIsPaid_26 : decode cX12_bosunIsPaid 26 = .ok (.invokevirtual 82, 3) := by decide +kernel
theorem dX12_bosunIsPaid_29 : decode cX12_bosunIsPaid 29 = .ok (.i2l, 1) := by decide +kernel
theorem dX12_bosunIsPaid_30 : decode cX12_bosunIsPaid 30 = .ok (.lmul, 1) := by decide +kernel
theorem dX12_bosunIsPaid_31 : decode cX12_bosunIsPaid 31 = .ok (.ladd, 1) := by decide +kernel
theorem dX12_bosunIsPaid_32 : decode cX12_bosunIsPaid 32 = .ok (.lreturn, 1) := by decide +kernel
theorem dX12_masterIsPaid_0 : decode cX12_masterIsPaid 0 = .ok (.aload_n 0, 1) := by decide +kernel
theorem dX12_masterIsPaid_1 : decode cX12_masterIsPaid 1 = .ok (.bipush 51, 2) := by decide +kernel
theorem dX12_masterIsPaid_3 : decode cX12_masterIsPaid 3 = .ok (.invokevirtual 49, 3) := by decide +kernel
theorem dX12_masterIsPaid_6 : decode cX12_masterIsPaid 6 = .ok (.aload_n 0, 1) := by decide +kernel
theorem dX12_masterIsPaid_7 : decode cX12_masterIsPaid 7 = .ok (.iload_n 1, 1) := by decide +kernel
theorem dX12_masterIsPaid_8 : decode cX12_masterIsPaid 8 = .ok (.iload_n 2, 1) := by decide +kernel
theorem dX12_masterIsPaid_9 : decode cX12_masterIsPaid 9 = .ok (.invokevirtual 86, 3) := by decide +kernel
theorem dX12_masterIsPaid_12 : decode cX12_masterIsPaid 12 = .ok (.lstore_n 3, 1) := by decide +kernel
theorem dX12_masterIsPaid_13 : decode cX12_masterIsPaid 13 = .ok (.aload_n 0, 1) := by decide +kernel
theorem dX12_masterIsPaid_14 : decode cX12_masterIsPaid 14 = .ok (.getfield 16, 3) := by decide +kernel
theorem dX12_masterIsPaid_17 : decode cX12_masterIsPaid 17 = .ok (.iload_n 1, 1) := by decide +kernel
theorem dX12_masterIsPaid_18 : decode cX12_masterIsPaid 18 = .ok (.iaload, 1) := by decide +kernel
theorem dX12_masterIsPaid_19 : decode cX12_masterIsPaid 19 = .ok (.sipush 300, 3) := by decide +kernel
theorem dX12_masterIsPaid_22 : decode cX12_masterIsPaid 22 = .ok (.if_icmp .ge 11, 3) := by decide +kernel
theorem dX12_masterIsPaid_25 : decode cX12_masterIsPaid 25 = .ok (.ldc2_w 80, 3) := by decide +kernel
theorem dX12_masterIsPaid_28 : decode cX12_masterIsPaid 28 = .ok (.lload_n 3, 1) := by decide +kernel
theorem dX12_masterIsPaid_29 : decode cX12_masterIsPaid 29 = .ok (.lmul, 1) := by decide +kernel
theorem dX12_masterIsPaid_30 : decode cX12_masterIsPaid 30 = .ok (.goto 4, 3) := by decide +kernel
theorem dX12_masterIsPaid_33 : decode cX12_masterIsPaid 33 = .ok (.lload_n 3, 1) := by decide +kernel
theorem dX12_masterIsPaid_34 : decode cX12_masterIsPaid 34 = .ok (.lreturn, 1) := by decide +kernel
theorem dX12_surgeonIsPaid_0 : decode cX12_surgeonIsPaid 0 = .ok (.aload_n 0, 1) := by decide +kernel
theorem dX12_surgeonIsPaid_1 : decode cX12_surgeonIsPaid 1 = .ok (.bipush 71, 2) := by decide +kernel
theorem dX12_surgeonIsPaid_3 : decode cX12_surgeonIsPaid 3 = .ok (.invokevirtual 49, 3) := by decide +kernel
theorem dX12_surgeonIsPaid_6 : decode cX12_surgeonIsPaid 6 = .ok (.aload_n 0, 1) := by decide +kernel
theorem dX12_surgeonIsPaid_7 : decode cX12_surgeonIsPaid 7 = .ok (.iload_n 1, 1) := by decide +kernel
theorem dX12_surgeonIsPaid_8 : decode cX12_surgeonIsPaid 8 = .ok (.iload_n 2, 1) := by decide +kernel
theorem dX12_surgeonIsPaid_9 : decode cX12_surgeonIsPaid 9 = .ok (.invokevirtual 77, 3) := by decide +kernel
theorem dX12_surgeonIsPaid_12 : decode cX12_surgeonIsPaid 12 = .ok (.lstore_n 3, 1) := by decide +kernel
theorem dX12_surgeonIsPaid_13 : decode cX12_surgeonIsPaid 13 = .ok (.iconst 0, 1) := by decide +kernel
theorem dX12_surgeonIsPaid_14 : decode cX12_surgeonIsPaid 14 = .ok (.istore 5, 2) := by decide +kernel
theorem dX12_surgeonIsPaid_16 : decode cX12_surgeonIsPaid 16 = .ok (.iload 5, 2) := by decide +kernel
theorem dX12_surgeonIsPaid_18 : decode cX12_surgeonIsPaid 18 = .ok (.aload_n 0, 1) := by decide +kernel
theorem dX12_surgeonIsPaid_19 : decode cX12_surgeonIsPaid 19 = .ok (.getfield 38, 3) := by decide +kernel
theorem dX12_surgeonIsPaid_22 : decode cX12_surgeonIsPaid 22 = .ok (.if_icmp .ge 28, 3) := by decide +kernel
theorem dX12_surgeonIsPaid_25 : decode cX12_surgeonIsPaid 25 = .ok (.aload_n 0, 1) := by decide +kernel
theorem dX12_surgeonIsPaid_26 : decode cX12_surgeonIsPaid 26 = .ok (.getfield 16, 3) := by decide +kernel
theorem dX12_surgeonIsPaid_29 : decode cX12_surgeonIsPaid 29 = .ok (.iload 5, 2) := by decide +kernel
theorem dX12_surgeonIsPaid_31 : decode cX12_surgeonIsPaid 31 = .ok (.iaload, 1) := by decide +kernel
theorem dX12_surgeonIsPaid_32 : decode cX12_surgeonIsPaid 32 = .ok (.sipush 500, 3) := by decide +kernel
theorem dX12_surgeonIsPaid_35 : decode cX12_surgeonIsPaid 35 = .ok (.if_icmp .le 9, 3) := by decide +kernel
theorem dX12_surgeonIsPaid_38 : decode cX12_surgeonIsPaid 38 = .ok (.lload_n 3, 1) := by decide +kernel
theorem dX12_surgeonIsPaid_39 : decode cX12_surgeonIsPaid 39 = .ok (.ldc2_w 89, 3) := by decide +kernel
theorem dX12_surgeonIsPaid_42 : decode cX12_surgeonIsPaid 42 = .ok (.ladd, 1) := by decide +kernel
theorem dX12_surgeonIsPaid_43 : decode cX12_surgeonIsPaid 43 = .ok (.lstore_n 3, 1) := by decide +kernel
theorem dX12_surgeonIsPaid_44 : decode cX12_surgeonIsPaid 44 = .ok (.iinc 5 1, 3) := by decide +kernel
theorem dX12_surgeonIsPaid_47 : decode cX12_surgeonIsPaid 47 = .ok (.goto (-31), 3) := by decide +kernel
theorem dX12_surgeonIsPaid_50 : decode cX12_surgeonIsPaid 50 = .ok (.lload_n 3, 1) := by decide +kernel
theorem dX12_surgeonIsPaid_51 : decode cX12_surgeonIsPaid 51 = .ok (.lreturn, 1) := by decide +kernel
theorem dX12_isPaid_0 : decode cX12_isPaid 0 = .ok (.aload_n 0, 1) := by decide +kernel
theorem dX12_isPaid_1 : decode cX12_isPaid 1 = .ok (.getfield 7, 3) := by decide +kernel
theorem dX12_isPaid_4 : decode cX12_isPaid 4 = .ok (.iload_n 1, 1) := by decide +kernel
theorem dX12_isPaid_5 : decode cX12_isPaid 5 = .ok (.iaload, 1) := by decide +kernel
theorem dX12_isPaid_6 : decode cX12_isPaid 6 = .ok (.tableswitch 55 3 7 #[34, 34, 41, 55, 48], 34) := by decide +kernel
theorem dX12_isPaid_40 : decode cX12_isPaid 40 = .ok (.aload_n 0, 1) := by decide +kernel
theorem dX12_isPaid_41 : decode cX12_isPaid 41 = .ok (.iload_n 1, 1) := by decide +kernel
theorem dX12_isPaid_42 : decode cX12_isPaid 42 = .ok (.iload_n 2, 1) := by decide +kernel
theorem dX12_isPaid_43 : decode cX12_isPaid 43 = .ok (.invokevirtual 86, 3) := by decide +kernel
theorem dX12_isPaid_46 : decode cX12_isPaid 46 = .ok (.lreturn, 1) := by decide +kernel
theorem dX12_isPaid_47 : decode cX12_isPaid 47 = .ok (.aload_n 0, 1) := by decide +kernel
theorem dX12_isPaid_48 : decode cX12_isPaid 48 = .ok (.iload_n 1, 1) := by decide +kernel
theorem dX12_isPaid_49 : decode cX12_isPaid 49 = .ok (.iload_n 2, 1) := by decide +kernel
theorem dX12_isPaid_50 : decode cX12_isPaid 50 = .ok (.invokevirtual 91, 3) := by decide +kernel
theorem dX12_isPaid_53 : decode cX12_isPaid 53 = .ok (.lreturn, 1) := by decide +kernel
theorem dX12_isPaid_54 : decode cX12_isPaid 54 = .ok (.aload_n 0, 1) := by decide +kernel
theorem dX12_isPaid_55 : decode cX12_isPaid 55 = .ok (.iload_n 1, 1) := by decide +kernel
theorem dX12_isPaid_56 : decode cX12_isPaid 56 = .ok (.iload_n 2, 1) := by decide +kernel
theorem dX12_isPaid_57 : decode cX12_isPaid 57 = .ok (.invokevirtual 94, 3) := by decide +kernel
theorem dX12_isPaid_60 : decode cX12_isPaid 60 = .ok (.lreturn, 1) := by decide +kernel
theorem dX12_isPaid_61 : decode cX12_isPaid 61 = .ok (.aload_n 0, 1) := by decide +kernel
theorem dX12_isPaid_62 : decode cX12_isPaid 62 = .ok (.iload_n 1, 1) := by decide +kernel
theorem dX12_isPaid_63 : decode cX12_isPaid 63 = .ok (.iload_n 2, 1) := by decide +kernel
theorem dX12_isPaid_64 : decode cX12_isPaid 64 = .ok (.invokevirtual 77, 3) := by decide +kernel
theorem dX12_isPaid_67 : decode cX12_isPaid 67 = .ok (.lreturn, 1) := by decide +kernel
theorem dX12_soulClimbs_0 : decode cX12_soulClimbs 0 = .ok (.aload_n 0, 1) := by decide +kernel
theorem dX12_soulClimbs_1 : decode cX12_soulClimbs 1 = .ok (.bipush 82, 2) := by decide +kernel
theorem dX12_soulClimbs_3 : decode cX12_soulClimbs 3 = .ok (.invokevirtual 49, 3) := by decide +kernel
theorem dX12_soulClimbs_6 : decode cX12_soulClimbs 6 = .ok (.iload_n 2, 1) := by decide +kernel
theorem dX12_soulClimbs_7 : decode cX12_soulClimbs 7 = .ok (.bipush 10, 2) := by decide +kernel
theorem dX12_soulClimbs_9 : decode cX12_soulClimbs 9 = .ok (.aload_n 0, 1) := by decide +kernel
theorem dX12_soulClimbs_10 : decode cX12_soulClimbs 10 = .ok (.getfield 13, 3) := by decide +kernel
theorem dX12_soulClimbs_13 : decode cX12_soulClimbs 13 = .ok (.iload_n 1, 1) := by decide +kernel
theorem dX12_soulClimbs_14 : decode cX12_soulClimbs 14 = .ok (.iaload, 1) := by decide +kernel
theorem dX12_soulClimbs_15 : decode cX12_soulClimbs 15 = .ok (.iadd, 1) := by decide +kernel
theorem dX12_soulClimbs_16 : decode cX12_soulClimbs 16 = .ok (.if_icmp .le 7, 3) := by decide +kernel
theorem dX12_soulClimbs_19 : decode cX12_soulClimbs 19 = .ok (.ldc2_w 97, 3) := by decide +kernel
theorem dX12_soulClimbs_22 : decode cX12_soulClimbs 22 = .ok (.lreturn, 1) := by decide +kernel
theorem dX12_soulClimbs_23 : decode cX12_soulClimbs 23 = .ok (.aload_n 0, 1) := by decide +kernel
theorem dX12_soulClimbs_24 : decode cX12_soulClimbs 24 = .ok (.iload_n 1, 1) := by decide +kernel
theorem dX12_soulClimbs_25 : decode cX12_soulClimbs 25 = .ok (.iload_n 2, 1) := by decide +kernel
theorem dX12_soulClimbs_26 : decode cX12_soulClimbs 26 = .ok (.invokevirtual 53, 3) := by decide +kernel
theorem dX12_soulClimbs_29 : decode cX12_soulClimbs 29 = .ok (.ldc2_w 80, 3) := by decide +kernel
theorem dX12_soulClimbs_32 : decode cX12_soulClimbs 32 = .ok (.iload_n 2, 1) := by decide +kernel
theorem dX12_soulClimbs_33 : decode cX12_soulClimbs 33 = .ok (.i2l, 1) := by decide +kernel
theorem dX12_soulClimbs_34 : decode cX12_soulClimbs 34 = .ok (.lmul, 1) := by decide +kernel
theorem dX12_soulClimbs_35 : decode cX12_soulClimbs 35 = .ok (.lreturn, 1) := by decide +kernel
theorem dX12_sailorClimbs_0 : decode cX12_sailorClimbs 0 = .ok (.aload_n 0, 1) := by decide +kernel
theorem dX12_sailorClimbs_1 : decode cX12_sailorClimbs 1 = .ok (.bipush 12, 2) := by decide +kernel
theorem dX12_sailorClimbs_3 : decode cX12_sailorClimbs 3 = .ok (.invokevirtual 49, 3) := by decide +kernel
theorem dX12_sailorClimbs_6 : decode cX12_sailorClimbs 6 = .ok (.iload_n 2, 1) := by decide +kernel
theorem dX12_sailorClimbs_7 : decode cX12_sailorClimbs 7 = .ok (.bipush 30, 2) := by decide +kernel
theorem dX12_sailorClimbs_9 : decode cX12_sailorClimbs 9 = .ok (.if_icmp .le 10, 3) := by decide +kernel
theorem dX12_sailorClimbs_12 : decode cX12_sailorClimbs 12 = .ok (.aload_n 0, 1) := by decide +kernel
theorem dX12_sailorClimbs_13 : decode cX12_sailorClimbs 13 = .ok (.iload_n 1, 1) := by decide +kernel
theorem dX12_sailorClimbs_14 : decode cX12_sailorClimbs 14 = .ok (.iload_n 2, 1) := by decide +kernel
theorem dX12_sailorClimbs_15 : decode cX12_sailorClimbs 15 = .ok (.invokevirtual 99, 3) := by decide +kernel
theorem dX12_sailorClimbs_18 : decode cX12_sailorClimbs 18 = .ok (.lreturn, 1) := by decide +kernel
theorem dX12_sailorClimbs_19 : decode cX12_sailorClimbs 19 = .ok (.aload_n 0, 1) := by decide +kernel
theorem dX12_sailorClimbs_20 : decode cX12_sailorClimbs 20 = .ok (.iload_n 1, 1) := by decide +kernel
theorem dX12_sailorClimbs_21 : decode cX12_sailorClimbs 21 = .ok (.iload_n 2, 1) := by decide +kernel
theorem dX12_sailorClimbs_22 : decode cX12_sailorClimbs 22 = .ok (.iconst 2, 1) := by decide +kernel
theorem dX12_sailorClimbs_23 : decode cX12_sailorClimbs 23 = .ok (.idiv, 1) := by decide +kernel
theorem dX12_sailorClimbs_24 : decode cX12_sailorClimbs 24 = .ok (.invokevirtual 53, 3) := by decide +kernel
theorem dX12_sailorClimbs_27 : decode cX12_sailorClimbs 27 = .ok (.ldc2_w 61, 3) := by decide +kernel
theorem dX12_sailorClimbs_30 : decode cX12_sailorClimbs 30 = .ok (.iload_n 2, 1) := by decide +kernel
theorem dX12_sailorClimbs_31 : decode cX12_sailorClimbs 31 = .ok (.i2l, 1) := by decide +kernel
theorem dX12_sailorClimbs_32 : decode cX12_sailorClimbs 32 = .ok (.lmul, 1) := by decide +kernel
theorem dX12_sailorClimbs_33 : decode cX12_sailorClimbs 33 = .ok (.lreturn, 1) := by decide +kernel
theorem dX12_mateClimbs_0 : decode cX12_mateClimbs 0 = .ok (.aload_n 0, 1) := by decide +kernel
theorem dX12_mateClimbs_1 : decode cX12_mateClimbs 1 = .ok (.bipush 42, 2) := by decide +kernel
theorem dX12_mateClimbs_3 : decode cX12_mateClimbs 3 = .ok (.invokevirtual 49, 3) := by decide +kernel
theorem dX12_mateClimbs_6 : decode cX12_mateClimbs 6 = .ok (.aload_n 0, 1) := by decide +kernel
theorem dX12_mateClimbs_7 : decode cX12_mateClimbs 7 = .ok (.iload_n 1, 1) := by decide +kernel
theorem dX12_mateClimbs_8 : decode cX12_mateClimbs 8 = .ok (.iload_n 2, 1) := by decide +kernel
theorem dX12_mateClimbs_9 : decode cX12_mateClimbs 9 = .ok (.invokevirtual 102, 3) := by decide +kernel
theorem dX12_mateClimbs_12 : decode cX12_mateClimbs 12 = .ok (.lstore_n 3, 1) := by decide +kernel
theorem dX12_mateClimbs_13 : decode cX12_mateClimbs 13 = .ok (.lload_n 3, 1) := by decide +kernel
theorem dX12_mateClimbs_14 : decode cX12_mateClimbs 14 = .ok (.ldc2_w 97, 3) := by decide +kernel
theorem dX12_mateClimbs_17 : decode cX12_mateClimbs 17 = .ok (.lcmp, 1) := by decide +kernel
theorem dX12_mateClimbs_18 : decode cX12_mateClimbs 18 = .ok (.ifCond .ne 9, 3) := by decide +kernel
theorem dX12_mateClimbs_21 : decode cX12_mateClimbs 21 = .ok (.ldc2_w 97, 3) := by decide +kernel
theorem dX12_mateClimbs_24 : decode cX12_mateClimbs 24 = .ok (.goto 6, 3) := by decide +kernel
theorem dX12_mateClimbs_27 : decode cX12_mateClimbs 27 = .ok (.lload_n 3, 1) := by decide +kernel
theorem dX12_mateClimbs_28 : decode cX12_mateClimbs 28 = .ok (.lconst 1, 1) := by decide +kernel
theorem dX12_mateClimbs_29 : decode cX12_mateClimbs 29 = .ok (.ladd, 1) := by decide +kernel
theorem dX12_mateClimbs_30 : decode cX12_mateClimbs 30 = .ok (.lreturn, 1) := by decide +kernel
theorem dX12_surgeonClimbs_0 : decode cX12_surgeonClimbs 0 = .ok (.aload_n 0, 1) := by decide +kernel
theorem dX12_surgeonClimbs_1 : decode cX12_surgeonClimbs 1 = .ok (.bipush 72, 2) := by decide +kernel
theorem dX12_surgeonClimbs_3 : decode cX12_surgeonClimbs 3 = .ok (.invokevirtual 49, 3) := by decide +kernel
theorem dX12_surgeonClimbs_6 : decode cX12_surgeonClimbs 6 = .ok (.aload_n 0, 1) := by decide +kernel
theorem dX12_surgeonClimbs_7 : decode cX12_surgeonClimbs 7 = .ok (.iload_n 1, 1) := by decide +kernel
theorem dX12_surgeonClimbs_8 : decode cX12_surgeonClimbs 8 = .ok (.iload_n 2, 1) := by decide +kernel
theorem dX12_surgeonClimbs_9 : decode cX12_surgeonClimbs 9 = .ok (.iconst 2, 1) := by decide +kernel
theorem dX12_surgeonClimbs_10 : decode cX12_surgeonClimbs 10 = .ok (.idiv, 1) := by decide +kernel
theorem dX12_surgeonClimbs_11 : decode cX12_surgeonClimbs 11 = .ok (.invokevirtual 99, 3) := by decide +kernel
theorem dX12_surgeonClimbs_14 : decode cX12_surgeonClimbs 14 = .ok (.lreturn, 1) := by decide +kernel
theorem dX12_climbs_0 : decode cX12_climbs 0 = .ok (.aload_n 0, 1) := by decide +kernel
theorem dX12_climbs_1 : decode cX12_climbs 1 = .ok (.getfield 7, 3) := by decide +kernel
theorem dX12_climbs_4 : decode cX12_climbs 4 = .ok (.iload_n 1, 1) := by decide +kernel
theorem dX12_climbs_5 : decode cX12_climbs 5 = .ok (.iaload, 1) := by decide +kernel
theorem dX12_climbs_6 : decode cX12_climbs 6 = .ok (.tableswitch 63 1 7 #[42, 42, 42, 49, 49, 63, 56], 42) := by decide +kernel
theorem dX12_climbs_48 : decode cX12_climbs 48 = .ok (.aload_n 0, 1) := by decide +kernel
theorem dX12_climbs_49 : decode cX12_climbs 49 = .ok (.iload_n 1, 1) := by decide +kernel
theorem dX12_climbs_50 : decode cX12_climbs 50 = .ok (.iload_n 2, 1) := by decide +kernel
theorem dX12_climbs_51 : decode cX12_climbs 51 = .ok (.invokevirtual 102, 3) := by decide +kernel
theorem dX12_climbs_54 : decode cX12_climbs 54 = .ok (.lreturn, 1) := by decide +kernel
theorem dX12_climbs_55 : decode cX12_climbs 55 = .ok (.aload_n 0, 1) := by decide +kernel
theorem dX12_climbs_56 : decode cX12_climbs 56 = .ok (.iload_n 1, 1) := by decide +kernel
theorem dX12_climbs_57 : decode cX12_climbs 57 = .ok (.iload_n 2, 1) := by decide +kernel
theorem dX12_climbs_58 : decode cX12_climbs 58 = .ok (.invokevirtual 105, 3) := by decide +kernel
theorem dX12_climbs_61 : decode cX12_climbs 61 = .ok (.lreturn, 1) := by decide +kernel
theorem dX12_climbs_62 : decode cX12_climbs 62 = .ok (.aload_n 0, 1) := by decide +kernel
theorem dX12_climbs_63 : decode cX12_climbs 63 = .ok (.iload_n 1, 1) := by decide +kernel
theorem dX12_climbs_64 : decode cX12_climbs 64 = .ok (.iload_n 2, 1) := by decide +kernel
theorem dX12_climbs_65 : decode cX12_climbs 65 = .ok (.invokevirtual 108, 3) := by decide +kernel
theorem dX12_climbs_68 : decode cX12_climbs 68 = .ok (.lreturn, 1) := by decide +kernel
theorem dX12_climbs_69 : decode cX12_climbs 69 = .ok (.aload_n 0, 1) := by decide +kernel
theorem dX12_climbs_70 : decode cX12_climbs 70 = .ok (.iload_n 1, 1) := by decide +kernel
theorem dX12_climbs_71 : decode cX12_climbs 71 = .ok (.iload_n 2, 1) := by decide +kernel
theorem dX12_climbs_72 : decode cX12_climbs 72 = .ok (.invokevirtual 99, 3) := by decide +kernel
theorem dX12_climbs_75 : decode cX12_climbs 75 = .ok (.lreturn, 1) := by decide +kernel
theorem dX12_soulHeeds_0 : decode cX12_soulHeeds 0 = .ok (.aload_n 0, 1) := by decide +kernel
theorem dX12_soulHeeds_1 : decode cX12_soulHeeds 1 = .ok (.bipush 83, 2) := by decide +kernel
theorem dX12_soulHeeds_3 : decode cX12_soulHeeds 3 = .ok (.invokevirtual 49, 3) := by decide +kernel
theorem dX12_soulHeeds_6 : decode cX12_soulHeeds 6 = .ok (.ldc2_w 111, 3) := by decide +kernel
theorem dX12_soulHeeds_9 : decode cX12_soulHeeds 9 = .ok (.iload_n 2, 1) := by decide +kernel
theorem dX12_soulHeeds_10 : decode cX12_soulHeeds 10 = .ok (.i2l, 1) := by decide +kernel
theorem dX12_soulHeeds_11 : decode cX12_soulHeeds 11 = .ok (.lmul, 1) := by decide +kernel
theorem dX12_soulHeeds_12 : decode cX12_soulHeeds 12 = .ok (.iload_n 1, 1) := by decide +kernel
theorem dX12_soulHeeds_13 : decode cX12_soulHeeds 13 = .ok (.i2l, 1) := by decide +kernel
theorem dX12_soulHeeds_14 : decode cX12_soulHeeds 14 = .ok (.ladd, 1) := by decide +kernel
theorem dX12_soulHeeds_15 : decode cX12_soulHeeds 15 = .ok (.ldc2_w 113, 3) := by decide +kernel
theorem dX12_soulHeeds_18 : decode cX12_soulHeeds 18 = .ok (.lrem, 1) := by decide +kernel
theorem dX12_soulHeeds_19 : decode cX12_soulHeeds 19 = .ok (.lreturn, 1) := by decide +kernel
theorem dX12_topmanHeeds_0 : decode cX12_topmanHeeds 0 = .ok (.aload_n 0, 1) := by decide +kernel
theorem dX12_topmanHeeds_1 : decode cX12_topmanHeeds 1 = .ok (.bipush 23, 2) := by decide +kernel
theorem dX12_topmanHeeds_3 : decode cX12_topmanHeeds 3 = .ok (.invokevirtual 49, 3) := by decide +kernel
theorem dX12_topmanHeeds_6 : decode cX12_topmanHeeds 6 = .ok (.iload_n 2, 1) := by decide +kernel
theorem dX12_topmanHeeds_7 : decode cX12_topmanHeeds 7 = .ok (.iconst 2, 1) := by decide +kernel
theorem dX12_topmanHeeds_8 : decode cX12_topmanHeeds 8 = .ok (.irem, 1) := by decide +kernel
theorem dX12_topmanHeeds_9 : decode cX12_topmanHeeds 9 = .ok (.ifCond .ne 16, 3) := by decide +kernel
theorem dX12_topmanHeeds_12 : decode cX12_topmanHeeds 12 = .ok (.aload_n 0, 1) := by decide +kernel
theorem dX12_topmanHeeds_13 : decode cX12_topmanHeeds 13 = .ok (.iload_n 1, 1) := by decide +kernel
theorem dX12_topmanHeeds_14 : decode cX12_topmanHeeds 14 = .ok (.iload_n 2, 1) := by decide +kernel
theorem dX12_topmanHeeds_15 : decode cX12_topmanHeeds 15 = .ok (.invokevirtual 115, 3) := by decide +kernel
theorem dX12_topmanHeeds_18 : decode cX12_topmanHeeds 18 = .ok (.ldc2_w 113, 3) := by decide +kernel
theorem dX12_topmanHeeds_21 : decode cX12_topmanHeeds 21 = .ok (.ladd, 1) := by decide +kernel
theorem dX12_topmanHeeds_22 : decode cX12_topmanHeeds 22 = .ok (.goto 5, 3) := by decide +kernel
theorem dX12_topmanHeeds_25 : decode cX12_topmanHeeds 25 = .ok (.iload_n 2, 1) := by decide +kernel
theorem dX12_topmanHeeds_26 : decode cX12_topmanHeeds 26 = .ok (.i2l, 1) := by decide +kernel
theorem dX12_topmanHeeds_27 : decode cX12_topmanHeeds 27 = .ok (.lreturn, 1) := by decide +kernel
theorem dX12_bosunHeeds_0 : decode cX12_bosunHeeds 0 = .ok (.aload_n 0, 1) := by decide +kernel
theorem dX12_bosunHeeds_1 : decode cX12_bosunHeeds 1 = .ok (.bipush 33, 2) := by decide +kernel
theorem dX12_bosunHeeds_3 : decode cX12_bosunHeeds 3 = .ok (.invokevirtual 49, 3) := by decide +kernel
theorem dX12_bosunHeeds_6 : decode cX12_bosunHeeds 6 = .ok (.aload_n 0, 1) := by decide +kernel
theorem dX12_bosunHeeds_7 : decode cX12_bosunHeeds 7 = .ok (.iload_n 1, 1) := by decide +kernel
theorem dX12_bosunHeeds_8 : decode cX12_bosunHeeds 8 = .ok (.iload_n 2, 1) := by decide +kernel
theorem dX12_bosunHeeds_9 : decode cX12_bosunHeeds 9 = .ok (.invokevirtual 118, 3) := by decide +kernel
theorem dX12_bosunHeeds_12 : decode cX12_bosunHeeds 12 = .ok (.lstore_n 3, 1) := by decide +kernel
theorem dX12_bosunHeeds_13 : decode cX12_bosunHeeds 13 = .ok (.iconst 0, 1) := by decide +kernel
theorem dX12_bosunHeeds_14 : decode cX12_bosunHeeds 14 = .ok (.istore 5, 2) := by decide +kernel
theorem dX12_bosunHeeds_16 : decode cX12_bosunHeeds 16 = .ok (.iload 5, 2) := by decide +kernel
theorem dX12_bosunHeeds_18 : decode cX12_bosunHeeds 18 = .ok (.aload_n 0, 1) := by decide +kernel
theorem dX12_bosunHeeds_19 : decode cX12_bosunHeeds 19 = .ok (.getfield 38, 3) := by decide +kernel
theorem dX12_bosunHeeds_22 : decode cX12_bosunHeeds 22 = .ok (.if_icmp .ge 54, 3) := by decide +kernel
theorem dX12_bosunHeeds_25 : decode cX12_bosunHeeds 25 = .ok (.aload_n 0, 1) := by decide +kernel
theorem dX12_bosunHeeds_26 : decode cX12_bosunHeeds 26 = .ok (.getfield 7, 3) := by decide +kernel
theorem dX12_bosunHeeds_29 : decode cX12_bosunHeeds 29 = .ok (.iload 5, 2) := by decide +kernel
theorem dX12_bosunHeeds_31 : decode cX12_bosunHeeds 31 = .ok (.iaload, 1) := by decide +kernel
theorem dX12_bosunHeeds_32 : decode cX12_bosunHeeds 32 = .ok (.iconst 2, 1) := by decide +kernel
theorem dX12_bosunHeeds_33 : decode cX12_bosunHeeds 33 = .ok (.if_icmp .ge 16, 3) := by decide +kernel
theorem dX12_bosunHeeds_36 : decode cX12_bosunHeeds 36 = .ok (.lload_n 3, 1) := by decide +kernel
theorem dX12_bosunHeeds_37 : decode cX12_bosunHeeds 37 = .ok (.aload_n 0, 1) := by decide +kernel
theorem dX12_bosunHeeds_38 : decode cX12_bosunHeeds 38 = .ok (.iload 5, 2) := by decide +kernel
theorem dX12_bosunHeeds_40 : decode cX12_bosunHeeds 40 = .ok (.iload_n 2, 1) := by decide +kernel
theorem dX12_bosunHeeds_41 : decode cX12_bosunHeeds 41 = .ok (.invokevirtual 115, 3) := by decide +kernel
theorem dX12_bosunHeeds_44 : decode cX12_bosunHeeds 44 = .ok (.ladd, 1) := by decide +kernel
theorem dX12_bosunHeeds_45 : decode cX12_bosunHeeds 45 = .ok (.lstore_n 3, 1) := by decide +kernel
theorem dX12_bosunHeeds_46 : decode cX12_bosunHeeds 46 = .ok (.goto 24, 3) := by decide +kernel
theorem dX12_bosunHeeds_49 : decode cX12_bosunHeeds 49 = .ok (.aload_n 0, 1) := by decide +kernel
theorem dX12_bosunHeeds_50 : decode cX12_bosunHeeds 50 = .ok (.getfield 7, 3) := by decide +kernel
theorem dX12_bosunHeeds_53 : decode cX12_bosunHeeds 53 = .ok (.iload 5, 2) := by decide +kernel
theorem dX12_bosunHeeds_55 : decode cX12_bosunHeeds 55 = .ok (.iaload, 1) := by decide +kernel
theorem dX12_bosunHeeds_56 : decode cX12_bosunHeeds 56 = .ok (.iconst 2, 1) := by decide +kernel
theorem dX12_bosunHeeds_57 : decode cX12_bosunHeeds 57 = .ok (.if_icmp .ne 13, 3) := by decide +kernel
theorem dX12_bosunHeeds_60 : decode cX12_bosunHeeds 60 = .ok (.lload_n 3, 1) := by decide +kernel
theorem dX12_bosunHeeds_61 : decode cX12_bosunHeeds 61 = .ok (.aload_n 0, 1) := by decide +kernel
theorem dX12_bosunHeeds_62 : decode cX12_bosunHeeds 62 = .ok (.iload 5, 2) := by decide +kernel
theorem dX12_bosunHeeds_64 : decode cX12_bosunHeeds 64 = .ok (.iload_n 2, 1) := by decide +kernel
theorem dX12_bosunHeeds_65 : decode cX12_bosunHeeds 65 = .ok (.invokevirtual 118, 3) := by decide +kernel
theorem dX12_bosunHeeds_68 : decode cX12_bosunHeeds 68 = .ok (.ladd, 1) := by decide +kernel
theorem dX12_bosunHeeds_69 : decode cX12_bosunHeeds 69 = .ok (.lstore_n 3, 1) := by decide +kernel
theorem dX12_bosunHeeds_70 : decode cX12_bosunHeeds 70 = .ok (.iinc 5 1, 3) := by decide +kernel
theorem dX12_bosunHeeds_73 : decode cX12_bosunHeeds 73 = .ok (.goto (-57), 3) := by decide +kernel
theorem dX12_bosunHeeds_76 : decode cX12_bosunHeeds 76 = .ok (.lload_n 3, 1) := by decide +kernel
theorem dX12_bosunHeeds_77 : decode cX12_bosunHeeds 77 = .ok (.lreturn, 1) := by decide +kernel
theorem dX12_masterHeeds_0 : decode cX12_masterHeeds 0 = .ok (.aload_n 0, 1) := by decide +kernel
theorem dX12_masterHeeds_1 : decode cX12_masterHeeds 1 = .ok (.bipush 53, 2) := by decide +kernel
theorem dX12_masterHeeds_3 : decode cX12_masterHeeds 3 = .ok (.invokevirtual 49, 3) := by decide +kernel
theorem dX12_masterHeeds_6 : decode cX12_masterHeeds 6 = .ok (.aload_n 0, 1) := by decide +kernel
theorem dX12_masterHeeds_7 : decode cX12_masterHeeds 7 = .ok (.getfield 16, 3) := by decide +kernel
theorem dX12_masterHeeds_10 : decode cX12_masterHeeds 10 = .ok (.iload_n 1, 1) := by decide +kernel
theorem dX12_masterHeeds_11 : decode cX12_masterHeeds 11 = .ok (.iaload, 1) := by decide +kernel
theorem dX12_masterHeeds_12 : decode cX12_masterHeeds 12 = .ok (.sipush 700, 3) := by decide +kernel
theorem dX12_masterHeeds_15 : decode cX12_masterHeeds 15 = .ok (.if_icmp .lt 9, 3) := by decide +kernel
theorem dX12_masterHeeds_18 : decode cX12_masterHeeds 18 = .ok (.ldc2_w 121, 3) := by decide +kernel
theorem dX12_masterHeeds_21 : decode cX12_masterHeeds 21 = .ok (.goto 11, 3) := by decide +kernel
theorem dX12_masterHeeds_24 : decode cX12_masterHeeds 24 = .ok (.aload_n 0, 1) := by decide +kernel
theorem dX12_masterHeeds_25 : decode cX12_masterHeeds 25 = .ok (.iload_n 1, 1) := by decide +kernel
theorem dX12_masterHeeds_26 : decode cX12_masterHeeds 26 = .ok (.iload_n 2, 1) := by decide +kernel
theorem dX12_masterHeeds_27 : decode cX12_masterHeeds 27 = .ok (.iconst 1, 1) := by decide +kernel
theorem dX12_masterHeeds_28 : decode cX12_masterHeeds 28 = .ok (.iadd, 1) := by decide +kernel
theorem dX12_masterHeeds_29 : decode cX12_masterHeeds 29 = .ok (.invokevirtual 123, 3) := by decide +kernel
theorem dX12_masterHeeds_32 : decode cX12_masterHeeds 32 = .ok (.lreturn, 1) := by decide +kernel
theorem dX12_cookHeeds_0 : decode cX12_cookHeeds 0 = .ok (.aload_n 0, 1) := by decide +kernel
theorem dX12_cookHeeds_1 : decode cX12_cookHeeds 1 = .ok (.bipush 63, 2) := by decide +kernel
theorem dX12_cookHeeds_3 : decode cX12_cookHeeds 3 = .ok (.invokevirtual 49, 3) := by decide +kernel
theorem dX12_cookHeeds_6 : decode cX12_cookHeeds 6 = .ok (.aload_n 0, 1) := by decide +kernel
theorem dX12_cookHeeds_7 : decode cX12_cookHeeds 7 = .ok (.iload_n 1, 1) := by decide +kernel
theorem dX12_cookHeeds_8 : decode cX12_cookHeeds 8 = .ok (.iload_n 2, 1) := by decide +kernel
theorem dX12_cookHeeds_9 : decode cX12_cookHeeds 9 = .ok (.invokevirtual 115, 3) := by decide +kernel
theorem dX12_cookHeeds_12 : decode cX12_cookHeeds 12 = .ok (.lneg, 1) := by decide +kernel
theorem dX12_cookHeeds_13 : decode cX12_cookHeeds 13 = .ok (.lreturn, 1) := by decide +kernel
theorem dX12_heeds_0 : decode cX12_heeds 0 = .ok (.aload_n 0, 1) := by decide +kernel
theorem dX12_heeds_1 : decode cX12_heeds 1 = .ok (.getfield 7, 3) := by decide +kernel
theorem dX12_heeds_4 : decode cX12_heeds 4 = .ok (.iload_n 1, 1) := by decide +kernel
theorem dX12_heeds_5 : decode cX12_heeds 5 = .ok (.iaload, 1) := by decide +kernel
theorem dX12_heeds_6 : decode cX12_heeds 6 = .ok (.tableswitch 66 0 5 #[38, 38, 45, 52, 52, 59], 38) := by decide +kernel
theorem dX12_heeds_44 : decode cX12_heeds 44 = .ok (.aload_n 0, 1) := by decide +kernel
theorem dX12_heeds_45 : decode cX12_heeds 45 = .ok (.iload_n 1, 1) := by decide +kernel
theorem dX12_heeds_46 : decode cX12_heeds 46 = .ok (.iload_n 2, 1) := by decide +kernel
theorem dX12_heeds_47 : decode cX12_heeds 47 = .ok (.invokevirtual 115, 3) := by decide +kernel
theorem dX12_heeds_50 : decode cX12_heeds 50 = .ok (.lreturn, 1) := by decide +kernel
theorem dX12_heeds_51 : decode cX12_heeds 51 = .ok (.aload_n 0, 1) := by decide +kernel
theorem dX12_heeds_52 : decode cX12_heeds 52 = .ok (.iload_n 1, 1) := by decide +kernel
theorem dX12_heeds_53 : decode cX12_heeds 53 = .ok (.iload_n 2, 1) := by decide +kernel
theorem dX12_heeds_54 : decode cX12_heeds 54 = .ok (.invokevirtual 118, 3) := by decide +kernel
theorem dX12_heeds_57 : decode cX12_heeds 57 = .ok (.lreturn, 1) := by decide +kernel
theorem dX12_heeds_58 : decode cX12_heeds 58 = .ok (.aload_n 0, 1) := by decide +kernel
theorem dX12_heeds_59 : decode cX12_heeds 59 = .ok (.iload_n 1, 1) := by decide +kernel
theorem dX12_heeds_60 : decode cX12_heeds 60 = .ok (.iload_n 2, 1) := by decide +kernel
theorem dX12_heeds_61 : decode cX12_heeds 61 = .ok (.invokevirtual 123, 3) := by decide +kernel
theorem dX12_heeds_64 : decode cX12_heeds 64 = .ok (.lreturn, 1) := by decide +kernel
theorem dX12_heeds_65 : decode cX12_heeds 65 = .ok (.aload_n 0, 1) := by decide +kernel
theorem dX12_heeds_66 : decode cX12_heeds 66 = .ok (.iload_n 1, 1) := by decide +kernel
theorem dX12_heeds_67 : decode cX12_heeds 67 = .ok (.iload_n 2, 1) := by decide +kernel
theorem dX12_heeds_68 : decode cX12_heeds 68 = .ok (.invokevirtual 126, 3) := by decide +kernel
theorem dX12_heeds_71 : decode cX12_heeds 71 = .ok (.lreturn, 1) := by decide +kernel
theorem dX12_heeds_72 : decode cX12_heeds 72 = .ok (.aload_n 0, 1) := by decide +kernel
theorem dX12_heeds_73 : decode cX12_heeds 73 = .ok (.iload_n 1, 1) := by decide +kernel
theorem dX12_heeds_74 : decode cX12_heeds 74 = .ok (.iload_n 2, 1) := by decide +kernel
theorem dX12_heeds_75 : decode cX12_heeds 75 = .ok (.invokevirtual 129, 3) := by decide +kernel
theorem dX12_heeds_78 : decode cX12_heeds 78 = .ok (.lreturn, 1) := by decide +kernel
theorem dX12_does_0 : decode cX12_does 0 = .ok (.iload_n 1, 1) := by decide +kernel
theorem dX12_does_1 : decode cX12_does 1 = .ok (.tableswitch 48 0 2 #[27, 34, 41], 27) := by decide +kernel
theorem dX12_does_28 : decode cX12_does 28 = .ok (.aload_n 0, 1) := by decide +kernel
theorem dX12_does_29 : decode cX12_does 29 = .ok (.iload_n 2, 1) := by decide +kernel
theorem dX12_does_30 : decode cX12_does 30 = .ok (.iload_n 3, 1) := by decide +kernel
theorem dX12_does_31 : decode cX12_does 31 = .ok (.invokevirtual 132, 3) := by decide +kernel
theorem dX12_does_34 : decode cX12_does 34 = .ok (.lreturn, 1) := by decide +kernel
theorem dX12_does_35 : decode cX12_does 35 = .ok (.aload_n 0, 1) := by decide +kernel
theorem dX12_does_36 : decode cX12_does 36 = .ok (.iload_n 2, 1) := by decide +kernel
theorem dX12_does_37 : decode cX12_does 37 = .ok (.iload_n 3, 1) := by decide +kernel
theorem dX12_does_38 : decode cX12_does 38 = .ok (.invokevirtual 135, 3) := by decide +kernel
theorem dX12_does_41 : decode cX12_does 41 = .ok (.lreturn, 1) := by decide +kernel
theorem dX12_does_42 : decode cX12_does 42 = .ok (.aload_n 0, 1) := by decide +kernel
theorem dX12_does_43 : decode cX12_does 43 = .ok (.iload_n 2, 1) := by decide +kernel
theorem dX12_does_44 : decode cX12_does 44 = .ok (.iload_n 3, 1) := by decide +kernel
theorem dX12_does_45 : decode cX12_does 45 = .ok (.invokevirtual 138, 3) := by decide +kernel
theorem dX12_does_48 : decode cX12_does 48 = .ok (.lreturn, 1) := by decide +kernel
theorem dX12_does_49 : decode cX12_does 49 = .ok (.aload_n 0, 1) := by decide +kernel
theorem dX12_does_50 : decode cX12_does 50 = .ok (.iload_n 2, 1) := by decide +kernel
theorem dX12_does_51 : decode cX12_does 51 = .ok (.iload_n 3, 1) := by decide +kernel
theorem dX12_does_52 : decode cX12_does 52 = .ok (.invokevirtual 141, 3) := by decide +kernel
theorem dX12_does_55 : decode cX12_does 55 = .ok (.lreturn, 1) := by decide +kernel
theorem dX12_work_0 : decode cX12_work 0 = .ok (.aload_n 0, 1) := by decide +kernel
theorem dX12_work_1 : decode cX12_work 1 = .ok (.iload_n 1, 1) := by decide +kernel
theorem dX12_work_2 : decode cX12_work 2 = .ok (.iload_n 2, 1) := by decide +kernel
theorem dX12_work_3 : decode cX12_work 3 = .ok (.iload_n 3, 1) := by decide +kernel
theorem dX12_work_4 : decode cX12_work 4 = .ok (.invokevirtual 144, 3) := by decide +kernel
theorem dX12_work_7 : decode cX12_work 7 = .ok (.lstore 5, 2) := by decide +kernel
theorem dX12_work_9 : decode cX12_work 9 = .ok (.iload_n 1, 1) := by decide +kernel
theorem dX12_work_10 : decode cX12_work 10 = .ok (.iconst 1, 1) := by decide +kernel
theorem dX12_work_11 : decode cX12_work 11 = .ok (.if_icmp .ne 19, 3) := by decide +kernel
theorem dX12_work_14 : decode cX12_work 14 = .ok (.iload 4, 2) := by decide +kernel
theorem dX12_work_16 : decode cX12_work 16 = .ok (.ifCond .eq 14, 3) := by decide +kernel
theorem dX12_work_19 : decode cX12_work 19 = .ok (.aload_n 0, 1) := by decide +kernel
theorem dX12_work_20 : decode cX12_work 20 = .ok (.getfield 19, 3) := by decide +kernel
theorem dX12_work_23 : decode cX12_work 23 = .ok (.iload_n 2, 1) := by decide +kernel
theorem dX12_work_24 : decode cX12_work 24 = .ok (.dup2, 1) := by decide +kernel
theorem dX12_work_25 : decode cX12_work 25 = .ok (.laload, 1) := by decide +kernel
theorem dX12_work_26 : decode cX12_work 26 = .ok (.lload 5, 2) := by decide +kernel
theorem dX12_work_28 : decode cX12_work 28 = .ok (.ladd, 1) := by decide +kernel
theorem dX12_work_29 : decode cX12_work 29 = .ok (.lastore, 1) := by decide +kernel
theorem dX12_work_30 : decode cX12_work 30 = .ok (.lload 5, 2) := by decide +kernel
theorem dX12_work_32 : decode cX12_work 32 = .ok (.lreturn, 1) := by decide +kernel
theorem dX12_may_0 : decode cX12_may 0 = .ok (.aload_n 0, 1) := by decide +kernel
theorem dX12_may_1 : decode cX12_may 1 = .ok (.iload_n 2, 1) := by decide +kernel
theorem dX12_may_2 : decode cX12_may 2 = .ok (.invokevirtual 148, 3) := by decide +kernel
theorem dX12_may_5 : decode cX12_may 5 = .ok (.ifCond .eq 15, 3) := by decide +kernel
theorem dX12_may_8 : decode cX12_may 8 = .ok (.iload_n 1, 1) := by decide +kernel
theorem dX12_may_9 : decode cX12_may 9 = .ok (.iload_n 3, 1) := by decide +kernel
theorem dX12_may_10 : decode cX12_may 10 = .ok (.invokestatic 152, 3) := by decide +kernel
theorem dX12_may_13 : decode cX12_may 13 = .ok (.ifCond .eq 7, 3) := by decide +kernel
theorem dX12_may_16 : decode cX12_may 16 = .ok (.iconst 1, 1) := by decide +kernel
theorem dX12_may_17 : decode cX12_may 17 = .ok (.goto 4, 3) := by decide +kernel
theorem dX12_may_20 : decode cX12_may 20 = .ok (.iconst 0, 1) := by decide +kernel
theorem dX12_may_21 : decode cX12_may 21 = .ok (.ireturn, 1) := by decide +kernel
theorem dX12_begin_0 : decode cX12_begin 0 = .ok (.aload_n 0, 1) := by decide +kernel
theorem dX12_begin_1 : decode cX12_begin 1 = .ok (.iload_n 1, 1) := by decide +kernel
theorem dX12_begin_2 : decode cX12_begin 2 = .ok (.iload_n 2, 1) := by decide +kernel
theorem dX12_begin_3 : decode cX12_begin 3 = .ok (.iload_n 3, 1) := by decide +kernel
theorem dX12_begin_4 : decode cX12_begin 4 = .ok (.invokevirtual 156, 3) := by decide +kernel
theorem dX12_begin_7 : decode cX12_begin 7 = .ok (.ifCond .ne 7, 3) := by decide +kernel
theorem dX12_begin_10 : decode cX12_begin 10 = .ok (.ldc2_w 160, 3) := by decide +kernel
theorem dX12_begin_13 : decode cX12_begin 13 = .ok (.lreturn, 1) := by decide +kernel
theorem dX12_begin_14 : decode cX12_begin 14 = .ok (.aload_n 0, 1) := by decide +kernel
theorem dX12_begin_15 : decode cX12_begin 15 = .ok (.iconst 0, 1) := by decide +kernel
theorem dX12_begin_16 : decode cX12_begin 16 = .ok (.putfield 46, 3) := by decide +kernel
theorem dX12_begin_19 : decode cX12_begin 19 = .ok (.aload_n 0, 1) := by decide +kernel
theorem dX12_begin_20 : decode cX12_begin 20 = .ok (.iload_n 1, 1) := by decide +kernel
theorem dX12_begin_21 : decode cX12_begin 21 = .ok (.iload_n 2, 1) := by decide +kernel
theorem dX12_begin_22 : decode cX12_begin 22 = .ok (.iload_n 3, 1) := by decide +kernel
theorem dX12_begin_23 : decode cX12_begin 23 = .ok (.iconst 1, 1) := by decide +kernel
theorem dX12_begin_24 : decode cX12_begin 24 = .ok (.invokevirtual 162, 3) := by decide +kernel
theorem dX12_begin_27 : decode cX12_begin 27 = .ok (.lreturn, 1) := by decide +kernel
theorem dX12_enlist_0 : decode cX12_enlist 0 = .ok (.iload_n 1, 1) := by decide +kernel
theorem dX12_enlist_1 : decode cX12_enlist 1 = .ok (.ifCond .lt 28, 3) := by decide +kernel
theorem dX12_enlist_4 : decode cX12_enlist 4 = .ok (.iload_n 1, 1) := by decide +kernel
theorem dX12_enlist_5 : decode cX12_enlist 5 = .ok (.bipush 7, 2) := by decide +kernel
theorem dX12_enlist_7 : decode cX12_enlist 7 = .ok (.if_icmp .gt 22, 3) := by decide +kernel
theorem dX12_enlist_10 : decode cX12_enlist 10 = .ok (.iload_n 2, 1) := by decide +kernel
theorem dX12_enlist_11 : decode cX12_enlist 11 = .ok (.ifCond .lt 18, 3) := by decide +kernel
theorem dX12_enlist_14 : decode cX12_enlist 14 = .ok (.iload_n 2, 1) := by decide +kernel
theorem dX12_enlist_15 : decode cX12_enlist 15 = .ok (.bipush 99, 2) := by decide +kernel
theorem dX12_enlist_17 : decode cX12_enlist 17 = .ok (.if_icmp .gt 12, 3) := by decide +kernel
theorem dX12_enlist_20 : decode cX12_enlist 20 = .ok (.aload_n 0, 1) := by decide +kernel
theorem dX12_enlist_21 : decode cX12_enlist 21 = .ok (.getfield 38, 3) := by decide +kernel
theorem dX12_enlist_24 : decode cX12_enlist 24 = .ok (.bipush 12, 2) := by decide +kernel
theorem dX12_enlist_26 : decode cX12_enlist 26 = .ok (.if_icmp .ne 6, 3) := by decide +kernel
theorem dX12_enlist_29 : decode cX12_enlist 29 = .ok (.ldc 166, 2) := by decide +kernel
theorem dX12_enlist_31 : decode cX12_enlist 31 = .ok (.ireturn, 1) := by decide +kernel
theorem dX12_enlist_32 : decode cX12_enlist 32 = .ok (.aload_n 0, 1) := by decide +kernel
theorem dX12_enlist_33 : decode cX12_enlist 33 = .ok (.getfield 38, 3) := by decide +kernel
theorem dX12_enlist_36 : decode cX12_enlist 36 = .ok (.istore_n 3, 1) := by decide +kernel
theorem dX12_enlist_37 : decode cX12_enlist 37 = .ok (.aload_n 0, 1) := by decide +kernel
theorem dX12_enlist_38 : decode cX12_enlist 38 = .ok (.getfield 7, 3) := by decide +kernel
theorem dX12_enlist_41 : decode cX12_enlist 41 = .ok (.iload_n 3, 1) := by decide +kernel
theorem dX12_enlist_42 : decode cX12_enlist 42 = .ok (.iload_n 1, 1) := by decide +kernel
theorem dX12_enlist_43 : decode cX12_enlist 43 = .ok (.iastore, 1) := by decide +kernel
theorem dX12_enlist_44 : decode cX12_enlist 44 = .ok (.aload_n 0, 1) := by decide +kernel
theorem dX12_enlist_45 : decode cX12_enlist 45 = .ok (.getfield 13, 3) := by decide +kernel
theorem dX12_enlist_48 : decode cX12_enlist 48 = .ok (.iload_n 3, 1) := by decide +kernel
theorem dX12_enlist_49 : decode cX12_enlist 49 = .ok (.iload_n 2, 1) := by decide +kernel
theorem dX12_enlist_50 : decode cX12_enlist 50 = .ok (.iastore, 1) := by decide +kernel
theorem dX12_enlist_51 : decode cX12_enlist 51 = .ok (.aload_n 0, 1) := by decide +kernel
theorem dX12_enlist_52 : decode cX12_enlist 52 = .ok (.getfield 16, 3) := by decide +kernel
theorem dX12_enlist_55 : decode cX12_enlist 55 = .ok (.iload_n 3, 1) := by decide +kernel
theorem dX12_enlist_56 : decode cX12_enlist 56 = .ok (.iconst 0, 1) := by decide +kernel
theorem dX12_enlist_57 : decode cX12_enlist 57 = .ok (.iastore, 1) := by decide +kernel
theorem dX12_enlist_58 : decode cX12_enlist 58 = .ok (.aload_n 0, 1) := by decide +kernel
theorem dX12_enlist_59 : decode cX12_enlist 59 = .ok (.getfield 19, 3) := by decide +kernel
theorem dX12_enlist_62 : decode cX12_enlist 62 = .ok (.iload_n 3, 1) := by decide +kernel
theorem dX12_enlist_63 : decode cX12_enlist 63 = .ok (.lconst 0, 1) := by decide +kernel
theorem dX12_enlist_64 : decode cX12_enlist 64 = .ok (.lastore, 1) := by decide +kernel
theorem dX12_enlist_65 : decode cX12_enlist 65 = .ok (.aload_n 0, 1) := by decide +kernel
theorem dX12_enlist_66 : decode cX12_enlist 66 = .ok (.dup, 1) := by decide +kernel
theorem dX12_enlist_67 : decode cX12_enlist 67 = .ok (.getfield 38, 3) := by decide +kernel
theorem dX12_enlist_70 : decode cX12_enlist 70 = .ok (.iconst 1, 1) := by decide +kernel
theorem dX12_enlist_71 : decode cX12_enlist 71 = .ok (.iadd, 1) := by decide +kernel
theorem dX12_enlist_72 : decode cX12_enlist 72 = .ok (.putfield 38, 3) := by decide +kernel
theorem dX12_enlist_75 : decode cX12_enlist 75 = .ok (.iload_n 3, 1) := by decide +kernel
theorem dX12_enlist_76 : decode cX12_enlist 76 = .ok (.ireturn, 1) := by decide +kernel
theorem dX12_promote_0 : decode cX12_promote 0 = .ok (.aload_n 0, 1) := by decide +kernel
theorem dX12_promote_1 : decode cX12_promote 1 = .ok (.iload_n 1, 1) := by decide +kernel
theorem dX12_promote_2 : decode cX12_promote 2 = .ok (.invokevirtual 148, 3) := by decide +kernel
theorem dX12_promote_5 : decode cX12_promote 5 = .ok (.ifCond .eq 24, 3) := by decide +kernel
theorem dX12_promote_8 : decode cX12_promote 8 = .ok (.aload_n 0, 1) := by decide +kernel
theorem dX12_promote_9 : decode cX12_promote 9 = .ok (.getfield 7, 3) := by decide +kernel
theorem dX12_promote_12 : decode cX12_promote 12 = .ok (.iload_n 1, 1) := by decide +kernel
theorem dX12_promote_13 : decode cX12_promote 13 = .ok (.iaload, 1) := by decide +kernel
theorem dX12_promote_14 : decode cX12_promote 14 = .ok (.iconst 5, 1) := by decide +kernel
theorem dX12_promote_15 : decode cX12_promote 15 = .ok (.if_icmp .eq 14, 3) := by decide +kernel
theorem dX12_promote_18 : decode cX12_promote 18 = .ok (.aload_n 0, 1) := by decide +kernel
theorem dX12_promote_19 : decode cX12_promote 19 = .ok (.getfield 7, 3) := by decide +kernel
theorem dX12_promote_22 : decode cX12_promote 22 = .ok (.iload_n 1, 1) := by decide +kernel
theorem dX12_promote_23 : decode cX12_promote 23 = .ok (.iaload, 1) := by decide +kernel
theorem dX12_promote_24 : decode cX12_promote 24 = .ok (.bipush 7, 2) := by decide +kernel
theorem dX12_promote_26 : decode cX12_promote 26 = .ok (.if_icmp .ne 6, 3) := by decide +kernel
theorem dX12_promote_29 : decode cX12_promote 29 = .ok (.ldc 166, 2) := by decide +kernel
theorem dX12_promote_31 : decode cX12_promote 31 = .ok (.ireturn, 1) := by decide +kernel
theorem dX12_promote_32 : decode cX12_promote 32 = .ok (.aload_n 0, 1) := by decide +kernel
theorem dX12_promote_33 : decode cX12_promote 33 = .ok (.getfield 7, 3) := by decide +kernel
theorem dX12_promote_36 : decode cX12_promote 36 = .ok (.iload_n 1, 1) := by decide +kernel
theorem dX12_promote_37 : decode cX12_promote 37 = .ok (.aload_n 0, 1) := by decide +kernel
theorem dX12_promote_38 : decode cX12_promote 38 = .ok (.getfield 7, 3) := by decide +kernel
theorem dX12_promote_41 : decode cX12_promote 41 = .ok (.iload_n 1, 1) := by decide +kernel
theorem dX12_promote_42 : decode cX12_promote 42 = .ok (.iaload, 1) := by decide +kernel
theorem dX12_promote_43 : decode cX12_promote 43 = .ok (.iconst 1, 1) := by decide +kernel
theorem dX12_promote_44 : decode cX12_promote 44 = .ok (.iadd, 1) := by decide +kernel
theorem dX12_promote_45 : decode cX12_promote 45 = .ok (.iastore, 1) := by decide +kernel
theorem dX12_promote_46 : decode cX12_promote 46 = .ok (.aload_n 0, 1) := by decide +kernel
theorem dX12_promote_47 : decode cX12_promote 47 = .ok (.getfield 7, 3) := by decide +kernel
theorem dX12_promote_50 : decode cX12_promote 50 = .ok (.iload_n 1, 1) := by decide +kernel
theorem dX12_promote_51 : decode cX12_promote 51 = .ok (.iaload, 1) := by decide +kernel
theorem dX12_promote_52 : decode cX12_promote 52 = .ok (.ireturn, 1) := by decide +kernel
theorem dX12_demote_0 : decode cX12_demote 0 = .ok (.aload_n 0, 1) := by decide +kernel
theorem dX12_demote_1 : decode cX12_demote 1 = .ok (.iload_n 1, 1) := by decide +kernel
theorem dX12_demote_2 : decode cX12_demote 2 = .ok (.invokevirtual 148, 3) := by decide +kernel
theorem dX12_demote_5 : decode cX12_demote 5 = .ok (.ifCond .eq 12, 3) := by decide +kernel
theorem dX12_demote_8 : decode cX12_demote 8 = .ok (.aload_n 0, 1) := by decide +kernel
theorem dX12_demote_9 : decode cX12_demote 9 = .ok (.getfield 7, 3) := by decide +kernel
theorem dX12_demote_12 : decode cX12_demote 12 = .ok (.iload_n 1, 1) := by decide +kernel
theorem dX12_demote_13 : decode cX12_demote 13 = .ok (.iaload, 1) := by decide +kernel
theorem dX12_demote_14 : decode cX12_demote 14 = .ok (.ifCond .ne 6, 3) := by decide +kernel
theorem dX12_demote_17 : decode cX12_demote 17 = .ok (.ldc 166, 2) := by decide +kernel
theorem dX12_demote_19 : decode cX12_demote 19 = .ok (.ireturn, 1) := by decide +kernel
theorem dX12_demote_20 : decode cX12_demote 20 = .ok (.aload_n 0, 1) := by decide +kernel
theorem dX12_demote_21 : decode cX12_demote 21 = .ok (.getfield 7, 3) := by decide +kernel
theorem dX12_demote_24 : decode cX12_demote 24 = .ok (.iload_n 1, 1) := by decide +kernel
theorem dX12_demote_25 : decode cX12_demote 25 = .ok (.aload_n 0, 1) := by decide +kernel
theorem dX12_demote_26 : decode cX12_demote 26 = .ok (.getfield 7, 3) := by decide +kernel
theorem dX12_demote_29 : decode cX12_demote 29 = .ok (.iload_n 1, 1) := by decide +kernel
theorem dX12_demote_30 : decode cX12_demote 30 = .ok (.iaload, 1) := by decide +kernel
theorem dX12_demote_31 : decode cX12_demote 31 = .ok (.invokestatic 167, 3) := by decide +kernel
theorem dX12_demote_34 : decode cX12_demote 34 = .ok (.iastore, 1) := by decide +kernel
theorem dX12_demote_35 : decode cX12_demote 35 = .ok (.aload_n 0, 1) := by decide +kernel
theorem dX12_demote_36 : decode cX12_demote 36 = .ok (.getfield 7, 3) := by decide +kernel
theorem dX12_demote_39 : decode cX12_demote 39 = .ok (.iload_n 1, 1) := by decide +kernel
theorem dX12_demote_40 : decode cX12_demote 40 = .ok (.iaload, 1) := by decide +kernel
theorem dX12_demote_41 : decode cX12_demote 41 = .ok (.ireturn, 1) := by decide +kernel
theorem dX12_toil_0 : decode cX12_toil 0 = .ok (.aload_n 0, 1) := by decide +kernel
theorem dX12_toil_1 : decode cX12_toil 1 = .ok (.iconst 0, 1) := by decide +kernel
theorem dX12_toil_2 : decode cX12_toil 2 = .ok (.iload_n 1, 1) := by decide +kernel
theorem dX12_toil_3 : decode cX12_toil 3 = .ok (.iload_n 2, 1) := by decide +kernel
theorem dX12_toil_4 : decode cX12_toil 4 = .ok (.invokevirtual 170, 3) := by decide +kernel
theorem dX12_toil_7 : decode cX12_toil 7 = .ok (.lreturn, 1) := by decide +kernel
theorem dX12_pay_0 : decode cX12_pay 0 = .ok (.aload_n 0, 1) := by decide +kernel
theorem dX12_pay_1 : decode cX12_pay 1 = .ok (.iconst 1, 1) := by decide +kernel
theorem dX12_pay_2 : decode cX12_pay 2 = .ok (.iload_n 1, 1) := by decide +kernel
theorem dX12_pay_3 : decode cX12_pay 3 = .ok (.iload_n 2, 1) := by decide +kernel
theorem dX12_pay_4 : decode cX12_pay 4 = .ok (.invokevirtual 170, 3) := by decide +kernel
theorem dX12_pay_7 : decode cX12_pay 7 = .ok (.lreturn, 1) := by decide +kernel
theorem dX12_climb_0 : decode cX12_climb 0 = .ok (.aload_n 0, 1) := by decide +kernel
theorem dX12_climb_1 : decode cX12_climb 1 = .ok (.iconst 2, 1) := by decide +kernel
theorem dX12_climb_2 : decode cX12_climb 2 = .ok (.iload_n 1, 1) := by decide +kernel
theorem dX12_climb_3 : decode cX12_climb 3 = .ok (.iload_n 2, 1) := by decide +kernel
theorem dX12_climb_4 : decode cX12_climb 4 = .ok (.invokevirtual 170, 3) := by decide +kernel
theorem dX12_climb_7 : decode cX12_climb 7 = .ok (.l2i, 1) := by decide +kernel
theorem dX12_climb_8 : decode cX12_climb 8 = .ok (.ireturn, 1) := by decide +kernel
theorem dX12_heed_0 : decode cX12_heed 0 = .ok (.aload_n 0, 1) := by decide +kernel
theorem dX12_heed_1 : decode cX12_heed 1 = .ok (.iconst 3, 1) := by decide +kernel
theorem dX12_heed_2 : decode cX12_heed 2 = .ok (.iload_n 1, 1) := by decide +kernel
theorem dX12_heed_3 : decode cX12_heed 3 = .ok (.iload_n 2, 1) := by decide +kernel
theorem dX12_heed_4 : decode cX12_heed 4 = .ok (.invokevirtual 170, 3) := by decide +kernel
theorem dX12_heed_7 : decode cX12_heed 7 = .ok (.l2i, 1) := by decide +kernel
theorem dX12_heed_8 : decode cX12_heed 8 = .ok (.ireturn, 1) := by decide +kernel
theorem dX12_isClimber_0 : decode cX12_isClimber 0 = .ok (.iload_n 0, 1) := by decide +kernel
theorem dX12_isClimber_1 : decode cX12_isClimber 1 = .ok (.iconst 2, 1) := by decide +kernel
theorem dX12_isClimber_2 : decode cX12_isClimber 2 = .ok (.if_icmp .lt 12, 3) := by decide +kernel
theorem dX12_isClimber_5 : decode cX12_isClimber 5 = .ok (.iload_n 0, 1) := by decide +kernel
theorem dX12_isClimber_6 : decode cX12_isClimber 6 = .ok (.iconst 5, 1) := by decide +kernel
theorem dX12_isClimber_7 : decode cX12_isClimber 7 = .ok (.if_icmp .gt 7, 3) := by decide +kernel
theorem dX12_isClimber_10 : decode cX12_isClimber 10 = .ok (.iconst 1, 1) := by decide +kernel
theorem dX12_isClimber_11 : decode cX12_isClimber 11 = .ok (.goto 4, 3) := by decide +kernel
theorem dX12_isClimber_14 : decode cX12_isClimber 14 = .ok (.iconst 0, 1) := by decide +kernel
theorem dX12_isClimber_15 : decode cX12_isClimber 15 = .ok (.ireturn, 1) := by decide +kernel
theorem dX12_isCarer_0 : decode cX12_isCarer 0 = .ok (.iload_n 0, 1) := by decide +kernel
theorem dX12_isCarer_1 : decode cX12_isCarer 1 = .ok (.bipush 6, 2) := by decide +kernel
theorem dX12_isCarer_3 : decode cX12_isCarer 3 = .ok (.if_icmp .eq 9, 3) := by decide +kernel
theorem dX12_isCarer_6 : decode cX12_isCarer 6 = .ok (.iload_n 0, 1) := by decide +kernel
theorem dX12_isCarer_7 : decode cX12_isCarer 7 = .ok (.bipush 7, 2) := by decide +kernel
theorem dX12_isCarer_9 : decode cX12_isCarer 9 = .ok (.if_icmp .ne 7, 3) := by decide +kernel
theorem dX12_isCarer_12 : decode cX12_isCarer 12 = .ok (.iconst 1, 1) := by decide +kernel
theorem dX12_isCarer_13 : decode cX12_isCarer 13 = .ok (.goto 4, 3) := by decide +kernel
theorem dX12_isCarer_16 : decode cX12_isCarer 16 = .ok (.iconst 0, 1) := by decide +kernel
theorem dX12_isCarer_17 : decode cX12_isCarer 17 = .ok (.ireturn, 1) := by decide +kernel
theorem dX12_race_0 : decode cX12_race 0 = .ok (.aload_n 0, 1) := by decide +kernel
theorem dX12_race_1 : decode cX12_race 1 = .ok (.iconst 2, 1) := by decide +kernel
theorem dX12_race_2 : decode cX12_race 2 = .ok (.iload_n 1, 1) := by decide +kernel
theorem dX12_race_3 : decode cX12_race 3 = .ok (.iload_n 2, 1) := by decide +kernel
theorem dX12_race_4 : decode cX12_race 4 = .ok (.invokevirtual 156, 3) := by decide +kernel
theorem dX12_race_7 : decode cX12_race 7 = .ok (.ifCond .eq 25, 3) := by decide +kernel
theorem dX12_race_10 : decode cX12_race 10 = .ok (.iload_n 3, 1) := by decide +kernel
theorem dX12_race_11 : decode cX12_race 11 = .ok (.ifCond .lt 21, 3) := by decide +kernel
theorem dX12_race_14 : decode cX12_race 14 = .ok (.iload_n 3, 1) := by decide +kernel
theorem dX12_race_15 : decode cX12_race 15 = .ok (.bipush 20, 2) := by decide +kernel
theorem dX12_race_17 : decode cX12_race 17 = .ok (.if_icmp .gt 15, 3) := by decide +kernel
theorem dX12_race_20 : decode cX12_race 20 = .ok (.aload_n 0, 1) := by decide +kernel
theorem dX12_race_21 : decode cX12_race 21 = .ok (.getfield 7, 3) := by decide +kernel
theorem dX12_race_24 : decode cX12_race 24 = .ok (.iload_n 1, 1) := by decide +kernel
theorem dX12_race_25 : decode cX12_race 25 = .ok (.iaload, 1) := by decide +kernel
theorem dX12_race_26 : decode cX12_race 26 = .ok (.invokestatic 173, 3) := by decide +kernel
theorem dX12_race_29 : decode cX12_race 29 = .ok (.ifCond .ne 6, 3) := by decide +kernel
theorem dX12_race_32 : decode cX12_race 32 = .ok (.ldc 166, 2) := by decide +kernel
theorem dX12_race_34 : decode cX12_race 34 = .ok (.ireturn, 1) := by decide +kernel
theorem dX12_race_35 : decode cX12_race 35 = .ok (.aload_n 0, 1) := by decide +kernel
theorem dX12_race_36 : decode cX12_race 36 = .ok (.iconst 0, 1) := by decide +kernel
theorem dX12_race_37 : decode cX12_race 37 = .ok (.putfield 46, 3) := by decide +kernel
theorem dX12_race_40 : decode cX12_race 40 = .ok (.aload_n 0, 1) := by decide +kernel
theorem dX12_race_41 : decode cX12_race 41 = .ok (.getfield 7, 3) := by decide +kernel
theorem dX12_race_44 : decode cX12_race 44 = .ok (.iload_n 1, 1) := by decide +kernel
theorem dX12_race_45 : decode cX12_race 45 = .ok (.iaload, 1) := by decide +kernel
theorem dX12_race_46 : decode cX12_race 46 = .ok (.iconst 5, 1) := by decide +kernel
theorem dX12_race_47 : decode cX12_race 47 = .ok (.if_icmp .ne 7, 3) := by decide +kernel
theorem dX12_race_50 : decode cX12_race 50 = .ok (.iconst 1, 1) := by decide +kernel
theorem dX12_race_51 : decode cX12_race 51 = .ok (.goto 4, 3) := by decide +kernel
theorem dX12_race_54 : decode cX12_race 54 = .ok (.iconst 0, 1) := by decide +kernel
theorem dX12_race_55 : decode cX12_race 55 = .ok (.istore 4, 2) := by decide +kernel
theorem dX12_race_57 : decode cX12_race 57 = .ok (.iload 4, 2) := by decide +kernel
theorem dX12_race_59 : decode cX12_race 59 = .ok (.ifCond .eq 12, 3) := by decide +kernel
theorem dX12_race_62 : decode cX12_race 62 = .ok (.iload_n 3, 1) := by decide +kernel
theorem dX12_race_63 : decode cX12_race 63 = .ok (.iconst 3, 1) := by decide +kernel
theorem dX12_race_64 : decode cX12_race 64 = .ok (.if_icmp .le 7, 3) := by decide +kernel
theorem dX12_race_67 : decode cX12_race 67 = .ok (.iconst 3, 1) := by decide +kernel
theorem dX12_race_68 : decode cX12_race 68 = .ok (.goto 4, 3) := by decide +kernel
theorem dX12_race_71 : decode cX12_race 71 = .ok (.iload_n 3, 1) := by decide +kernel
theorem dX12_race_72 : decode cX12_race 72 = .ok (.istore 5, 2) := by decide +kernel
theorem dX12_race_74 : decode cX12_race 74 = .ok (.lconst 0, 1) := by decide +kernel
theorem dX12_race_75 : decode cX12_race 75 = .ok (.lstore 6, 2) := by decide +kernel
theorem dX12_race_77 : decode cX12_race 77 = .ok (.iconst 1, 1) := by decide +kernel
theorem dX12_race_78 : decode cX12_race 78 = .ok (.istore 8, 2) := by decide +kernel
theorem dX12_race_80 : decode cX12_race 80 = .ok (.iconst 0, 1) := by decide +kernel
theorem dX12_race_81 : decode cX12_race 81 = .ok (.istore 9, 2) := by decide +kernel
theorem dX12_race_83 : decode cX12_race 83 = .ok (.iload 9, 2) := by decide +kernel
theorem dX12_race_85 : decode cX12_race 85 = .ok (.iload 5, 2) := by decide +kernel
theorem dX12_race_87 : decode cX12_race 87 = .ok (.if_icmp .ge 56, 3) := by decide +kernel
theorem dX12_race_90 : decode cX12_race 90 = .ok (.iload 8, 2) := by decide +kernel
theorem dX12_race_92 : decode cX12_race 92 = .ok (.ifCond .eq 51, 3) := by decide +kernel
theorem dX12_race_95 : decode cX12_race 95 = .ok (.aload_n 0, 1) := by decide +kernel
theorem dX12_race_96 : decode cX12_race 96 = .ok (.iconst 2, 1) := by decide +kernel
theorem dX12_race_97 : decode cX12_race 97 = .ok (.iload_n 1, 1) := by decide +kernel
theorem dX12_race_98 : decode cX12_race 98 = .ok (.iload_n 2, 1) := by decide +kernel
theorem dX12_race_99 : decode cX12_race 99 = .ok (.iconst 0, 1) := by decide +kernel
theorem dX12_race_100 : decode cX12_race 100 = .ok (.invokevirtual 162, 3) := by decide +kernel
theorem dX12_race_103 : decode cX12_race 103 = .ok (.lstore 10, 2) := by decide +kernel
theorem dX12_race_105 : decode cX12_race 105 = .ok (.lload 10, 2) := by decide +kernel
theorem dX12_race_107 : decode cX12_race 107 = .ok (.ldc2_w 97, 3) := by decide +kernel
theorem dX12_race_110 : decode cX12_race 110 = .ok (.lcmp, 1) := by decide +kernel
theorem dX12_race_111 : decode cX12_race 111 = .ok (.ifCond .eq 7, 3) := by decide +kernel
theorem dX12_race_114 : decode cX12_race 114 = .ok (.iconst 1, 1) := by decide +kernel
theorem dX12_race_115 : decode cX12_race 115 = .ok (.goto 4, 3) := by decide +kernel
theorem dX12_race_118 : decode cX12_race 118 = .ok (.iconst 0, 1) := by decide +kernel
theorem dX12_race_119 : decode cX12_race 119 = .ok (.istore 8, 2) := by decide +kernel
theorem dX12_race_121 : decode cX12_race 121 = .ok (.lload 6, 2) := by decide +kernel
theorem dX12_race_123 : decode cX12_race 123 = .ok (.iload 8, 2) := by decide +kernel
theorem dX12_race_125 : decode cX12_race 125 = .ok (.ifCond .eq 8, 3) := by decide +kernel
theorem dX12_race_128 : decode cX12_race 128 = .ok (.lload 10, 2) := by decide +kernel
theorem dX12_race_130 : decode cX12_race 130 = .ok (.goto 4, 3) := by decide +kernel
theorem dX12_race_133 : decode cX12_race 133 = .ok (.lconst 0, 1) := by decide +kernel
theorem dX12_race_134 : decode cX12_race 134 = .ok (.ladd, 1) := by decide +kernel
theorem dX12_race_135 : decode cX12_race 135 = .ok (.lstore 6, 2) := by decide +kernel
theorem dX12_race_137 : decode cX12_race 137 = .ok (.iinc 9 1, 3) := by decide +kernel
theorem dX12_race_140 : decode cX12_race 140 = .ok (.goto (-57), 3) := by decide +kernel
theorem dX12_race_143 : decode cX12_race 143 = .ok (.iload 4, 2) := by decide +kernel
theorem dX12_race_145 : decode cX12_race 145 = .ok (.ifCond .eq 12, 3) := by decide +kernel
theorem dX12_race_148 : decode cX12_race 148 = .ok (.ldc2_w 80, 3) := by decide +kernel
theorem dX12_race_151 : decode cX12_race 151 = .ok (.lload 6, 2) := by decide +kernel
theorem dX12_race_153 : decode cX12_race 153 = .ok (.lmul, 1) := by decide +kernel
theorem dX12_race_154 : decode cX12_race 154 = .ok (.goto 5, 3) := by decide +kernel
theorem dX12_race_157 : decode cX12_race 157 = .ok (.lload 6, 2) := by decide +kernel
theorem dX12_race_159 : decode cX12_race 159 = .ok (.l2i, 1) := by decide +kernel
theorem dX12_race_160 : decode cX12_race 160 = .ok (.ireturn, 1) := by decide +kernel
theorem dX12_due_0 : decode cX12_due 0 = .ok (.aload_n 0, 1) := by decide +kernel
theorem dX12_due_1 : decode cX12_due 1 = .ok (.iconst 1, 1) := by decide +kernel
theorem dX12_due_2 : decode cX12_due 2 = .ok (.iload_n 1, 1) := by decide +kernel
theorem dX12_due_3 : decode cX12_due 3 = .ok (.iload_n 2, 1) := by decide +kernel
theorem dX12_due_4 : decode cX12_due 4 = .ok (.invokevirtual 156, 3) := by decide +kernel
theorem dX12_due_7 : decode cX12_due 7 = .ok (.ifCond .eq 16, 3) := by decide +kernel
theorem dX12_due_10 : decode cX12_due 10 = .ok (.iload_n 3, 1) := by decide +kernel
theorem dX12_due_11 : decode cX12_due 11 = .ok (.ifCond .lt 12, 3) := by decide +kernel
theorem dX12_due_14 : decode cX12_due 14 = .ok (.aload_n 0, 1) := by decide +kernel
theorem dX12_due_15 : decode cX12_due 15 = .ok (.getfield 7, 3) := by decide +kernel
theorem dX12_due_18 : decode cX12_due 18 = .ok (.iload_n 1, 1) := by decide +kernel
theorem dX12_due_19 : decode cX12_due 19 = .ok (.iaload, 1) := by decide +kernel
theorem dX12_due_20 : decode cX12_due 20 = .ok (.ifCond .ne 7, 3) := by decide +kernel
theorem dX12_due_23 : decode cX12_due 23 = .ok (.ldc2_w 160, 3) := by decide +kernel
theorem dX12_due_26 : decode cX12_due 26 = .ok (.lreturn, 1) := by decide +kernel
theorem dX12_due_27 : decode cX12_due 27 = .ok (.aload_n 0, 1) := by decide +kernel
theorem dX12_due_28 : decode cX12_due 28 = .ok (.iconst 0, 1) := by decide +kernel
theorem dX12_due_29 : decode cX12_due 29 = .ok (.putfield 46, 3) := by decide +kernel
theorem dX12_due_32 : decode cX12_due 32 = .ok (.aload_n 0, 1) := by decide +kernel
theorem dX12_due_33 : decode cX12_due 33 = .ok (.iconst 1, 1) := by decide +kernel
theorem dX12_due_34 : decode cX12_due 34 = .ok (.iload_n 1, 1) := by decide +kernel
theorem dX12_due_35 : decode cX12_due 35 = .ok (.iload_n 2, 1) := by decide +kernel
theorem dX12_due_36 : decode cX12_due 36 = .ok (.iconst 0, 1) := by decide +kernel
theorem dX12_due_37 : decode cX12_due 37 = .ok (.invokevirtual 162, 3) := by decide +kernel
theorem dX12_due_40 : decode cX12_due 40 = .ok (.iload_n 3, 1) := by decide +kernel
theorem dX12_due_41 : decode cX12_due 41 = .ok (.i2l, 1) := by decide +kernel
theorem dX12_due_42 : decode cX12_due 42 = .ok (.lsub, 1) := by decide +kernel
theorem dX12_due_43 : decode cX12_due 43 = .ok (.lstore 4, 2) := by decide +kernel
theorem dX12_due_45 : decode cX12_due 45 = .ok (.lload 4, 2) := by decide +kernel
theorem dX12_due_47 : decode cX12_due 47 = .ok (.lconst 0, 1) := by decide +kernel
theorem dX12_due_48 : decode cX12_due 48 = .ok (.lcmp, 1) := by decide +kernel
theorem dX12_due_49 : decode cX12_due 49 = .ok (.ifCond .ge 7, 3) := by decide +kernel
theorem dX12_due_52 : decode cX12_due 52 = .ok (.lconst 0, 1) := by decide +kernel
theorem dX12_due_53 : decode cX12_due 53 = .ok (.goto 5, 3) := by decide +kernel
theorem dX12_due_56 : decode cX12_due 56 = .ok (.lload 4, 2) := by decide +kernel
theorem dX12_due_58 : decode cX12_due 58 = .ok (.lreturn, 1) := by decide +kernel
theorem dX12_feed_0 : decode cX12_feed 0 = .ok (.aload_n 0, 1) := by decide +kernel
theorem dX12_feed_1 : decode cX12_feed 1 = .ok (.iconst 0, 1) := by decide +kernel
theorem dX12_feed_2 : decode cX12_feed 2 = .ok (.iload_n 1, 1) := by decide +kernel
theorem dX12_feed_3 : decode cX12_feed 3 = .ok (.iload_n 2, 1) := by decide +kernel
theorem dX12_feed_4 : decode cX12_feed 4 = .ok (.invokevirtual 156, 3) := by decide +kernel
theorem dX12_feed_7 : decode cX12_feed 7 = .ok (.ifCond .eq 15, 3) := by decide +kernel
theorem dX12_feed_10 : decode cX12_feed 10 = .ok (.aload_n 0, 1) := by decide +kernel
theorem dX12_feed_11 : decode cX12_feed 11 = .ok (.getfield 7, 3) := by decide +kernel
theorem dX12_feed_14 : decode cX12_feed 14 = .ok (.iload_n 1, 1) := by decide +kernel
theorem dX12_feed_15 : decode cX12_feed 15 = .ok (.iaload, 1) := by decide +kernel
theorem dX12_feed_16 : decode cX12_feed 16 = .ok (.invokestatic 176, 3) := by decide +kernel
theorem dX12_feed_19 : decode cX12_feed 19 = .ok (.ifCond .ne 6, 3) := by decide +kernel
theorem dX12_feed_22 : decode cX12_feed 22 = .ok (.ldc 166, 2) := by decide +kernel
theorem dX12_feed_24 : decode cX12_feed 24 = .ok (.ireturn, 1) := by decide +kernel
theorem dX12_feed_25 : decode cX12_feed 25 = .ok (.aload_n 0, 1) := by decide +kernel
theorem dX12_feed_26 : decode cX12_feed 26 = .ok (.iconst 0, 1) := by decide +kernel
theorem dX12_feed_27 : decode cX12_feed 27 = .ok (.putfield 46, 3) := by decide +kernel
theorem dX12_feed_30 : decode cX12_feed 30 = .ok (.aload_n 0, 1) := by decide +kernel
theorem dX12_feed_31 : decode cX12_feed 31 = .ok (.iconst 0, 1) := by decide +kernel
theorem dX12_feed_32 : decode cX12_feed 32 = .ok (.iload_n 1, 1) := by decide +kernel
theorem dX12_feed_33 : decode cX12_feed 33 = .ok (.iload_n 2, 1) := by decide +kernel
theorem dX12_feed_34 : decode cX12_feed 34 = .ok (.iconst 0, 1) := by decide +kernel
theorem dX12_feed_35 : decode cX12_feed 35 = .ok (.invokevirtual 162, 3) := by decide +kernel
theorem dX12_feed_38 : decode cX12_feed 38 = .ok (.ldc2_w 179, 3) := by decide +kernel
theorem dX12_feed_41 : decode cX12_feed 41 = .ok (.ldiv, 1) := by decide +kernel
theorem dX12_feed_42 : decode cX12_feed 42 = .ok (.l2i, 1) := by decide +kernel
theorem dX12_feed_43 : decode cX12_feed 43 = .ok (.istore_n 3, 1) := by decide +kernel
theorem dX12_feed_44 : decode cX12_feed 44 = .ok (.iconst 0, 1) := by decide +kernel
theorem dX12_feed_45 : decode cX12_feed 45 = .ok (.istore 4, 2) := by decide +kernel
theorem dX12_feed_47 : decode cX12_feed 47 = .ok (.iload 4, 2) := by decide +kernel
theorem dX12_feed_49 : decode cX12_feed 49 = .ok (.aload_n 0, 1) := by decide +kernel
theorem dX12_feed_50 : decode cX12_feed 50 = .ok (.getfield 38, 3) := by decide +kernel
theorem dX12_feed_53 : decode cX12_feed 53 = .ok (.if_icmp .ge 23, 3) := by decide +kernel
theorem dX12_feed_56 : decode cX12_feed 56 = .ok (.iload 4, 2) := by decide +kernel
theorem dX12_feed_58 : decode cX12_feed 58 = .ok (.iload_n 1, 1) := by decide +kernel
theorem dX12_feed_59 : decode cX12_feed 59 = .ok (.if_icmp .eq 11, 3) := by decide +kernel
theorem dX12_feed_62 : decode cX12_feed 62 = .ok (.aload_n 0, 1) := by decide +kernel
theorem dX12_feed_63 : decode cX12_feed 63 = .ok (.iload 4, 2) := by decide +kernel
theorem dX12_feed_65 : decode cX12_feed 65 = .ok (.iload_n 3, 1) := by decide +kernel
theorem dX12_feed_66 : decode cX12_feed 66 = .ok (.ineg, 1) := by decide +kernel
theorem dX12_feed_67 : decode cX12_feed 67 = .ok (.invokevirtual 53, 3) := by decide +kernel
theorem dX12_feed_70 : decode cX12_feed 70 = .ok (.iinc 4 1, 3) := by decide +kernel
theorem dX12_feed_73 : decode cX12_feed 73 = .ok (.goto (-26), 3) := by decide +kernel
theorem dX12_feed_76 : decode cX12_feed 76 = .ok (.iload_n 3, 1) := by decide +kernel
theorem dX12_feed_77 : decode cX12_feed 77 = .ok (.ireturn, 1) := by decide +kernel
theorem dX12_watch_0 : decode cX12_watch 0 = .ok (.iload_n 1, 1) := by decide +kernel
theorem dX12_watch_1 : decode cX12_watch 1 = .ok (.ifCond .lt 16, 3) := by decide +kernel
theorem dX12_watch_4 : decode cX12_watch 4 = .ok (.iload_n 1, 1) := by decide +kernel
theorem dX12_watch_5 : decode cX12_watch 5 = .ok (.iconst 3, 1) := by decide +kernel
theorem dX12_watch_6 : decode cX12_watch 6 = .ok (.if_icmp .gt 11, 3) := by decide +kernel
theorem dX12_watch_9 : decode cX12_watch 9 = .ok (.iload_n 1, 1) := by decide +kernel
theorem dX12_watch_10 : decode cX12_watch 10 = .ok (.iload_n 2, 1) := by decide +kernel
theorem dX12_watch_11 : decode cX12_watch 11 = .ok (.invokestatic 152, 3) := by decide +kernel
theorem dX12_watch_14 : decode cX12_watch 14 = .ok (.ifCond .ne 7, 3) := by decide +kernel
theorem dX12_watch_17 : decode cX12_watch 17 = .ok (.ldc2_w 160, 3) := by decide +kernel
theorem dX12_watch_20 : decode cX12_watch 20 = .ok (.lreturn, 1) := by decide +kernel
theorem dX12_watch_21 : decode cX12_watch 21 = .ok (.aload_n 0, 1) := by decide +kernel
theorem dX12_watch_22 : decode cX12_watch 22 = .ok (.iconst 0, 1) := by decide +kernel
theorem dX12_watch_23 : decode cX12_watch 23 = .ok (.putfield 46, 3) := by decide +kernel
theorem dX12_watch_26 : decode cX12_watch 26 = .ok (.lconst 0, 1) := by decide +kernel
theorem dX12_watch_27 : decode cX12_watch 27 = .ok (.lstore_n 3, 1) := by decide +kernel
theorem dX12_watch_28 : decode cX12_watch 28 = .ok (.iconst 0, 1) := by decide +kernel
theorem dX12_watch_29 : decode cX12_watch 29 = .ok (.istore 5, 2) := by decide +kernel
theorem dX12_watch_31 : decode cX12_watch 31 = .ok (.iload 5, 2) := by decide +kernel
theorem dX12_watch_33 : decode cX12_watch 33 = .ok (.aload_n 0, 1) := by decide +kernel
theorem dX12_watch_34 : decode cX12_watch 34 = .ok (.getfield 38, 3) := by decide +kernel
theorem dX12_watch_37 : decode cX12_watch 37 = .ok (.if_icmp .ge 21, 3) := by decide +kernel
theorem dX12_watch_40 : decode cX12_watch 40 = .ok (.lload_n 3, 1) := by decide +kernel
theorem dX12_watch_41 : decode cX12_watch 41 = .ok (.aload_n 0, 1) := by decide +kernel
theorem dX12_watch_42 : decode cX12_watch 42 = .ok (.iload_n 1, 1) := by decide +kernel
theorem dX12_watch_43 : decode cX12_watch 43 = .ok (.iload 5, 2) := by decide +kernel
theorem dX12_watch_45 : decode cX12_watch 45 = .ok (.iload_n 2, 1) := by decide +kernel
theorem dX12_watch_46 : decode cX12_watch 46 = .ok (.iconst 0, 1) := by decide +kernel
theorem dX12_watch_47 : decode cX12_watch 47 = .ok (.invokevirtual 162, 3) := by decide +kernel
theorem dX12_watch_50 : decode cX12_watch 50 = .ok (.ladd, 1) := by decide +kernel
theorem dX12_watch_51 : decode cX12_watch 51 = .ok (.lstore_n 3, 1) := by decide +kernel
theorem dX12_watch_52 : decode cX12_watch 52 = .ok (.iinc 5 1, 3) := by decide +kernel
theorem dX12_watch_55 : decode cX12_watch 55 = .ok (.goto (-24), 3) := by decide +kernel
theorem dX12_watch_58 : decode cX12_watch 58 = .ok (.lload_n 3, 1) := by decide +kernel
theorem dX12_watch_59 : decode cX12_watch 59 = .ok (.lreturn, 1) := by decide +kernel
theorem dX12_line_0 : decode cX12_line 0 = .ok (.iload_n 1, 1) := by decide +kernel
theorem dX12_line_1 : decode cX12_line 1 = .ok (.ifCond .lt 9, 3) := by decide +kernel
theorem dX12_line_4 : decode cX12_line 4 = .ok (.iload_n 1, 1) := by decide +kernel
theorem dX12_line_5 : decode cX12_line 5 = .ok (.bipush 7, 2) := by decide +kernel
theorem dX12_line_7 : decode cX12_line 7 = .ok (.if_icmp .le 6, 3) := by decide +kernel
theorem dX12_line_10 : decode cX12_line 10 = .ok (.ldc 166, 2) := by decide +kernel
theorem dX12_line_12 : decode cX12_line 12 = .ok (.ireturn, 1) := by decide +kernel
theorem dX12_line_13 : decode cX12_line 13 = .ok (.iload_n 2, 1) := by decide +kernel
theorem dX12_line_14 : decode cX12_line 14 = .ok (.iconst (-1), 1) := by decide +kernel
theorem dX12_line_15 : decode cX12_line 15 = .ok (.if_icmp .ne 12, 3) := by decide +kernel
theorem dX12_line_18 : decode cX12_line 18 = .ok (.aload_n 0, 1) := by decide +kernel
theorem dX12_line_19 : decode cX12_line 19 = .ok (.getfield 23, 3) := by decide +kernel
theorem dX12_line_22 : decode cX12_line 22 = .ok (.iload_n 1, 1) := by decide +kernel
theorem dX12_line_23 : decode cX12_line 23 = .ok (.iconst (-1), 1) := by decide +kernel
theorem dX12_line_24 : decode cX12_line 24 = .ok (.iastore, 1) := by decide +kernel
theorem dX12_line_25 : decode cX12_line 25 = .ok (.iconst 1, 1) := by decide +kernel
theorem dX12_line_26 : decode cX12_line 26 = .ok (.ireturn, 1) := by decide +kernel
theorem dX12_line_27 : decode cX12_line 27 = .ok (.iload_n 2, 1) := by decide +kernel
theorem dX12_line_28 : decode cX12_line 28 = .ok (.ifCond .lt 35, 3) := by decide +kernel
theorem dX12_line_31 : decode cX12_line 31 = .ok (.iload_n 2, 1) := by decide +kernel
theorem dX12_line_32 : decode cX12_line 32 = .ok (.iconst 3, 1) := by decide +kernel
theorem dX12_line_33 : decode cX12_line 33 = .ok (.if_icmp .gt 30, 3) := by decide +kernel
theorem dX12_line_36 : decode cX12_line 36 = .ok (.iload_n 2, 1) := by decide +kernel
theorem dX12_line_37 : decode cX12_line 37 = .ok (.iload_n 3, 1) := by decide +kernel
theorem dX12_line_38 : decode cX12_line 38 = .ok (.invokestatic 152, 3) := by decide +kernel
theorem dX12_line_41 : decode cX12_line 41 = .ok (.ifCond .eq 22, 3) := by decide +kernel
theorem dX12_line_44 : decode cX12_line 44 = .ok (.iload 4, 2) := by decide +kernel
theorem dX12_line_46 : decode cX12_line 46 = .ok (.ifCond .lt 17, 3) := by decide +kernel
theorem dX12_line_49 : decode cX12_line 49 = .ok (.iload 5, 2) := by decide +kernel
theorem dX12_line_51 : decode cX12_line 51 = .ok (.bipush 7, 2) := by decide +kernel
theorem dX12_line_53 : decode cX12_line 53 = .ok (.if_icmp .gt 10, 3) := by decide +kernel
theorem dX12_line_56 : decode cX12_line 56 = .ok (.iload 4, 2) := by decide +kernel
theorem dX12_line_58 : decode cX12_line 58 = .ok (.iload 5, 2) := by decide +kernel
theorem dX12_line_60 : decode cX12_line 60 = .ok (.if_icmp .le 6, 3) := by decide +kernel
theorem dX12_line_63 : decode cX12_line 63 = .ok (.ldc 166, 2) := by decide +kernel
theorem dX12_line_65 : decode cX12_line 65 = .ok (.ireturn, 1) := by decide +kernel
theorem dX12_line_66 : decode cX12_line 66 = .ok (.aload_n 0, 1) := by decide +kernel
theorem dX12_line_67 : decode cX12_line 67 = .ok (.getfield 23, 3) := by decide +kernel
theorem dX12_line_70 : decode cX12_line 70 = .ok (.iload_n 1, 1) := by decide +kernel
theorem dX12_line_71 : decode cX12_line 71 = .ok (.iload_n 2, 1) := by decide +kernel
theorem dX12_line_72 : decode cX12_line 72 = .ok (.iastore, 1) := by decide +kernel
theorem dX12_line_73 : decode cX12_line 73 = .ok (.aload_n 0, 1) := by decide +kernel
theorem dX12_line_74 : decode cX12_line 74 = .ok (.getfield 26, 3) := by decide +kernel
theorem dX12_line_77 : decode cX12_line 77 = .ok (.iload_n 1, 1) := by decide +kernel
theorem dX12_line_78 : decode cX12_line 78 = .ok (.iload_n 3, 1) := by decide +kernel
theorem dX12_line_79 : decode cX12_line 79 = .ok (.iastore, 1) := by decide +kernel
theorem dX12_line_80 : decode cX12_line 80 = .ok (.aload_n 0, 1) := by decide +kernel
theorem dX12_line_81 : decode cX12_line 81 = .ok (.getfield 29, 3) := by decide +kernel
theorem dX12_line_84 : decode cX12_line 84 = .ok (.iload_n 1, 1) := by decide +kernel
theorem dX12_line_85 : decode cX12_line 85 = .ok (.iload 4, 2) := by decide +kernel
theorem dX12_line_87 : decode cX12_line 87 = .ok (.iastore, 1) := by decide +kernel
theorem dX12_line_88 : decode cX12_line 88 = .ok (.aload_n 0, 1) := by decide +kernel
theorem dX12_line_89 : decode cX12_line 89 = .ok (.getfield 32, 3) := by decide +kernel
theorem dX12_line_92 : decode cX12_line 92 = .ok (.iload_n 1, 1) := by decide +kernel
theorem dX12_line_93 : decode cX12_line 93 = .ok (.iload 5, 2) := by decide +kernel
theorem dX12_line_95 : decode cX12_line 95 = .ok (.iastore, 1) := by decide +kernel
theorem dX12_line_96 : decode cX12_line 96 = .ok (.iconst 1, 1) := by decide +kernel
theorem dX12_line_97 : decode cX12_line 97 = .ok (.ireturn, 1) := by decide +kernel
theorem dX12_sail_0 : decode cX12_sail 0 = .ok (.iload_n 1, 1) := by decide +kernel
theorem dX12_sail_1 : decode cX12_sail 1 = .ok (.ifCond .lt 9, 3) := by decide +kernel
theorem dX12_sail_4 : decode cX12_sail 4 = .ok (.iload_n 1, 1) := by decide +kernel
theorem dX12_sail_5 : decode cX12_sail 5 = .ok (.bipush 20, 2) := by decide +kernel
theorem dX12_sail_7 : decode cX12_sail 7 = .ok (.if_icmp .le 7, 3) := by decide +kernel
theorem dX12_sail_10 : decode cX12_sail 10 = .ok (.ldc2_w 160, 3) := by decide +kernel
theorem dX12_sail_13 : decode cX12_sail 13 = .ok (.lreturn, 1) := by decide +kernel
theorem dX12_sail_14 : decode cX12_sail 14 = .ok (.aload_n 0, 1) := by decide +kernel
theorem dX12_sail_15 : decode cX12_sail 15 = .ok (.iconst 0, 1) := by decide +kernel
theorem dX12_sail_16 : decode cX12_sail 16 = .ok (.putfield 46, 3) := by decide +kernel
theorem dX12_sail_19 : decode cX12_sail 19 = .ok (.lconst 0, 1) := by decide +kernel
theorem dX12_sail_20 : decode cX12_sail 20 = .ok (.lstore_n 2, 1) := by decide +kernel
theorem dX12_sail_21 : decode cX12_sail 21 = .ok (.iconst 0, 1) := by decide +kernel
theorem dX12_sail_22 : decode cX12_sail 22 = .ok (.istore 4, 2) := by decide +kernel
theorem dX12_sail_24 : decode cX12_sail 24 = .ok (.iload 4, 2) := by decide +kernel
theorem dX12_sail_26 : decode cX12_sail 26 = .ok (.iload_n 1, 1) := by decide +kernel
theorem dX12_sail_27 : decode cX12_sail 27 = .ok (.if_icmp .ge 111, 3) := by decide +kernel
theorem dX12_sail_30 : decode cX12_sail 30 = .ok (.iconst 0, 1) := by decide +kernel
theorem dX12_sail_31 : decode cX12_sail 31 = .ok (.istore 5, 2) := by decide +kernel
theorem dX12_sail_33 : decode cX12_sail 33 = .ok (.iload 5, 2) := by decide +kernel
theorem dX12_sail_35 : decode cX12_sail 35 = .ok (.bipush 8, 2) := by decide +kernel
theorem dX12_sail_37 : decode cX12_sail 37 = .ok (.if_icmp .ge 95, 3) := by decide +kernel
theorem dX12_sail_40 : decode cX12_sail 40 = .ok (.iconst 0, 1) := by decide +kernel
theorem dX12_sail_41 : decode cX12_sail 41 = .ok (.istore 6, 2) := by decide +kernel
theorem dX12_sail_43 : decode cX12_sail 43 = .ok (.iload 6, 2) := by decide +kernel
theorem dX12_sail_45 : decode cX12_sail 45 = .ok (.aload_n 0, 1) := by decide +kernel
theorem dX12_sail_46 : decode cX12_sail 46 = .ok (.getfield 38, 3) := by decide +kernel
theorem dX12_sail_49 : decode cX12_sail 49 = .ok (.if_icmp .ge 77, 3) := by decide +kernel
theorem dX12_sail_52 : decode cX12_sail 52 = .ok (.aload_n 0, 1) := by decide +kernel
theorem dX12_sail_53 : decode cX12_sail 53 = .ok (.getfield 23, 3) := by decide +kernel
theorem dX12_sail_56 : decode cX12_sail 56 = .ok (.iload 5, 2) := by decide +kernel
theorem dX12_sail_58 : decode cX12_sail 58 = .ok (.iaload, 1) := by decide +kernel
theorem dX12_sail_59 : decode cX12_sail 59 = .ok (.ifCond .lt 67, 3) := by decide +kernel
theorem dX12_sail_62 : decode cX12_sail 62 = .ok (.aload_n 0, 1) := by decide +kernel
theorem dX12_sail_63 : decode cX12_sail 63 = .ok (.getfield 7, 3) := by decide +kernel
theorem dX12_sail_66 : decode cX12_sail 66 = .ok (.iload 6, 2) := by decide +kernel
theorem dX12_sail_68 : decode cX12_sail 68 = .ok (.iaload, 1) := by decide +kernel
theorem dX12_sail_69 : decode cX12_sail 69 = .ok (.aload_n 0, 1) := by decide +kernel
theorem dX12_sail_70 : decode cX12_sail 70 = .ok (.getfield 29, 3) := by decide +kernel
theorem dX12_sail_73 : decode cX12_sail 73 = .ok (.iload 5, 2) := by decide +kernel
theorem dX12_sail_75 : decode cX12_sail 75 = .ok (.iaload, 1) := by decide +kernel
theorem dX12_sail_76 : decode cX12_sail 76 = .ok (.if_icmp .lt 44, 3) := by decide +kernel
theorem dX12_sail_79 : decode cX12_sail 79 = .ok (.aload_n 0, 1) := by decide +kernel
theorem dX12_sail_80 : decode cX12_sail 80 = .ok (.getfield 7, 3) := by decide +kernel
theorem dX12_sail_83 : decode cX12_sail 83 = .ok (.iload 6, 2) := by decide +kernel
theorem dX12_sail_85 : decode cX12_sail 85 = .ok (.iaload, 1) := by decide +kernel
theorem dX12_sail_86 : decode cX12_sail 86 = .ok (.aload_n 0, 1) := by decide +kernel
theorem dX12_sail_87 : decode cX12_sail 87 = .ok (.getfield 32, 3) := by decide +kernel
theorem dX12_sail_90 : decode cX12_sail 90 = .ok (.iload 5, 2) := by decide +kernel
theorem dX12_sail_92 : decode cX12_sail 92 = .ok (.iaload, 1) := by decide +kernel
theorem dX12_sail_93 : decode cX12_sail 93 = .ok (.if_icmp .gt 27, 3) := by decide +kernel
theorem dX12_sail_96 : decode cX12_sail 96 = .ok (.lload_n 2, 1) := by decide +kernel
theorem dX12_sail_97 : decode cX12_sail 97 = .ok (.aload_n 0, 1) := by decide +kernel
theorem dX12_sail_98 : decode cX12_sail 98 = .ok (.aload_n 0, 1) := by decide +kernel
theorem dX12_sail_99 : decode cX12_sail 99 = .ok (.getfield 23, 3) := by decide +kernel
theorem dX12_sail_102 : decode cX12_sail 102 = .ok (.iload 5, 2) := by decide +kernel
theorem dX12_sail_104 : decode cX12_sail 104 = .ok (.iaload, 1) := by decide +kernel
theorem dX12_sail_105 : decode cX12_sail 105 = .ok (.iload 6, 2) := by decide +kernel
theorem dX12_sail_107 : decode cX12_sail 107 = .ok (.aload_n 0, 1) := by decide +kernel
theorem dX12_sail_108 : decode cX12_sail 108 = .ok (.getfield 26, 3) := by decide +kernel
theorem dX12_sail_111 : decode cX12_sail 111 = .ok (.iload 5, 2) := by decide +kernel
theorem dX12_sail_113 : decode cX12_sail 113 = .ok (.iaload, 1) := by decide +kernel
theorem dX12_sail_114 : decode cX12_sail 114 = .ok (.iconst 1, 1) := by decide +kernel
theorem dX12_sail_115 : decode cX12_sail 115 = .ok (.invokevirtual 162, 3) := by decide +kernel
theorem dX12_sail_118 : decode cX12_sail 118 = .ok (.ladd, 1) := by decide +kernel
theorem dX12_sail_119 : decode cX12_sail 119 = .ok (.lstore_n 2, 1) := by decide +kernel
theorem dX12_sail_120 : decode cX12_sail 120 = .ok (.iinc 6 1, 3) := by decide +kernel
theorem dX12_sail_123 : decode cX12_sail 123 = .ok (.goto (-80), 3) := by decide +kernel
theorem dX12_sail_126 : decode cX12_sail 126 = .ok (.iinc 5 1, 3) := by decide +kernel
theorem dX12_sail_129 : decode cX12_sail 129 = .ok (.goto (-96), 3) := by decide +kernel
theorem dX12_sail_132 : decode cX12_sail 132 = .ok (.iinc 4 1, 3) := by decide +kernel
theorem dX12_sail_135 : decode cX12_sail 135 = .ok (.goto (-111), 3) := by decide +kernel
theorem dX12_sail_138 : decode cX12_sail 138 = .ok (.lload_n 2, 1) := by decide +kernel
theorem dX12_sail_139 : decode cX12_sail 139 = .ok (.lreturn, 1) := by decide +kernel
theorem dX12_rest_0 : decode cX12_rest 0 = .ok (.iload_n 1, 1) := by decide +kernel
theorem dX12_rest_1 : decode cX12_rest 1 = .ok (.ifCond .lt 10, 3) := by decide +kernel
theorem dX12_rest_4 : decode cX12_rest 4 = .ok (.iload_n 1, 1) := by decide +kernel
theorem dX12_rest_5 : decode cX12_rest 5 = .ok (.sipush 1000, 3) := by decide +kernel
theorem dX12_rest_8 : decode cX12_rest 8 = .ok (.if_icmp .le 6, 3) := by decide +kernel
theorem dX12_rest_11 : decode cX12_rest 11 = .ok (.ldc 166, 2) := by decide +kernel
theorem dX12_rest_13 : decode cX12_rest 13 = .ok (.ireturn, 1) := by decide +kernel
theorem dX12_rest_14 : decode cX12_rest 14 = .ok (.iconst 0, 1) := by decide +kernel
theorem dX12_rest_15 : decode cX12_rest 15 = .ok (.istore_n 2, 1) := by decide +kernel
theorem dX12_rest_16 : decode cX12_rest 16 = .ok (.iload_n 2, 1) := by decide +kernel
theorem dX12_rest_17 : decode cX12_rest 17 = .ok (.aload_n 0, 1) := by decide +kernel
theorem dX12_rest_18 : decode cX12_rest 18 = .ok (.getfield 38, 3) := by decide +kernel
theorem dX12_rest_21 : decode cX12_rest 21 = .ok (.if_icmp .ge 16, 3) := by decide +kernel
theorem dX12_rest_24 : decode cX12_rest 24 = .ok (.aload_n 0, 1) := by decide +kernel
theorem dX12_rest_25 : decode cX12_rest 25 = .ok (.iload_n 2, 1) := by decide +kernel
theorem dX12_rest_26 : decode cX12_rest 26 = .ok (.iload_n 1, 1) := by decide +kernel
theorem dX12_rest_27 : decode cX12_rest 27 = .ok (.ineg, 1) := by decide +kernel
theorem dX12_rest_28 : decode cX12_rest 28 = .ok (.invokevirtual 53, 3) := by decide +kernel
theorem dX12_rest_31 : decode cX12_rest 31 = .ok (.iinc 2 1, 3) := by decide +kernel
theorem dX12_rest_34 : decode cX12_rest 34 = .ok (.goto (-18), 3) := by decide +kernel
theorem dX12_rest_37 : decode cX12_rest 37 = .ok (.aload_n 0, 1) := by decide +kernel
theorem dX12_rest_38 : decode cX12_rest 38 = .ok (.getfield 38, 3) := by decide +kernel
theorem dX12_rest_41 : decode cX12_rest 41 = .ok (.ireturn, 1) := by decide +kernel
theorem dX12_told_0 : decode cX12_told 0 = .ok (.aload_n 0, 1) := by decide +kernel
theorem dX12_told_1 : decode cX12_told 1 = .ok (.iload_n 1, 1) := by decide +kernel
theorem dX12_told_2 : decode cX12_told 2 = .ok (.invokevirtual 148, 3) := by decide +kernel
theorem dX12_told_5 : decode cX12_told 5 = .ok (.ifCond .ne 7, 3) := by decide +kernel
theorem dX12_told_8 : decode cX12_told 8 = .ok (.ldc2_w 160, 3) := by decide +kernel
theorem dX12_told_11 : decode cX12_told 11 = .ok (.lreturn, 1) := by decide +kernel
theorem dX12_told_12 : decode cX12_told 12 = .ok (.iload_n 2, 1) := by decide +kernel
theorem dX12_told_13 : decode cX12_told 13 = .ok (.tableswitch 125 0 6 #[43, 51, 59, 67, 74, 92, 107], 43) := by decide +kernel
theorem dX12_told_56 : decode cX12_told 56 = .ok (.aload_n 0, 1) := by decide +kernel
theorem dX12_told_57 : decode cX12_told 57 = .ok (.getfield 7, 3) := by decide +kernel
theorem dX12_told_60 : decode cX12_told 60 = .ok (.iload_n 1, 1) := by decide +kernel
theorem dX12_told_61 : decode cX12_told 61 = .ok (.iaload, 1) := by decide +kernel
theorem dX12_told_62 : decode cX12_told 62 = .ok (.i2l, 1) := by decide +kernel
theorem dX12_told_63 : decode cX12_told 63 = .ok (.lreturn, 1) := by decide +kernel
theorem dX12_told_64 : decode cX12_told 64 = .ok (.aload_n 0, 1) := by decide +kernel
theorem dX12_told_65 : decode cX12_told 65 = .ok (.getfield 13, 3) := by decide +kernel
theorem dX12_told_68 : decode cX12_told 68 = .ok (.iload_n 1, 1) := by decide +kernel
theorem dX12_told_69 : decode cX12_told 69 = .ok (.iaload, 1) := by decide +kernel
theorem dX12_told_70 : decode cX12_told 70 = .ok (.i2l, 1) := by decide +kernel
theorem dX12_told_71 : decode cX12_told 71 = .ok (.lreturn, 1) := by decide +kernel
theorem dX12_told_72 : decode cX12_told 72 = .ok (.aload_n 0, 1) := by decide +kernel
theorem dX12_told_73 : decode cX12_told 73 = .ok (.getfield 16, 3) := by decide +kernel
theorem dX12_told_76 : decode cX12_told 76 = .ok (.iload_n 1, 1) := by decide +kernel
theorem dX12_told_77 : decode cX12_told 77 = .ok (.iaload, 1) := by decide +kernel
theorem dX12_told_78 : decode cX12_told 78 = .ok (.i2l, 1) := by decide +kernel
theorem dX12_told_79 : decode cX12_told 79 = .ok (.lreturn, 1) := by decide +kernel
theorem dX12_told_80 : decode cX12_told 80 = .ok (.aload_n 0, 1) := by decide +kernel
theorem dX12_told_81 : decode cX12_told 81 = .ok (.getfield 19, 3) := by decide +kernel
theorem dX12_told_84 : decode cX12_told 84 = .ok (.iload_n 1, 1) := by decide +kernel
theorem dX12_told_85 : decode cX12_told 85 = .ok (.laload, 1) := by decide +kernel
theorem dX12_told_86 : decode cX12_told 86 = .ok (.lreturn, 1) := by decide +kernel
theorem dX12_told_87 : decode cX12_told 87 = .ok (.aload_n 0, 1) := by decide +kernel
theorem dX12_told_88 : decode cX12_told 88 = .ok (.getfield 7, 3) := by decide +kernel
theorem dX12_told_91 : decode cX12_told 91 = .ok (.iload_n 1, 1) := by decide +kernel
theorem dX12_told_92 : decode cX12_told 92 = .ok (.iaload, 1) := by decide +kernel
theorem dX12_told_93 : decode cX12_told 93 = .ok (.invokestatic 173, 3) := by decide +kernel
theorem dX12_told_96 : decode cX12_told 96 = .ok (.ifCond .eq 7, 3) := by decide +kernel
theorem dX12_told_99 : decode cX12_told 99 = .ok (.lconst 1, 1) := by decide +kernel
theorem dX12_told_100 : decode cX12_told 100 = .ok (.goto 4, 3) := by decide +kernel
theorem dX12_told_103 : decode cX12_told 103 = .ok (.lconst 0, 1) := by decide +kernel
theorem dX12_told_104 : decode cX12_told 104 = .ok (.lreturn, 1) := by decide +kernel
theorem dX12_told_105 : decode cX12_told 105 = .ok (.aload_n 0, 1) := by decide +kernel
theorem dX12_told_106 : decode cX12_told 106 = .ok (.getfield 7, 3) := by decide +kernel
theorem dX12_told_109 : decode cX12_told 109 = .ok (.iload_n 1, 1) := by decide +kernel
theorem dX12_told_110 : decode cX12_told 110 = .ok (.iaload, 1) := by decide +kernel
theorem dX12_told_111 : decode cX12_told 111 = .ok (.ifCond .ne 7, 3) := by decide +kernel
theorem dX12_told_114 : decode cX12_told 114 = .ok (.lconst 0, 1) := by decide +kernel
theorem dX12_told_115 : decode cX12_told 115 = .ok (.goto 4, 3) := by decide +kernel
theorem dX12_told_118 : decode cX12_told 118 = .ok (.lconst 1, 1) := by decide +kernel
theorem dX12_told_119 : decode cX12_told 119 = .ok (.lreturn, 1) := by decide +kernel
theorem dX12_told_120 : decode cX12_told 120 = .ok (.aload_n 0, 1) := by decide +kernel
theorem dX12_told_121 : decode cX12_told 121 = .ok (.getfield 7, 3) := by decide +kernel
theorem dX12_told_124 : decode cX12_told 124 = .ok (.iload_n 1, 1) := by decide +kernel
theorem dX12_told_125 : decode cX12_told 125 = .ok (.iaload, 1) := by decide +kernel
theorem dX12_told_126 : decode cX12_told 126 = .ok (.invokestatic 176, 3) := by decide +kernel
theorem dX12_told_129 : decode cX12_told 129 = .ok (.ifCond .eq 7, 3) := by decide +kernel
theorem dX12_told_132 : decode cX12_told 132 = .ok (.lconst 1, 1) := by decide +kernel
theorem dX12_told_133 : decode cX12_told 133 = .ok (.goto 4, 3) := by decide +kernel
theorem dX12_told_136 : decode cX12_told 136 = .ok (.lconst 0, 1) := by decide +kernel
theorem dX12_told_137 : decode cX12_told 137 = .ok (.lreturn, 1) := by decide +kernel
theorem dX12_told_138 : decode cX12_told 138 = .ok (.ldc2_w 160, 3) := by decide +kernel
theorem dX12_told_141 : decode cX12_told 141 = .ok (.lreturn, 1) := by decide +kernel
theorem dX12_note_0 : decode cX12_note 0 = .ok (.iload_n 1, 1) := by decide +kernel
theorem dX12_note_1 : decode cX12_note 1 = .ok (.ifCond .lt 17, 3) := by decide +kernel
theorem dX12_note_4 : decode cX12_note 4 = .ok (.iload_n 1, 1) := by decide +kernel
theorem dX12_note_5 : decode cX12_note 5 = .ok (.aload_n 0, 1) := by decide +kernel
theorem dX12_note_6 : decode cX12_note 6 = .ok (.getfield 46, 3) := by decide +kernel
theorem dX12_note_9 : decode cX12_note 9 = .ok (.if_icmp .ge 9, 3) := by decide +kernel
theorem dX12_note_12 : decode cX12_note 12 = .ok (.iload_n 1, 1) := by decide +kernel
theorem dX12_note_13 : decode cX12_note 13 = .ok (.bipush 64, 2) := by decide +kernel
theorem dX12_note_15 : decode cX12_note 15 = .ok (.if_icmp .lt 8, 3) := by decide +kernel
theorem dX12_note_18 : decode cX12_note 18 = .ok (.ldc 166, 2) := by decide +kernel
theorem dX12_note_20 : decode cX12_note 20 = .ok (.goto 9, 3) := by decide +kernel
theorem dX12_note_23 : decode cX12_note 23 = .ok (.aload_n 0, 1) := by decide +kernel
theorem dX12_note_24 : decode cX12_note 24 = .ok (.getfield 35, 3) := by decide +kernel
theorem dX12_note_27 : decode cX12_note 27 = .ok (.iload_n 1, 1) := by decide +kernel
theorem dX12_note_28 : decode cX12_note 28 = .ok (.iaload, 1) := by decide +kernel
theorem dX12_note_29 : decode cX12_note 29 = .ok (.ireturn, 1) := by decide +kernel
theorem dX12_notes_0 : decode cX12_notes 0 = .ok (.aload_n 0, 1) := by decide +kernel
theorem dX12_notes_1 : decode cX12_notes 1 = .ok (.getfield 46, 3) := by decide +kernel
theorem dX12_notes_4 : decode cX12_notes 4 = .ok (.ireturn, 1) := by decide +kernel
