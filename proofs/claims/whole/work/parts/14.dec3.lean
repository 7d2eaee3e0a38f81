theorem dX10_init_0 : decode cX10_init 0 = .ok (.aload_n 0, 1) := by decide +kernel
theorem dX10_init_1 : decode cX10_init 1 = .ok (.invokespecial 1, 3) := by decide +kernel
theorem dX10_init_4 : decode cX10_init 4 = .ok (.aload_n 0, 1) := by decide +kernel
theorem dX10_init_5 : decode cX10_init 5 = .ok (.sipush 1152, 3) := by decide +kernel
theorem dX10_init_8 : decode cX10_init 8 = .ok (.newarray .int, 2) := by decide +kernel
theorem dX10_init_10 : decode cX10_init 10 = .ok (.putfield 9, 3) := by decide +kernel
theorem dX10_init_13 : decode cX10_init 13 = .ok (.aload_n 0, 1) := by decide +kernel
theorem dX10_init_14 : decode cX10_init 14 = .ok (.bipush 60, 2) := by decide +kernel
theorem dX10_init_16 : decode cX10_init 16 = .ok (.newarray .char, 2) := by decide +kernel
theorem dX10_init_18 : decode cX10_init 18 = .ok (.putfield 13, 3) := by decide +kernel
theorem dX10_init_21 : decode cX10_init 21 = .ok (.aload_n 0, 1) := by decide +kernel
theorem dX10_init_22 : decode cX10_init 22 = .ok (.iconst (-1), 1) := by decide +kernel
theorem dX10_init_23 : decode cX10_init 23 = .ok (.putfield 17, 3) := by decide +kernel
theorem dX10_init_26 : decode cX10_init 26 = .ok (.aload_n 0, 1) := by decide +kernel
theorem dX10_init_27 : decode cX10_init 27 = .ok (.sipush 244, 3) := by decide +kernel
theorem dX10_init_30 : decode cX10_init 30 = .ok (.newarray .int, 2) := by decide +kernel
theorem dX10_init_32 : decode cX10_init 32 = .ok (.putfield 21, 3) := by decide +kernel
theorem dX10_init_35 : decode cX10_init 35 = .ok (.aload_n 0, 1) := by decide +kernel
theorem dX10_init_36 : decode cX10_init 36 = .ok (.bipush 24, 2) := by decide +kernel
theorem dX10_init_38 : decode cX10_init 38 = .ok (.newarray .char, 2) := by decide +kernel
theorem dX10_init_40 : decode cX10_init 40 = .ok (.putfield 24, 3) := by decide +kernel
theorem dX10_init_43 : decode cX10_init 43 = .ok (.iconst 0, 1) := by decide +kernel
theorem dX10_init_44 : decode cX10_init 44 = .ok (.istore_n 1, 1) := by decide +kernel
theorem dX10_init_45 : decode cX10_init 45 = .ok (.iload_n 1, 1) := by decide +kernel
theorem dX10_init_46 : decode cX10_init 46 = .ok (.iconst 4, 1) := by decide +kernel
theorem dX10_init_47 : decode cX10_init 47 = .ok (.if_icmp .ge 20, 3) := by decide +kernel
theorem dX10_init_50 : decode cX10_init 50 = .ok (.aload_n 0, 1) := by decide +kernel
theorem dX10_init_51 : decode cX10_init 51 = .ok (.getfield 9, 3) := by decide +kernel
theorem dX10_init_54 : decode cX10_init 54 = .ok (.bipush 9, 2) := by decide +kernel
theorem dX10_init_56 : decode cX10_init 56 = .ok (.iload_n 1, 1) := by decide +kernel
theorem dX10_init_57 : decode cX10_init 57 = .ok (.iadd, 1) := by decide +kernel
theorem dX10_init_58 : decode cX10_init 58 = .ok (.bipush 20, 2) := by decide +kernel
theorem dX10_init_60 : decode cX10_init 60 = .ok (.iastore, 1) := by decide +kernel
theorem dX10_init_61 : decode cX10_init 61 = .ok (.iinc 1 1, 3) := by decide +kernel
theorem dX10_init_64 : decode cX10_init 64 = .ok (.goto (-19), 3) := by decide +kernel
theorem dX10_init_67 : decode cX10_init 67 = .ok (.return_, 1) := by decide +kernel
theorem dX10_thrown_0 : decode cX10_thrown 0 = .ok (.aload_n 0, 1) := by decide +kernel
theorem dX10_thrown_1 : decode cX10_thrown 1 = .ok (.getfield 27, 3) := by decide +kernel
theorem dX10_thrown_4 : decode cX10_thrown 4 = .ok (.ireturn, 1) := by decide +kernel
theorem dX10_in_0 : decode cX10_in 0 = .ok (.iload_n 0, 1) := by decide +kernel
theorem dX10_in_1 : decode cX10_in 1 = .ok (.iload_n 1, 1) := by decide +kernel
theorem dX10_in_2 : decode cX10_in 2 = .ok (.if_icmp .lt 12, 3) := by decide +kernel
theorem dX10_in_5 : decode cX10_in 5 = .ok (.iload_n 0, 1) := by decide +kernel
theorem dX10_in_6 : decode cX10_in 6 = .ok (.iload_n 2, 1) := by decide +kernel
theorem dX10_in_7 : decode cX10_in 7 = .ok (.if_icmp .gt 7, 3) := by decide +kernel
theorem dX10_in_10 : decode cX10_in 10 = .ok (.iconst 1, 1) := by decide +kernel
theorem dX10_in_11 : decode cX10_in 11 = .ok (.goto 4, 3) := by decide +kernel
theorem dX10_in_14 : decode cX10_in 14 = .ok (.iconst 0, 1) := by decide +kernel
theorem dX10_in_15 : decode cX10_in 15 = .ok (.ireturn, 1) := by decide +kernel
theorem dX10_copies_0 : decode cX10_copies 0 = .ok (.iconst 0, 1) := by decide +kernel
theorem dX10_copies_1 : decode cX10_copies 1 = .ok (.istore_n 3, 1) := by decide +kernel
theorem dX10_copies_2 : decode cX10_copies 2 = .ok (.iload_n 3, 1) := by decide +kernel
theorem dX10_copies_3 : decode cX10_copies 3 = .ok (.bipush 96, 2) := by decide +kernel
theorem dX10_copies_5 : decode cX10_copies 5 = .ok (.if_icmp .ge 31, 3) := by decide +kernel
theorem dX10_copies_8 : decode cX10_copies 8 = .ok (.aload_n 0, 1) := by decide +kernel
theorem dX10_copies_9 : decode cX10_copies 9 = .ok (.getfield 9, 3) := by decide +kernel
theorem dX10_copies_12 : decode cX10_copies 12 = .ok (.bipush 96, 2) := by decide +kernel
theorem dX10_copies_14 : decode cX10_copies 14 = .ok (.iload_n 2, 1) := by decide +kernel
theorem dX10_copies_15 : decode cX10_copies 15 = .ok (.imul, 1) := by decide +kernel
theorem dX10_copies_16 : decode cX10_copies 16 = .ok (.iload_n 3, 1) := by decide +kernel
theorem dX10_copies_17 : decode cX10_copies 17 = .ok (.iadd, 1) := by decide +kernel
theorem dX10_copies_18 : decode cX10_copies 18 = .ok (.aload_n 0, 1) := by decide +kernel
theorem dX10_copies_19 : decode cX10_copies 19 = .ok (.getfield 9, 3) := by decide +kernel
theorem dX10_copies_22 : decode cX10_copies 22 = .ok (.bipush 96, 2) := by decide +kernel
theorem dX10_copies_24 : decode cX10_copies 24 = .ok (.iload_n 1, 1) := by decide +kernel
theorem dX10_copies_25 : decode cX10_copies 25 = .ok (.imul, 1) := by decide +kernel
theorem dX10_copies_26 : decode cX10_copies 26 = .ok (.iload_n 3, 1) := by decide +kernel
theorem dX10_copies_27 : decode cX10_copies 27 = .ok (.iadd, 1) := by decide +kernel
theorem dX10_copies_28 : decode cX10_copies 28 = .ok (.iaload, 1) := by decide +kernel
theorem dX10_copies_29 : decode cX10_copies 29 = .ok (.iastore, 1) := by decide +kernel
theorem dX10_copies_30 : decode cX10_copies 30 = .ok (.iinc 3 1, 3) := by decide +kernel
theorem dX10_copies_33 : decode cX10_copies 33 = .ok (.goto (-31), 3) := by decide +kernel
theorem dX10_copies_36 : decode cX10_copies 36 = .ok (.return_, 1) := by decide +kernel
theorem dX10_begins_0 : decode cX10_begins 0 = .ok (.aload_n 0, 1) := by decide +kernel
theorem dX10_begins_1 : decode cX10_begins 1 = .ok (.iconst 0, 1) := by decide +kernel
theorem dX10_begins_2 : decode cX10_begins 2 = .ok (.bipush 10, 2) := by decide +kernel
theorem dX10_begins_4 : decode cX10_begins 4 = .ok (.invokevirtual 30, 3) := by decide +kernel
theorem dX10_begins_7 : decode cX10_begins 7 = .ok (.return_, 1) := by decide +kernel
theorem dX10_ends_0 : decode cX10_ends 0 = .ok (.aload_n 0, 1) := by decide +kernel
theorem dX10_ends_1 : decode cX10_ends 1 = .ok (.iload_n 1, 1) := by decide +kernel
theorem dX10_ends_2 : decode cX10_ends 2 = .ok (.ifCond .eq 7, 3) := by decide +kernel
theorem dX10_ends_5 : decode cX10_ends 5 = .ok (.iconst 0, 1) := by decide +kernel
theorem dX10_ends_6 : decode cX10_ends 6 = .ok (.goto 4, 3) := by decide +kernel
theorem dX10_ends_9 : decode cX10_ends 9 = .ok (.iconst 1, 1) := by decide +kernel
theorem dX10_ends_10 : decode cX10_ends 10 = .ok (.putfield 27, 3) := by decide +kernel
theorem dX10_ends_13 : decode cX10_ends 13 = .ok (.iload_n 1, 1) := by decide +kernel
theorem dX10_ends_14 : decode cX10_ends 14 = .ok (.ifCond .ne 12, 3) := by decide +kernel
theorem dX10_ends_17 : decode cX10_ends 17 = .ok (.aload_n 0, 1) := by decide +kernel
theorem dX10_ends_18 : decode cX10_ends 18 = .ok (.bipush 10, 2) := by decide +kernel
theorem dX10_ends_20 : decode cX10_ends 20 = .ok (.iconst 0, 1) := by decide +kernel
theorem dX10_ends_21 : decode cX10_ends 21 = .ok (.invokevirtual 30, 3) := by decide +kernel
theorem dX10_ends_24 : decode cX10_ends 24 = .ok (.iconst 0, 1) := by decide +kernel
theorem dX10_ends_25 : decode cX10_ends 25 = .ok (.ireturn, 1) := by decide +kernel
theorem dX10_ends_26 : decode cX10_ends 26 = .ok (.aload_n 0, 1) := by decide +kernel
theorem dX10_ends_27 : decode cX10_ends 27 = .ok (.getfield 34, 3) := by decide +kernel
theorem dX10_ends_30 : decode cX10_ends 30 = .ok (.bipush 8, 2) := by decide +kernel
theorem dX10_ends_32 : decode cX10_ends 32 = .ok (.if_icmp .ne 35, 3) := by decide +kernel
theorem dX10_ends_35 : decode cX10_ends 35 = .ok (.iconst 1, 1) := by decide +kernel
theorem dX10_ends_36 : decode cX10_ends 36 = .ok (.istore_n 2, 1) := by decide +kernel
theorem dX10_ends_37 : decode cX10_ends 37 = .ok (.iload_n 2, 1) := by decide +kernel
theorem dX10_ends_38 : decode cX10_ends 38 = .ok (.bipush 8, 2) := by decide +kernel
theorem dX10_ends_40 : decode cX10_ends 40 = .ok (.if_icmp .ge 17, 3) := by decide +kernel
theorem dX10_ends_43 : decode cX10_ends 43 = .ok (.aload_n 0, 1) := by decide +kernel
theorem dX10_ends_44 : decode cX10_ends 44 = .ok (.iload_n 2, 1) := by decide +kernel
theorem dX10_ends_45 : decode cX10_ends 45 = .ok (.iconst 1, 1) := by decide +kernel
theorem dX10_ends_46 : decode cX10_ends 46 = .ok (.iadd, 1) := by decide +kernel
theorem dX10_ends_47 : decode cX10_ends 47 = .ok (.iload_n 2, 1) := by decide +kernel
theorem dX10_ends_48 : decode cX10_ends 48 = .ok (.invokevirtual 30, 3) := by decide +kernel
theorem dX10_ends_51 : decode cX10_ends 51 = .ok (.iinc 2 1, 3) := by decide +kernel
theorem dX10_ends_54 : decode cX10_ends 54 = .ok (.goto (-17), 3) := by decide +kernel
theorem dX10_ends_57 : decode cX10_ends 57 = .ok (.aload_n 0, 1) := by decide +kernel
theorem dX10_ends_58 : decode cX10_ends 58 = .ok (.dup, 1) := by decide +kernel
theorem dX10_ends_59 : decode cX10_ends 59 = .ok (.getfield 34, 3) := by decide +kernel
theorem dX10_ends_62 : decode cX10_ends 62 = .ok (.iconst 1, 1) := by decide +kernel
theorem dX10_ends_63 : decode cX10_ends 63 = .ok (.isub, 1) := by decide +kernel
theorem dX10_ends_64 : decode cX10_ends 64 = .ok (.putfield 34, 3) := by decide +kernel
theorem dX10_ends_67 : decode cX10_ends 67 = .ok (.aload_n 0, 1) := by decide +kernel
theorem dX10_ends_68 : decode cX10_ends 68 = .ok (.dup, 1) := by decide +kernel
theorem dX10_ends_69 : decode cX10_ends 69 = .ok (.getfield 34, 3) := by decide +kernel
theorem dX10_ends_72 : decode cX10_ends 72 = .ok (.iconst 1, 1) := by decide +kernel
theorem dX10_ends_73 : decode cX10_ends 73 = .ok (.iadd, 1) := by decide +kernel
theorem dX10_ends_74 : decode cX10_ends 74 = .ok (.putfield 34, 3) := by decide +kernel
theorem dX10_ends_77 : decode cX10_ends 77 = .ok (.aload_n 0, 1) := by decide +kernel
theorem dX10_ends_78 : decode cX10_ends 78 = .ok (.bipush 10, 2) := by decide +kernel
theorem dX10_ends_80 : decode cX10_ends 80 = .ok (.aload_n 0, 1) := by decide +kernel
theorem dX10_ends_81 : decode cX10_ends 81 = .ok (.getfield 34, 3) := by decide +kernel
theorem dX10_ends_84 : decode cX10_ends 84 = .ok (.invokevirtual 30, 3) := by decide +kernel
theorem dX10_ends_87 : decode cX10_ends 87 = .ok (.aload_n 0, 1) := by decide +kernel
theorem dX10_ends_88 : decode cX10_ends 88 = .ok (.getfield 37, 3) := by decide +kernel
theorem dX10_ends_91 : decode cX10_ends 91 = .ok (.ireturn, 1) := by decide +kernel
theorem dX10_refuses_0 : decode cX10_refuses 0 = .ok (.iload_n 1, 1) := by decide +kernel
theorem dX10_refuses_1 : decode cX10_refuses 1 = .ok (.ifCond .eq 18, 3) := by decide +kernel
theorem dX10_refuses_4 : decode cX10_refuses 4 = .ok (.aload_n 0, 1) := by decide +kernel
theorem dX10_refuses_5 : decode cX10_refuses 5 = .ok (.iload_n 2, 1) := by decide +kernel
theorem dX10_refuses_6 : decode cX10_refuses 6 = .ok (.putfield 40, 3) := by decide +kernel
theorem dX10_refuses_9 : decode cX10_refuses 9 = .ok (.aload_n 0, 1) := by decide +kernel
theorem dX10_refuses_10 : decode cX10_refuses 10 = .ok (.iload_n 3, 1) := by decide +kernel
theorem dX10_refuses_11 : decode cX10_refuses 11 = .ok (.putfield 43, 3) := by decide +kernel
theorem dX10_refuses_14 : decode cX10_refuses 14 = .ok (.aload_n 0, 1) := by decide +kernel
theorem dX10_refuses_15 : decode cX10_refuses 15 = .ok (.iconst 0, 1) := by decide +kernel
theorem dX10_refuses_16 : decode cX10_refuses 16 = .ok (.putfield 46, 3) := by decide +kernel
theorem dX10_refuses_19 : decode cX10_refuses 19 = .ok (.iload_n 1, 1) := by decide +kernel
theorem dX10_refuses_20 : decode cX10_refuses 20 = .ok (.ireturn, 1) := by decide +kernel
theorem dX10_isThere_0 : decode cX10_isThere 0 = .ok (.aload_n 0, 1) := by decide +kernel
theorem dX10_isThere_1 : decode cX10_isThere 1 = .ok (.iload_n 1, 1) := by decide +kernel
theorem dX10_isThere_2 : decode cX10_isThere 2 = .ok (.ifCond .eq 7, 3) := by decide +kernel
theorem dX10_isThere_5 : decode cX10_isThere 5 = .ok (.iconst 0, 1) := by decide +kernel
theorem dX10_isThere_6 : decode cX10_isThere 6 = .ok (.goto 4, 3) := by decide +kernel
theorem dX10_isThere_9 : decode cX10_isThere 9 = .ok (.iconst 1, 1) := by decide +kernel
theorem dX10_isThere_10 : decode cX10_isThere 10 = .ok (.putfield 27, 3) := by decide +kernel
theorem dX10_isThere_13 : decode cX10_isThere 13 = .ok (.iload_n 1, 1) := by decide +kernel
theorem dX10_isThere_14 : decode cX10_isThere 14 = .ok (.ireturn, 1) := by decide +kernel
theorem dX10_reason_0 : decode cX10_reason 0 = .ok (.aload_n 0, 1) := by decide +kernel
theorem dX10_reason_1 : decode cX10_reason 1 = .ok (.iload_n 1, 1) := by decide +kernel
theorem dX10_reason_2 : decode cX10_reason 2 = .ok (.ifCond .eq 10, 3) := by decide +kernel
theorem dX10_reason_5 : decode cX10_reason 5 = .ok (.aload_n 0, 1) := by decide +kernel
theorem dX10_reason_6 : decode cX10_reason 6 = .ok (.getfield 46, 3) := by decide +kernel
theorem dX10_reason_9 : decode cX10_reason 9 = .ok (.goto 7, 3) := by decide +kernel
theorem dX10_reason_12 : decode cX10_reason 12 = .ok (.aload_n 0, 1) := by decide +kernel
theorem dX10_reason_13 : decode cX10_reason 13 = .ok (.getfield 40, 3) := by decide +kernel
theorem dX10_reason_16 : decode cX10_reason 16 = .ok (.ifCond .eq 7, 3) := by decide +kernel
theorem dX10_reason_19 : decode cX10_reason 19 = .ok (.iconst 1, 1) := by decide +kernel
theorem dX10_reason_20 : decode cX10_reason 20 = .ok (.goto 4, 3) := by decide +kernel
theorem dX10_reason_23 : decode cX10_reason 23 = .ok (.iconst 0, 1) := by decide +kernel
theorem dX10_reason_24 : decode cX10_reason 24 = .ok (.invokevirtual 49, 3) := by decide +kernel
theorem dX10_reason_27 : decode cX10_reason 27 = .ok (.ifCond .ne 5, 3) := by decide +kernel
theorem dX10_reason_30 : decode cX10_reason 30 = .ok (.iconst 0, 1) := by decide +kernel
theorem dX10_reason_31 : decode cX10_reason 31 = .ok (.ireturn, 1) := by decide +kernel
theorem dX10_reason_32 : decode cX10_reason 32 = .ok (.iload_n 1, 1) := by decide +kernel
theorem dX10_reason_33 : decode cX10_reason 33 = .ok (.ifCond .eq 21, 3) := by decide +kernel
theorem dX10_reason_36 : decode cX10_reason 36 = .ok (.iload_n 2, 1) := by decide +kernel
theorem dX10_reason_37 : decode cX10_reason 37 = .ok (.ifCond .eq 10, 3) := by decide +kernel
theorem dX10_reason_40 : decode cX10_reason 40 = .ok (.aload_n 0, 1) := by decide +kernel
theorem dX10_reason_41 : decode cX10_reason 41 = .ok (.getfield 53, 3) := by decide +kernel
theorem dX10_reason_44 : decode cX10_reason 44 = .ok (.goto 25, 3) := by decide +kernel
theorem dX10_reason_47 : decode cX10_reason 47 = .ok (.aload_n 0, 1) := by decide +kernel
theorem dX10_reason_48 : decode cX10_reason 48 = .ok (.getfield 46, 3) := by decide +kernel
theorem dX10_reason_51 : decode cX10_reason 51 = .ok (.goto 18, 3) := by decide +kernel
theorem dX10_reason_54 : decode cX10_reason 54 = .ok (.iload_n 2, 1) := by decide +kernel
theorem dX10_reason_55 : decode cX10_reason 55 = .ok (.ifCond .eq 10, 3) := by decide +kernel
theorem dX10_reason_58 : decode cX10_reason 58 = .ok (.aload_n 0, 1) := by decide +kernel
theorem dX10_reason_59 : decode cX10_reason 59 = .ok (.getfield 43, 3) := by decide +kernel
theorem dX10_reason_62 : decode cX10_reason 62 = .ok (.goto 7, 3) := by decide +kernel
theorem dX10_reason_65 : decode cX10_reason 65 = .ok (.aload_n 0, 1) := by decide +kernel
theorem dX10_reason_66 : decode cX10_reason 66 = .ok (.getfield 40, 3) := by decide +kernel
theorem dX10_reason_69 : decode cX10_reason 69 = .ok (.ireturn, 1) := by decide +kernel
theorem dX10_c_0 : decode cX10_c 0 = .ok (.aload_n 0, 1) := by decide +kernel
theorem dX10_c_1 : decode cX10_c 1 = .ok (.getfield 9, 3) := by decide +kernel
theorem dX10_c_4 : decode cX10_c 4 = .ok (.bipush 19, 2) := by decide +kernel
theorem dX10_c_6 : decode cX10_c 6 = .ok (.bipush 7, 2) := by decide +kernel
theorem dX10_c_8 : decode cX10_c 8 = .ok (.iload_n 1, 1) := by decide +kernel
theorem dX10_c_9 : decode cX10_c 9 = .ok (.imul, 1) := by decide +kernel
theorem dX10_c_10 : decode cX10_c 10 = .ok (.iadd, 1) := by decide +kernel
theorem dX10_c_11 : decode cX10_c 11 = .ok (.iload_n 2, 1) := by decide +kernel
theorem dX10_c_12 : decode cX10_c 12 = .ok (.iadd, 1) := by decide +kernel
theorem dX10_c_13 : decode cX10_c 13 = .ok (.iaload, 1) := by decide +kernel
theorem dX10_c_14 : decode cX10_c 14 = .ok (.ireturn, 1) := by decide +kernel
theorem dX10_set_0 : decode cX10_set 0 = .ok (.aload_n 0, 1) := by decide +kernel
theorem dX10_set_1 : decode cX10_set 1 = .ok (.getfield 9, 3) := by decide +kernel
theorem dX10_set_4 : decode cX10_set 4 = .ok (.bipush 19, 2) := by decide +kernel
theorem dX10_set_6 : decode cX10_set 6 = .ok (.bipush 7, 2) := by decide +kernel
theorem dX10_set_8 : decode cX10_set 8 = .ok (.iload_n 1, 1) := by decide +kernel
theorem dX10_set_9 : decode cX10_set 9 = .ok (.imul, 1) := by decide +kernel
theorem dX10_set_10 : decode cX10_set 10 = .ok (.iadd, 1) := by decide +kernel
theorem dX10_set_11 : decode cX10_set 11 = .ok (.iload_n 2, 1) := by decide +kernel
theorem dX10_set_12 : decode cX10_set 12 = .ok (.iadd, 1) := by decide +kernel
theorem dX10_set_13 : decode cX10_set 13 = .ok (.iload_n 3, 1) := by decide +kernel
theorem dX10_set_14 : decode cX10_set 14 = .ok (.iastore, 1) := by decide +kernel
theorem dX10_set_15 : decode cX10_set 15 = .ok (.return_, 1) := by decide +kernel
theorem dX10_isCloud_0 : decode cX10_isCloud 0 = .ok (.iload_n 1, 1) := by decide +kernel
theorem dX10_isCloud_1 : decode cX10_isCloud 1 = .ok (.iconst 0, 1) := by decide +kernel
theorem dX10_isCloud_2 : decode cX10_isCloud 2 = .ok (.aload_n 0, 1) := by decide +kernel
theorem dX10_isCloud_3 : decode cX10_isCloud 3 = .ok (.getfield 9, 3) := by decide +kernel
theorem dX10_isCloud_6 : decode cX10_isCloud 6 = .ok (.iconst 0, 1) := by decide +kernel
theorem dX10_isCloud_7 : decode cX10_isCloud 7 = .ok (.iaload, 1) := by decide +kernel
theorem dX10_isCloud_8 : decode cX10_isCloud 8 = .ok (.iconst 1, 1) := by decide +kernel
theorem dX10_isCloud_9 : decode cX10_isCloud 9 = .ok (.isub, 1) := by decide +kernel
theorem dX10_isCloud_10 : decode cX10_isCloud 10 = .ok (.invokestatic 56, 3) := by decide +kernel
theorem dX10_isCloud_13 : decode cX10_isCloud 13 = .ok (.ireturn, 1) := by decide +kernel
theorem dX10_isOwner_0 : decode cX10_isOwner 0 = .ok (.iload_n 0, 1) := by decide +kernel
theorem dX10_isOwner_1 : decode cX10_isOwner 1 = .ok (.iconst 0, 1) := by decide +kernel
theorem dX10_isOwner_2 : decode cX10_isOwner 2 = .ok (.iconst 3, 1) := by decide +kernel
theorem dX10_isOwner_3 : decode cX10_isOwner 3 = .ok (.invokestatic 56, 3) := by decide +kernel
theorem dX10_isOwner_6 : decode cX10_isOwner 6 = .ok (.ireturn, 1) := by decide +kernel
theorem dX10_isVine_0 : decode cX10_isVine 0 = .ok (.iload_n 0, 1) := by decide +kernel
theorem dX10_isVine_1 : decode cX10_isVine 1 = .ok (.iconst 0, 1) := by decide +kernel
theorem dX10_isVine_2 : decode cX10_isVine 2 = .ok (.iconst 5, 1) := by decide +kernel
theorem dX10_isVine_3 : decode cX10_isVine 3 = .ok (.invokestatic 56, 3) := by decide +kernel
theorem dX10_isVine_6 : decode cX10_isVine 6 = .ok (.ireturn, 1) := by decide +kernel
theorem dX10_ownerAt_0 : decode cX10_ownerAt 0 = .ok (.aload_n 0, 1) := by decide +kernel
theorem dX10_ownerAt_1 : decode cX10_ownerAt 1 = .ok (.iload_n 1, 1) := by decide +kernel
theorem dX10_ownerAt_2 : decode cX10_ownerAt 2 = .ok (.iconst 3, 1) := by decide +kernel
theorem dX10_ownerAt_3 : decode cX10_ownerAt 3 = .ok (.invokevirtual 60, 3) := by decide +kernel
theorem dX10_ownerAt_6 : decode cX10_ownerAt 6 = .ok (.iconst 1, 1) := by decide +kernel
theorem dX10_ownerAt_7 : decode cX10_ownerAt 7 = .ok (.isub, 1) := by decide +kernel
theorem dX10_ownerAt_8 : decode cX10_ownerAt 8 = .ok (.ireturn, 1) := by decide +kernel
theorem dX10_lenderAt_0 : decode cX10_lenderAt 0 = .ok (.aload_n 0, 1) := by decide +kernel
theorem dX10_lenderAt_1 : decode cX10_lenderAt 1 = .ok (.iload_n 1, 1) := by decide +kernel
theorem dX10_lenderAt_2 : decode cX10_lenderAt 2 = .ok (.iconst 5, 1) := by decide +kernel
theorem dX10_lenderAt_3 : decode cX10_lenderAt 3 = .ok (.invokevirtual 60, 3) := by decide +kernel
theorem dX10_lenderAt_6 : decode cX10_lenderAt 6 = .ok (.iconst 1, 1) := by decide +kernel
theorem dX10_lenderAt_7 : decode cX10_lenderAt 7 = .ok (.isub, 1) := by decide +kernel
theorem dX10_lenderAt_8 : decode cX10_lenderAt 8 = .ok (.ireturn, 1) := by decide +kernel
theorem dX10_coinsAt_0 : decode cX10_coinsAt 0 = .ok (.aload_n 0, 1) := by decide +kernel
theorem dX10_coinsAt_1 : decode cX10_coinsAt 1 = .ok (.getfield 9, 3) := by decide +kernel
theorem dX10_coinsAt_4 : decode cX10_coinsAt 4 = .ok (.bipush 9, 2) := by decide +kernel
theorem dX10_coinsAt_6 : decode cX10_coinsAt 6 = .ok (.iload_n 1, 1) := by decide +kernel
theorem dX10_coinsAt_7 : decode cX10_coinsAt 7 = .ok (.iadd, 1) := by decide +kernel
theorem dX10_coinsAt_8 : decode cX10_coinsAt 8 = .ok (.iaload, 1) := by decide +kernel
theorem dX10_coinsAt_9 : decode cX10_coinsAt 9 = .ok (.ireturn, 1) := by decide +kernel
theorem dX10_pays_0 : decode cX10_pays 0 = .ok (.aload_n 0, 1) := by decide +kernel
theorem dX10_pays_1 : decode cX10_pays 1 = .ok (.getfield 9, 3) := by decide +kernel
theorem dX10_pays_4 : decode cX10_pays 4 = .ok (.bipush 9, 2) := by decide +kernel
theorem dX10_pays_6 : decode cX10_pays 6 = .ok (.iload_n 1, 1) := by decide +kernel
theorem dX10_pays_7 : decode cX10_pays 7 = .ok (.iadd, 1) := by decide +kernel
theorem dX10_pays_8 : decode cX10_pays 8 = .ok (.dup2, 1) := by decide +kernel
theorem dX10_pays_9 : decode cX10_pays 9 = .ok (.iaload, 1) := by decide +kernel
theorem dX10_pays_10 : decode cX10_pays 10 = .ok (.iload_n 2, 1) := by decide +kernel
theorem dX10_pays_11 : decode cX10_pays 11 = .ok (.isub, 1) := by decide +kernel
theorem dX10_pays_12 : decode cX10_pays 12 = .ok (.iastore, 1) := by decide +kernel
theorem dX10_pays_13 : decode cX10_pays 13 = .ok (.return_, 1) := by decide +kernel
theorem dX10_gets_0 : decode cX10_gets 0 = .ok (.aload_n 0, 1) := by decide +kernel
theorem dX10_gets_1 : decode cX10_gets 1 = .ok (.iload_n 1, 1) := by decide +kernel
theorem dX10_gets_2 : decode cX10_gets 2 = .ok (.iconst 3, 1) := by decide +kernel
theorem dX10_gets_3 : decode cX10_gets 3 = .ok (.iload_n 2, 1) := by decide +kernel
theorem dX10_gets_4 : decode cX10_gets 4 = .ok (.iconst 1, 1) := by decide +kernel
theorem dX10_gets_5 : decode cX10_gets 5 = .ok (.iadd, 1) := by decide +kernel
theorem dX10_gets_6 : decode cX10_gets 6 = .ok (.invokevirtual 64, 3) := by decide +kernel
theorem dX10_gets_9 : decode cX10_gets 9 = .ok (.aload_n 0, 1) := by decide +kernel
theorem dX10_gets_10 : decode cX10_gets 10 = .ok (.iload_n 1, 1) := by decide +kernel
theorem dX10_gets_11 : decode cX10_gets 11 = .ok (.iconst 4, 1) := by decide +kernel
theorem dX10_gets_12 : decode cX10_gets 12 = .ok (.aload_n 0, 1) := by decide +kernel
theorem dX10_gets_13 : decode cX10_gets 13 = .ok (.iload_n 1, 1) := by decide +kernel
theorem dX10_gets_14 : decode cX10_gets 14 = .ok (.iconst 1, 1) := by decide +kernel
theorem dX10_gets_15 : decode cX10_gets 15 = .ok (.invokevirtual 60, 3) := by decide +kernel
theorem dX10_gets_18 : decode cX10_gets 18 = .ok (.invokevirtual 64, 3) := by decide +kernel
theorem dX10_gets_21 : decode cX10_gets 21 = .ok (.return_, 1) := by decide +kernel
theorem dX10_frees_0 : decode cX10_frees 0 = .ok (.aload_n 0, 1) := by decide +kernel
theorem dX10_frees_1 : decode cX10_frees 1 = .ok (.iload_n 1, 1) := by decide +kernel
theorem dX10_frees_2 : decode cX10_frees 2 = .ok (.iconst 5, 1) := by decide +kernel
theorem dX10_frees_3 : decode cX10_frees 3 = .ok (.iconst 0, 1) := by decide +kernel
theorem dX10_frees_4 : decode cX10_frees 4 = .ok (.invokevirtual 64, 3) := by decide +kernel
theorem dX10_frees_7 : decode cX10_frees 7 = .ok (.aload_n 0, 1) := by decide +kernel
theorem dX10_frees_8 : decode cX10_frees 8 = .ok (.iload_n 1, 1) := by decide +kernel
theorem dX10_frees_9 : decode cX10_frees 9 = .ok (.bipush 6, 2) := by decide +kernel
theorem dX10_frees_11 : decode cX10_frees 11 = .ok (.iconst 0, 1) := by decide +kernel
theorem dX10_frees_12 : decode cX10_frees 12 = .ok (.invokevirtual 64, 3) := by decide +kernel
theorem dX10_frees_15 : decode cX10_frees 15 = .ok (.return_, 1) := by decide +kernel
theorem dX10_comes_0 : decode cX10_comes 0 = .ok (.aload_n 0, 1) := by decide +kernel
theorem dX10_comes_1 : decode cX10_comes 1 = .ok (.iload_n 1, 1) := by decide +kernel
theorem dX10_comes_2 : decode cX10_comes 2 = .ok (.invokestatic 68, 3) := by decide +kernel
theorem dX10_comes_5 : decode cX10_comes 5 = .ok (.ifCond .ne 7, 3) := by decide +kernel
theorem dX10_comes_8 : decode cX10_comes 8 = .ok (.iconst 1, 1) := by decide +kernel
theorem dX10_comes_9 : decode cX10_comes 9 = .ok (.goto 4, 3) := by decide +kernel
theorem dX10_comes_12 : decode cX10_comes 12 = .ok (.iconst 0, 1) := by decide +kernel
theorem dX10_comes_13 : decode cX10_comes 13 = .ok (.iconst 2, 1) := by decide +kernel
theorem dX10_comes_14 : decode cX10_comes 14 = .ok (.iload_n 1, 1) := by decide +kernel
theorem dX10_comes_15 : decode cX10_comes 15 = .ok (.invokevirtual 72, 3) := by decide +kernel
theorem dX10_comes_18 : decode cX10_comes 18 = .ok (.ifCond .ne 50, 3) := by decide +kernel
theorem dX10_comes_21 : decode cX10_comes 21 = .ok (.aload_n 0, 1) := by decide +kernel
theorem dX10_comes_22 : decode cX10_comes 22 = .ok (.iload_n 2, 1) := by decide +kernel
theorem dX10_comes_23 : decode cX10_comes 23 = .ok (.iconst 0, 1) := by decide +kernel
theorem dX10_comes_24 : decode cX10_comes 24 = .ok (.iconst 5, 1) := by decide +kernel
theorem dX10_comes_25 : decode cX10_comes 25 = .ok (.invokestatic 56, 3) := by decide +kernel
theorem dX10_comes_28 : decode cX10_comes 28 = .ok (.ifCond .ne 7, 3) := by decide +kernel
theorem dX10_comes_31 : decode cX10_comes 31 = .ok (.iconst 1, 1) := by decide +kernel
theorem dX10_comes_32 : decode cX10_comes 32 = .ok (.goto 4, 3) := by decide +kernel
theorem dX10_comes_35 : decode cX10_comes 35 = .ok (.iconst 0, 1) := by decide +kernel
theorem dX10_comes_36 : decode cX10_comes 36 = .ok (.iconst 3, 1) := by decide +kernel
theorem dX10_comes_37 : decode cX10_comes 37 = .ok (.iload_n 2, 1) := by decide +kernel
theorem dX10_comes_38 : decode cX10_comes 38 = .ok (.invokevirtual 72, 3) := by decide +kernel
theorem dX10_comes_41 : decode cX10_comes 41 = .ok (.ifCond .ne 27, 3) := by decide +kernel
theorem dX10_comes_44 : decode cX10_comes 44 = .ok (.aload_n 0, 1) := by decide +kernel
theorem dX10_comes_45 : decode cX10_comes 45 = .ok (.iload_n 3, 1) := by decide +kernel
theorem dX10_comes_46 : decode cX10_comes 46 = .ok (.iconst 1, 1) := by decide +kernel
theorem dX10_comes_47 : decode cX10_comes 47 = .ok (.bipush 9, 2) := by decide +kernel
theorem dX10_comes_49 : decode cX10_comes 49 = .ok (.invokestatic 56, 3) := by decide +kernel
theorem dX10_comes_52 : decode cX10_comes 52 = .ok (.ifCond .ne 7, 3) := by decide +kernel
theorem dX10_comes_55 : decode cX10_comes 55 = .ok (.iconst 1, 1) := by decide +kernel
theorem dX10_comes_56 : decode cX10_comes 56 = .ok (.goto 4, 3) := by decide +kernel
theorem dX10_comes_59 : decode cX10_comes 59 = .ok (.iconst 0, 1) := by decide +kernel
theorem dX10_comes_60 : decode cX10_comes 60 = .ok (.iconst 3, 1) := by decide +kernel
theorem dX10_comes_61 : decode cX10_comes 61 = .ok (.iload_n 3, 1) := by decide +kernel
theorem dX10_comes_62 : decode cX10_comes 62 = .ok (.invokevirtual 72, 3) := by decide +kernel
theorem dX10_comes_65 : decode cX10_comes 65 = .ok (.ifCond .eq 5, 3) := by decide +kernel
theorem dX10_comes_68 : decode cX10_comes 68 = .ok (.iconst 0, 1) := by decide +kernel
theorem dX10_comes_69 : decode cX10_comes 69 = .ok (.ireturn, 1) := by decide +kernel
theorem dX10_comes_70 : decode cX10_comes 70 = .ok (.aload_n 0, 1) := by decide +kernel
theorem dX10_comes_71 : decode cX10_comes 71 = .ok (.getfield 9, 3) := by decide +kernel
theorem dX10_comes_74 : decode cX10_comes 74 = .ok (.iconst 0, 1) := by decide +kernel
theorem dX10_comes_75 : decode cX10_comes 75 = .ok (.iaload, 1) := by decide +kernel
theorem dX10_comes_76 : decode cX10_comes 76 = .ok (.istore 4, 2) := by decide +kernel
theorem dX10_comes_78 : decode cX10_comes 78 = .ok (.aload_n 0, 1) := by decide +kernel
theorem dX10_comes_79 : decode cX10_comes 79 = .ok (.iload 4, 2) := by decide +kernel
theorem dX10_comes_81 : decode cX10_comes 81 = .ok (.bipush 6, 2) := by decide +kernel
theorem dX10_comes_83 : decode cX10_comes 83 = .ok (.if_icmp .ne 7, 3) := by decide +kernel
theorem dX10_comes_86 : decode cX10_comes 86 = .ok (.iconst 1, 1) := by decide +kernel
theorem dX10_comes_87 : decode cX10_comes 87 = .ok (.goto 4, 3) := by decide +kernel
theorem dX10_comes_90 : decode cX10_comes 90 = .ok (.iconst 0, 1) := by decide +kernel
theorem dX10_comes_91 : decode cX10_comes 91 = .ok (.iconst 1, 1) := by decide +kernel
theorem dX10_comes_92 : decode cX10_comes 92 = .ok (.bipush 6, 2) := by decide +kernel
theorem dX10_comes_94 : decode cX10_comes 94 = .ok (.invokevirtual 72, 3) := by decide +kernel
theorem dX10_comes_97 : decode cX10_comes 97 = .ok (.ifCond .eq 5, 3) := by decide +kernel
theorem dX10_comes_100 : decode cX10_comes 100 = .ok (.iconst 0, 1) := by decide +kernel
theorem dX10_comes_101 : decode cX10_comes 101 = .ok (.ireturn, 1) := by decide +kernel
theorem dX10_comes_102 : decode cX10_comes 102 = .ok (.aload_n 0, 1) := by decide +kernel
theorem dX10_comes_103 : decode cX10_comes 103 = .ok (.getfield 9, 3) := by decide +kernel
theorem dX10_comes_106 : decode cX10_comes 106 = .ok (.iconst 0, 1) := by decide +kernel
theorem dX10_comes_107 : decode cX10_comes 107 = .ok (.dup2, 1) := by decide +kernel
theorem dX10_comes_108 : decode cX10_comes 108 = .ok (.iaload, 1) := by decide +kernel
theorem dX10_comes_109 : decode cX10_comes 109 = .ok (.iconst 1, 1) := by decide +kernel
theorem dX10_comes_110 : decode cX10_comes 110 = .ok (.iadd, 1) := by decide +kernel
theorem dX10_comes_111 : decode cX10_comes 111 = .ok (.iastore, 1) := by decide +kernel
theorem dX10_comes_112 : decode cX10_comes 112 = .ok (.iconst 0, 1) := by decide +kernel
theorem dX10_comes_113 : decode cX10_comes 113 = .ok (.istore 5, 2) := by decide +kernel
theorem dX10_comes_115 : decode cX10_comes 115 = .ok (.iload 5, 2) := by decide +kernel
theorem dX10_comes_117 : decode cX10_comes 117 = .ok (.bipush 7, 2) := by decide +kernel
theorem dX10_comes_119 : decode cX10_comes 119 = .ok (.if_icmp .ge 18, 3) := by decide +kernel
theorem dX10_comes_122 : decode cX10_comes 122 = .ok (.aload_n 0, 1) := by decide +kernel
theorem dX10_comes_123 : decode cX10_comes 123 = .ok (.iload 4, 2) := by decide +kernel
theorem dX10_comes_125 : decode cX10_comes 125 = .ok (.iload 5, 2) := by decide +kernel
theorem dX10_comes_127 : decode cX10_comes 127 = .ok (.iconst 0, 1) := by decide +kernel
theorem dX10_comes_128 : decode cX10_comes 128 = .ok (.invokevirtual 64, 3) := by decide +kernel
theorem dX10_comes_131 : decode cX10_comes 131 = .ok (.iinc 5 1, 3) := by decide +kernel
theorem dX10_comes_134 : decode cX10_comes 134 = .ok (.goto (-19), 3) := by decide +kernel
theorem dX10_comes_137 : decode cX10_comes 137 = .ok (.aload_n 0, 1) := by decide +kernel
theorem dX10_comes_138 : decode cX10_comes 138 = .ok (.iload 4, 2) := by decide +kernel
theorem dX10_comes_140 : decode cX10_comes 140 = .ok (.iconst 0, 1) := by decide +kernel
theorem dX10_comes_141 : decode cX10_comes 141 = .ok (.iload_n 1, 1) := by decide +kernel
theorem dX10_comes_142 : decode cX10_comes 142 = .ok (.invokevirtual 64, 3) := by decide +kernel
theorem dX10_comes_145 : decode cX10_comes 145 = .ok (.aload_n 0, 1) := by decide +kernel
theorem dX10_comes_146 : decode cX10_comes 146 = .ok (.iload 4, 2) := by decide +kernel
theorem dX10_comes_148 : decode cX10_comes 148 = .ok (.iconst 1, 1) := by decide +kernel
theorem dX10_comes_149 : decode cX10_comes 149 = .ok (.iload_n 2, 1) := by decide +kernel
theorem dX10_comes_150 : decode cX10_comes 150 = .ok (.invokevirtual 64, 3) := by decide +kernel
theorem dX10_comes_153 : decode cX10_comes 153 = .ok (.aload_n 0, 1) := by decide +kernel
theorem dX10_comes_154 : decode cX10_comes 154 = .ok (.iload 4, 2) := by decide +kernel
theorem dX10_comes_156 : decode cX10_comes 156 = .ok (.iconst 2, 1) := by decide +kernel
theorem dX10_comes_157 : decode cX10_comes 157 = .ok (.iload_n 3, 1) := by decide +kernel
theorem dX10_comes_158 : decode cX10_comes 158 = .ok (.invokevirtual 64, 3) := by decide +kernel
theorem dX10_comes_161 : decode cX10_comes 161 = .ok (.aload_n 0, 1) := by decide +kernel
theorem dX10_comes_162 : decode cX10_comes 162 = .ok (.iload 4, 2) := by decide +kernel
theorem dX10_comes_164 : decode cX10_comes 164 = .ok (.putfield 37, 3) := by decide +kernel
theorem dX10_comes_167 : decode cX10_comes 167 = .ok (.iconst 1, 1) := by decide +kernel
theorem dX10_comes_168 : decode cX10_comes 168 = .ok (.ireturn, 1) := by decide +kernel
theorem dX10_cloud_0 : decode cX10_cloud 0 = .ok (.aload_n 0, 1) := by decide +kernel
theorem dX10_cloud_1 : decode cX10_cloud 1 = .ok (.invokevirtual 76, 3) := by decide +kernel
theorem dX10_cloud_4 : decode cX10_cloud 4 = .ok (.aload_n 0, 1) := by decide +kernel
theorem dX10_cloud_5 : decode cX10_cloud 5 = .ok (.aload_n 0, 1) := by decide +kernel
theorem dX10_cloud_6 : decode cX10_cloud 6 = .ok (.iload_n 1, 1) := by decide +kernel
theorem dX10_cloud_7 : decode cX10_cloud 7 = .ok (.iload_n 2, 1) := by decide +kernel
theorem dX10_cloud_8 : decode cX10_cloud 8 = .ok (.iload_n 3, 1) := by decide +kernel
theorem dX10_cloud_9 : decode cX10_cloud 9 = .ok (.invokevirtual 79, 3) := by decide +kernel
theorem dX10_cloud_12 : decode cX10_cloud 12 = .ok (.invokevirtual 82, 3) := by decide +kernel
theorem dX10_cloud_15 : decode cX10_cloud 15 = .ok (.ireturn, 1) := by decide +kernel
theorem dX10_owned_0 : decode cX10_owned 0 = .ok (.iconst 0, 1) := by decide +kernel
theorem dX10_owned_1 : decode cX10_owned 1 = .ok (.istore_n 1, 1) := by decide +kernel
theorem dX10_owned_2 : decode cX10_owned 2 = .ok (.iconst 0, 1) := by decide +kernel
theorem dX10_owned_3 : decode cX10_owned 3 = .ok (.istore_n 2, 1) := by decide +kernel
theorem dX10_owned_4 : decode cX10_owned 4 = .ok (.iload_n 2, 1) := by decide +kernel
theorem dX10_owned_5 : decode cX10_owned 5 = .ok (.bipush 6, 2) := by decide +kernel
theorem dX10_owned_7 : decode cX10_owned 7 = .ok (.if_icmp .ge 29, 3) := by decide +kernel
theorem dX10_owned_10 : decode cX10_owned 10 = .ok (.iload_n 1, 1) := by decide +kernel
theorem dX10_owned_11 : decode cX10_owned 11 = .ok (.aload_n 0, 1) := by decide +kernel
theorem dX10_owned_12 : decode cX10_owned 12 = .ok (.getfield 9, 3) := by decide +kernel
theorem dX10_owned_15 : decode cX10_owned 15 = .ok (.bipush 13, 2) := by decide +kernel
theorem dX10_owned_17 : decode cX10_owned 17 = .ok (.iload_n 2, 1) := by decide +kernel
theorem dX10_owned_18 : decode cX10_owned 18 = .ok (.iadd, 1) := by decide +kernel
theorem dX10_owned_19 : decode cX10_owned 19 = .ok (.iaload, 1) := by decide +kernel
theorem dX10_owned_20 : decode cX10_owned 20 = .ok (.ifCond .le 7, 3) := by decide +kernel
theorem dX10_owned_23 : decode cX10_owned 23 = .ok (.iconst 1, 1) := by decide +kernel
theorem dX10_owned_24 : decode cX10_owned 24 = .ok (.goto 4, 3) := by decide +kernel
theorem dX10_owned_27 : decode cX10_owned 27 = .ok (.iconst 0, 1) := by decide +kernel
theorem dX10_owned_28 : decode cX10_owned 28 = .ok (.iadd, 1) := by decide +kernel
theorem dX10_owned_29 : decode cX10_owned 29 = .ok (.istore_n 1, 1) := by decide +kernel
theorem dX10_owned_30 : decode cX10_owned 30 = .ok (.iinc 2 1, 3) := by decide +kernel
theorem dX10_owned_33 : decode cX10_owned 33 = .ok (.goto (-29), 3) := by decide +kernel
theorem dX10_owned_36 : decode cX10_owned 36 = .ok (.iload_n 1, 1) := by decide +kernel
theorem dX10_owned_37 : decode cX10_owned 37 = .ok (.ireturn, 1) := by decide +kernel
theorem dX10_belongs_0 : decode cX10_belongs 0 = .ok (.aload_n 0, 1) := by decide +kernel
theorem dX10_belongs_1 : decode cX10_belongs 1 = .ok (.iload_n 1, 1) := by decide +kernel
theorem dX10_belongs_2 : decode cX10_belongs 2 = .ok (.invokestatic 68, 3) := by decide +kernel
theorem dX10_belongs_5 : decode cX10_belongs 5 = .ok (.ifCond .ne 7, 3) := by decide +kernel
theorem dX10_belongs_8 : decode cX10_belongs 8 = .ok (.iconst 1, 1) := by decide +kernel
theorem dX10_belongs_9 : decode cX10_belongs 9 = .ok (.goto 4, 3) := by decide +kernel
theorem dX10_belongs_12 : decode cX10_belongs 12 = .ok (.iconst 0, 1) := by decide +kernel
theorem dX10_belongs_13 : decode cX10_belongs 13 = .ok (.iconst 2, 1) := by decide +kernel
theorem dX10_belongs_14 : decode cX10_belongs 14 = .ok (.iload_n 1, 1) := by decide +kernel
theorem dX10_belongs_15 : decode cX10_belongs 15 = .ok (.invokevirtual 72, 3) := by decide +kernel
theorem dX10_belongs_18 : decode cX10_belongs 18 = .ok (.ifCond .ne 55, 3) := by decide +kernel
theorem dX10_belongs_21 : decode cX10_belongs 21 = .ok (.aload_n 0, 1) := by decide +kernel
theorem dX10_belongs_22 : decode cX10_belongs 22 = .ok (.iload_n 2, 1) := by decide +kernel
theorem dX10_belongs_23 : decode cX10_belongs 23 = .ok (.iconst (-1), 1) := by decide +kernel
theorem dX10_belongs_24 : decode cX10_belongs 24 = .ok (.iconst 3, 1) := by decide +kernel
theorem dX10_belongs_25 : decode cX10_belongs 25 = .ok (.invokestatic 56, 3) := by decide +kernel
theorem dX10_belongs_28 : decode cX10_belongs 28 = .ok (.ifCond .ne 7, 3) := by decide +kernel
theorem dX10_belongs_31 : decode cX10_belongs 31 = .ok (.iconst 1, 1) := by decide +kernel
theorem dX10_belongs_32 : decode cX10_belongs 32 = .ok (.goto 4, 3) := by decide +kernel
theorem dX10_belongs_35 : decode cX10_belongs 35 = .ok (.iconst 0, 1) := by decide +kernel
theorem dX10_belongs_36 : decode cX10_belongs 36 = .ok (.iconst 2, 1) := by decide +kernel
theorem dX10_belongs_37 : decode cX10_belongs 37 = .ok (.iload_n 2, 1) := by decide +kernel
theorem dX10_belongs_38 : decode cX10_belongs 38 = .ok (.invokevirtual 72, 3) := by decide +kernel
theorem dX10_belongs_41 : decode cX10_belongs 41 = .ok (.ifCond .ne 32, 3) := by decide +kernel
theorem dX10_belongs_44 : decode cX10_belongs 44 = .ok (.aload_n 0, 1) := by decide +kernel
theorem dX10_belongs_45 : decode cX10_belongs 45 = .ok (.aload_n 0, 1) := by decide +kernel
theorem dX10_belongs_46 : decode cX10_belongs 46 = .ok (.getfield 9, 3) := by decide +kernel
theorem dX10_belongs_49 : decode cX10_belongs 49 = .ok (.bipush 13, 2) := by decide +kernel
theorem dX10_belongs_51 : decode cX10_belongs 51 = .ok (.iload_n 1, 1) := by decide +kernel
theorem dX10_belongs_52 : decode cX10_belongs 52 = .ok (.iadd, 1) := by decide +kernel
theorem dX10_belongs_53 : decode cX10_belongs 53 = .ok (.iaload, 1) := by decide +kernel
theorem dX10_belongs_54 : decode cX10_belongs 54 = .ok (.iload_n 2, 1) := by decide +kernel
theorem dX10_belongs_55 : decode cX10_belongs 55 = .ok (.iconst 1, 1) := by decide +kernel
theorem dX10_belongs_56 : decode cX10_belongs 56 = .ok (.iadd, 1) := by decide +kernel
theorem dX10_belongs_57 : decode cX10_belongs 57 = .ok (.if_icmp .ne 7, 3) := by decide +kernel
theorem dX10_belongs_60 : decode cX10_belongs 60 = .ok (.iconst 1, 1) := by decide +kernel
theorem dX10_belongs_61 : decode cX10_belongs 61 = .ok (.goto 4, 3) := by decide +kernel
theorem dX10_belongs_64 : decode cX10_belongs 64 = .ok (.iconst 0, 1) := by decide +kernel
theorem dX10_belongs_65 : decode cX10_belongs 65 = .ok (.iconst 4, 1) := by decide +kernel
theorem dX10_belongs_66 : decode cX10_belongs 66 = .ok (.iload_n 2, 1) := by decide +kernel
theorem dX10_belongs_67 : decode cX10_belongs 67 = .ok (.invokevirtual 72, 3) := by decide +kernel
theorem dX10_belongs_70 : decode cX10_belongs 70 = .ok (.ifCond .eq 5, 3) := by decide +kernel
theorem dX10_belongs_73 : decode cX10_belongs 73 = .ok (.iconst 0, 1) := by decide +kernel
theorem dX10_belongs_74 : decode cX10_belongs 74 = .ok (.ireturn, 1) := by decide +kernel
theorem dX10_belongs_75 : decode cX10_belongs 75 = .ok (.aload_n 0, 1) := by decide +kernel
theorem dX10_belongs_76 : decode cX10_belongs 76 = .ok (.getfield 9, 3) := by decide +kernel
theorem dX10_belongs_79 : decode cX10_belongs 79 = .ok (.bipush 13, 2) := by decide +kernel
theorem dX10_belongs_81 : decode cX10_belongs 81 = .ok (.iload_n 1, 1) := by decide +kernel
theorem dX10_belongs_82 : decode cX10_belongs 82 = .ok (.iadd, 1) := by decide +kernel
theorem dX10_belongs_83 : decode cX10_belongs 83 = .ok (.iload_n 2, 1) := by decide +kernel
theorem dX10_belongs_84 : decode cX10_belongs 84 = .ok (.iconst 1, 1) := by decide +kernel
theorem dX10_belongs_85 : decode cX10_belongs 85 = .ok (.iadd, 1) := by decide +kernel
theorem dX10_belongs_86 : decode cX10_belongs 86 = .ok (.iastore, 1) := by decide +kernel
theorem dX10_belongs_87 : decode cX10_belongs 87 = .ok (.aload_n 0, 1) := by decide +kernel
theorem dX10_belongs_88 : decode cX10_belongs 88 = .ok (.aload_n 0, 1) := by decide +kernel
theorem dX10_belongs_89 : decode cX10_belongs 89 = .ok (.invokevirtual 86, 3) := by decide +kernel
theorem dX10_belongs_92 : decode cX10_belongs 92 = .ok (.putfield 37, 3) := by decide +kernel
theorem dX10_belongs_95 : decode cX10_belongs 95 = .ok (.iconst 1, 1) := by decide +kernel
theorem dX10_belongs_96 : decode cX10_belongs 96 = .ok (.ireturn, 1) := by decide +kernel
theorem dX10_vine_0 : decode cX10_vine 0 = .ok (.aload_n 0, 1) := by decide +kernel
theorem dX10_vine_1 : decode cX10_vine 1 = .ok (.invokevirtual 76, 3) := by decide +kernel
theorem dX10_vine_4 : decode cX10_vine 4 = .ok (.aload_n 0, 1) := by decide +kernel
theorem dX10_vine_5 : decode cX10_vine 5 = .ok (.aload_n 0, 1) := by decide +kernel
theorem dX10_vine_6 : decode cX10_vine 6 = .ok (.iload_n 1, 1) := by decide +kernel
theorem dX10_vine_7 : decode cX10_vine 7 = .ok (.iload_n 2, 1) := by decide +kernel
theorem dX10_vine_8 : decode cX10_vine 8 = .ok (.invokevirtual 90, 3) := by decide +kernel
theorem dX10_vine_11 : decode cX10_vine 11 = .ok (.invokevirtual 82, 3) := by decide +kernel
theorem dX10_vine_14 : decode cX10_vine 14 = .ok (.ireturn, 1) := by decide +kernel
theorem dX10_entitles_0 : decode cX10_entitles 0 = .ok (.aload_n 0, 1) := by decide +kernel
theorem dX10_entitles_1 : decode cX10_entitles 1 = .ok (.aload_n 0, 1) := by decide +kernel
theorem dX10_entitles_2 : decode cX10_entitles 2 = .ok (.iload_n 1, 1) := by decide +kernel
theorem dX10_entitles_3 : decode cX10_entitles 3 = .ok (.invokevirtual 94, 3) := by decide +kernel
theorem dX10_entitles_6 : decode cX10_entitles 6 = .ok (.ifCond .ne 7, 3) := by decide +kernel
theorem dX10_entitles_9 : decode cX10_entitles 9 = .ok (.iconst 1, 1) := by decide +kernel
theorem dX10_entitles_10 : decode cX10_entitles 10 = .ok (.goto 4, 3) := by decide +kernel
theorem dX10_entitles_13 : decode cX10_entitles 13 = .ok (.iconst 0, 1) := by decide +kernel
theorem dX10_entitles_14 : decode cX10_entitles 14 = .ok (.iconst 2, 1) := by decide +kernel
theorem dX10_entitles_15 : decode cX10_entitles 15 = .ok (.iload_n 1, 1) := by decide +kernel
theorem dX10_entitles_16 : decode cX10_entitles 16 = .ok (.invokevirtual 72, 3) := by decide +kernel
theorem dX10_entitles_19 : decode cX10_entitles 19 = .ok (.ifCond .ne 50, 3) := by decide +kernel
theorem dX10_entitles_22 : decode cX10_entitles 22 = .ok (.aload_n 0, 1) := by decide +kernel
theorem dX10_entitles_23 : decode cX10_entitles 23 = .ok (.iload_n 2, 1) := by decide +kernel
theorem dX10_entitles_24 : decode cX10_entitles 24 = .ok (.invokestatic 97, 3) := by decide +kernel
theorem dX10_entitles_27 : decode cX10_entitles 27 = .ok (.ifCond .ne 7, 3) := by decide +kernel
theorem dX10_entitles_30 : decode cX10_entitles 30 = .ok (.iconst 1, 1) := by decide +kernel
theorem dX10_entitles_31 : decode cX10_entitles 31 = .ok (.goto 4, 3) := by decide +kernel
theorem dX10_entitles_34 : decode cX10_entitles 34 = .ok (.iconst 0, 1) := by decide +kernel
theorem dX10_entitles_35 : decode cX10_entitles 35 = .ok (.iconst 2, 1) := by decide +kernel
theorem dX10_entitles_36 : decode cX10_entitles 36 = .ok (.iload_n 2, 1) := by decide +kernel
theorem dX10_entitles_37 : decode cX10_entitles 37 = .ok (.invokevirtual 72, 3) := by decide +kernel
theorem dX10_entitles_40 : decode cX10_entitles 40 = .ok (.ifCond .ne 29, 3) := by decide +kernel
theorem dX10_entitles_43 : decode cX10_entitles 43 = .ok (.aload_n 0, 1) := by decide +kernel
theorem dX10_entitles_44 : decode cX10_entitles 44 = .ok (.aload_n 0, 1) := by decide +kernel
theorem dX10_entitles_45 : decode cX10_entitles 45 = .ok (.iload_n 1, 1) := by decide +kernel
theorem dX10_entitles_46 : decode cX10_entitles 46 = .ok (.invokevirtual 100, 3) := by decide +kernel
theorem dX10_entitles_49 : decode cX10_entitles 49 = .ok (.ifCond .lt 7, 3) := by decide +kernel
theorem dX10_entitles_52 : decode cX10_entitles 52 = .ok (.iconst 1, 1) := by decide +kernel
theorem dX10_entitles_53 : decode cX10_entitles 53 = .ok (.goto 4, 3) := by decide +kernel
theorem dX10_entitles_56 : decode cX10_entitles 56 = .ok (.iconst 0, 1) := by decide +kernel
theorem dX10_entitles_57 : decode cX10_entitles 57 = .ok (.iconst 5, 1) := by decide +kernel
theorem dX10_entitles_58 : decode cX10_entitles 58 = .ok (.aload_n 0, 1) := by decide +kernel
theorem dX10_entitles_59 : decode cX10_entitles 59 = .ok (.iload_n 1, 1) := by decide +kernel
theorem dX10_entitles_60 : decode cX10_entitles 60 = .ok (.invokevirtual 100, 3) := by decide +kernel
theorem dX10_entitles_63 : decode cX10_entitles 63 = .ok (.invokevirtual 72, 3) := by decide +kernel
theorem dX10_entitles_66 : decode cX10_entitles 66 = .ok (.ifCond .eq 5, 3) := by decide +kernel
theorem dX10_entitles_69 : decode cX10_entitles 69 = .ok (.iconst 0, 1) := by decide +kernel
theorem dX10_entitles_70 : decode cX10_entitles 70 = .ok (.ireturn, 1) := by decide +kernel
theorem dX10_entitles_71 : decode cX10_entitles 71 = .ok (.aload_n 0, 1) := by decide +kernel
theorem dX10_entitles_72 : decode cX10_entitles 72 = .ok (.iload_n 1, 1) := by decide +kernel
theorem dX10_entitles_73 : decode cX10_entitles 73 = .ok (.iconst 2, 1) := by decide +kernel
theorem dX10_entitles_74 : decode cX10_entitles 74 = .ok (.invokevirtual 60, 3) := by decide +kernel
theorem dX10_entitles_77 : decode cX10_entitles 77 = .ok (.istore_n 3, 1) := by decide +kernel
theorem dX10_entitles_78 : decode cX10_entitles 78 = .ok (.aload_n 0, 1) := by decide +kernel
theorem dX10_entitles_79 : decode cX10_entitles 79 = .ok (.aload_n 0, 1) := by decide +kernel
theorem dX10_entitles_80 : decode cX10_entitles 80 = .ok (.iload_n 2, 1) := by decide +kernel
theorem dX10_entitles_81 : decode cX10_entitles 81 = .ok (.invokevirtual 104, 3) := by decide +kernel
theorem dX10_entitles_84 : decode cX10_entitles 84 = .ok (.iload_n 3, 1) := by decide +kernel
theorem dX10_entitles_85 : decode cX10_entitles 85 = .ok (.if_icmp .ge 7, 3) := by decide +kernel
theorem dX10_entitles_88 : decode cX10_entitles 88 = .ok (.iconst 1, 1) := by decide +kernel
theorem dX10_entitles_89 : decode cX10_entitles 89 = .ok (.goto 4, 3) := by decide +kernel
theorem dX10_entitles_92 : decode cX10_entitles 92 = .ok (.iconst 0, 1) := by decide +kernel
theorem dX10_entitles_93 : decode cX10_entitles 93 = .ok (.bipush 7, 2) := by decide +kernel
theorem dX10_entitles_95 : decode cX10_entitles 95 = .ok (.aload_n 0, 1) := by decide +kernel
theorem dX10_entitles_96 : decode cX10_entitles 96 = .ok (.iload_n 2, 1) := by decide +kernel
theorem dX10_entitles_97 : decode cX10_entitles 97 = .ok (.invokevirtual 104, 3) := by decide +kernel
theorem dX10_entitles_100 : decode cX10_entitles 100 = .ok (.invokevirtual 72, 3) := by decide +kernel
theorem dX10_entitles_103 : decode cX10_entitles 103 = .ok (.ifCond .eq 5, 3) := by decide +kernel
theorem dX10_entitles_106 : decode cX10_entitles 106 = .ok (.iconst 0, 1) := by decide +kernel
theorem dX10_entitles_107 : decode cX10_entitles 107 = .ok (.ireturn, 1) := by decide +kernel
theorem dX10_entitles_108 : decode cX10_entitles 108 = .ok (.aload_n 0, 1) := by decide +kernel
theorem dX10_entitles_109 : decode cX10_entitles 109 = .ok (.iload_n 2, 1) := by decide +kernel
theorem dX10_entitles_110 : decode cX10_entitles 110 = .ok (.iload_n 3, 1) := by decide +kernel
theorem dX10_entitles_111 : decode cX10_entitles 111 = .ok (.invokevirtual 107, 3) := by decide +kernel
theorem dX10_entitles_114 : decode cX10_entitles 114 = .ok (.aload_n 0, 1) := by decide +kernel
theorem dX10_entitles_115 : decode cX10_entitles 115 = .ok (.getfield 9, 3) := by decide +kernel
theorem dX10_entitles_118 : decode cX10_entitles 118 = .ok (.bipush 6, 2) := by decide +kernel
theorem dX10_entitles_120 : decode cX10_entitles 120 = .ok (.dup2, 1) := by decide +kernel
theorem dX10_entitles_121 : decode cX10_entitles 121 = .ok (.iaload, 1) := by decide +kernel
theorem dX10_entitles_122 : decode cX10_entitles 122 = .ok (.iload_n 3, 1) := by decide +kernel
theorem dX10_entitles_123 : decode cX10_entitles 123 = .ok (.iadd, 1) := by decide +kernel
theorem dX10_entitles_124 : decode cX10_entitles 124 = .ok (.iastore, 1) := by decide +kernel
theorem dX10_entitles_125 : decode cX10_entitles 125 = .ok (.aload_n 0, 1) := by decide +kernel
theorem dX10_entitles_126 : decode cX10_entitles 126 = .ok (.iload_n 1, 1) := by decide +kernel
theorem dX10_entitles_127 : decode cX10_entitles 127 = .ok (.iload_n 2, 1) := by decide +kernel
theorem dX10_entitles_128 : decode cX10_entitles 128 = .ok (.invokevirtual 110, 3) := by decide +kernel
theorem dX10_entitles_131 : decode cX10_entitles 131 = .ok (.aload_n 0, 1) := by decide +kernel
theorem dX10_entitles_132 : decode cX10_entitles 132 = .ok (.aload_n 0, 1) := by decide +kernel
theorem dX10_entitles_133 : decode cX10_entitles 133 = .ok (.iload_n 2, 1) := by decide +kernel
theorem dX10_entitles_134 : decode cX10_entitles 134 = .ok (.invokevirtual 104, 3) := by decide +kernel
theorem dX10_entitles_137 : decode cX10_entitles 137 = .ok (.putfield 37, 3) := by decide +kernel
theorem dX10_entitles_140 : decode cX10_entitles 140 = .ok (.iconst 1, 1) := by decide +kernel
theorem dX10_entitles_141 : decode cX10_entitles 141 = .ok (.ireturn, 1) := by decide +kernel
theorem dX10_title_0 : decode cX10_title 0 = .ok (.aload_n 0, 1) := by decide +kernel
theorem dX10_title_1 : decode cX10_title 1 = .ok (.invokevirtual 76, 3) := by decide +kernel
theorem dX10_title_4 : decode cX10_title 4 = .ok (.aload_n 0, 1) := by decide +kernel
theorem dX10_title_5 : decode cX10_title 5 = .ok (.aload_n 0, 1) := by decide +kernel
theorem dX10_title_6 : decode cX10_title 6 = .ok (.iload_n 1, 1) := by decide +kernel
theorem dX10_title_7 : decode cX10_title 7 = .ok (.iload_n 2, 1) := by decide +kernel
theorem dX10_title_8 : decode cX10_title 8 = .ok (.invokevirtual 113, 3) := by decide +kernel
theorem dX10_title_11 : decode cX10_title 11 = .ok (.invokevirtual 82, 3) := by decide +kernel
theorem dX10_title_14 : decode cX10_title 14 = .ok (.ireturn, 1) := by decide +kernel
theorem dX10_isHeld_0 : decode cX10_isHeld 0 = .ok (.aload_n 0, 1) := by decide +kernel
theorem dX10_isHeld_1 : decode cX10_isHeld 1 = .ok (.aload_n 0, 1) := by decide +kernel
theorem dX10_isHeld_2 : decode cX10_isHeld 2 = .ok (.iload_n 1, 1) := by decide +kernel
theorem dX10_isHeld_3 : decode cX10_isHeld 3 = .ok (.invokevirtual 100, 3) := by decide +kernel
theorem dX10_isHeld_6 : decode cX10_isHeld 6 = .ok (.ifCond .ge 7, 3) := by decide +kernel
theorem dX10_isHeld_9 : decode cX10_isHeld 9 = .ok (.iconst 1, 1) := by decide +kernel
theorem dX10_isHeld_10 : decode cX10_isHeld 10 = .ok (.goto 4, 3) := by decide +kernel
theorem dX10_isHeld_13 : decode cX10_isHeld 13 = .ok (.iconst 0, 1) := by decide +kernel
theorem dX10_isHeld_14 : decode cX10_isHeld 14 = .ok (.bipush 6, 2) := by decide +kernel
theorem dX10_isHeld_16 : decode cX10_isHeld 16 = .ok (.iload_n 1, 1) := by decide +kernel
theorem dX10_isHeld_17 : decode cX10_isHeld 17 = .ok (.invokevirtual 72, 3) := by decide +kernel
theorem dX10_isHeld_20 : decode cX10_isHeld 20 = .ok (.ifCond .ne 81, 3) := by decide +kernel
theorem dX10_isHeld_23 : decode cX10_isHeld 23 = .ok (.aload_n 0, 1) := by decide +kernel
theorem dX10_isHeld_24 : decode cX10_isHeld 24 = .ok (.aload_n 0, 1) := by decide +kernel
theorem dX10_isHeld_25 : decode cX10_isHeld 25 = .ok (.iload_n 1, 1) := by decide +kernel
theorem dX10_isHeld_26 : decode cX10_isHeld 26 = .ok (.invokevirtual 100, 3) := by decide +kernel
theorem dX10_isHeld_29 : decode cX10_isHeld 29 = .ok (.iload_n 2, 1) := by decide +kernel
theorem dX10_isHeld_30 : decode cX10_isHeld 30 = .ok (.if_icmp .ne 7, 3) := by decide +kernel
theorem dX10_isHeld_33 : decode cX10_isHeld 33 = .ok (.iconst 1, 1) := by decide +kernel
theorem dX10_isHeld_34 : decode cX10_isHeld 34 = .ok (.goto 4, 3) := by decide +kernel
theorem dX10_isHeld_37 : decode cX10_isHeld 37 = .ok (.iconst 0, 1) := by decide +kernel
theorem dX10_isHeld_38 : decode cX10_isHeld 38 = .ok (.iconst 4, 1) := by decide +kernel
theorem dX10_isHeld_39 : decode cX10_isHeld 39 = .ok (.iload_n 2, 1) := by decide +kernel
theorem dX10_isHeld_40 : decode cX10_isHeld 40 = .ok (.invokevirtual 72, 3) := by decide +kernel
theorem dX10_isHeld_43 : decode cX10_isHeld 43 = .ok (.ifCond .ne 58, 3) := by decide +kernel
theorem dX10_isHeld_46 : decode cX10_isHeld 46 = .ok (.aload_n 0, 1) := by decide +kernel
theorem dX10_isHeld_47 : decode cX10_isHeld 47 = .ok (.aload_n 0, 1) := by decide +kernel
theorem dX10_isHeld_48 : decode cX10_isHeld 48 = .ok (.iload_n 1, 1) := by decide +kernel
theorem dX10_isHeld_49 : decode cX10_isHeld 49 = .ok (.invokevirtual 116, 3) := by decide +kernel
theorem dX10_isHeld_52 : decode cX10_isHeld 52 = .ok (.ifCond .lt 7, 3) := by decide +kernel
theorem dX10_isHeld_55 : decode cX10_isHeld 55 = .ok (.iconst 1, 1) := by decide +kernel
theorem dX10_isHeld_56 : decode cX10_isHeld 56 = .ok (.goto 4, 3) := by decide +kernel
theorem dX10_isHeld_59 : decode cX10_isHeld 59 = .ok (.iconst 0, 1) := by decide +kernel
theorem dX10_isHeld_60 : decode cX10_isHeld 60 = .ok (.bipush 8, 2) := by decide +kernel
theorem dX10_isHeld_62 : decode cX10_isHeld 62 = .ok (.aload_n 0, 1) := by decide +kernel
theorem dX10_isHeld_63 : decode cX10_isHeld 63 = .ok (.iload_n 1, 1) := by decide +kernel
theorem dX10_isHeld_64 : decode cX10_isHeld 64 = .ok (.invokevirtual 116, 3) := by decide +kernel
theorem dX10_isHeld_67 : decode cX10_isHeld 67 = .ok (.invokevirtual 72, 3) := by decide +kernel
theorem dX10_isHeld_70 : decode cX10_isHeld 70 = .ok (.ifCond .ne 31, 3) := by decide +kernel
theorem dX10_isHeld_73 : decode cX10_isHeld 73 = .ok (.aload_n 0, 1) := by decide +kernel
theorem dX10_isHeld_74 : decode cX10_isHeld 74 = .ok (.aload_n 0, 1) := by decide +kernel
theorem dX10_isHeld_75 : decode cX10_isHeld 75 = .ok (.iload_n 2, 1) := by decide +kernel
theorem dX10_isHeld_76 : decode cX10_isHeld 76 = .ok (.invokevirtual 104, 3) := by decide +kernel
theorem dX10_isHeld_79 : decode cX10_isHeld 79 = .ok (.iload_n 3, 1) := by decide +kernel
theorem dX10_isHeld_80 : decode cX10_isHeld 80 = .ok (.if_icmp .ge 7, 3) := by decide +kernel
theorem dX10_isHeld_83 : decode cX10_isHeld 83 = .ok (.iconst 1, 1) := by decide +kernel
theorem dX10_isHeld_84 : decode cX10_isHeld 84 = .ok (.goto 4, 3) := by decide +kernel
theorem dX10_isHeld_87 : decode cX10_isHeld 87 = .ok (.iconst 0, 1) := by decide +kernel
theorem dX10_isHeld_88 : decode cX10_isHeld 88 = .ok (.bipush 7, 2) := by decide +kernel
theorem dX10_isHeld_90 : decode cX10_isHeld 90 = .ok (.aload_n 0, 1) := by decide +kernel
theorem dX10_isHeld_91 : decode cX10_isHeld 91 = .ok (.iload_n 2, 1) := by decide +kernel
theorem dX10_isHeld_92 : decode cX10_isHeld 92 = .ok (.invokevirtual 104, 3) := by decide +kernel
theorem dX10_isHeld_95 : decode cX10_isHeld 95 = .ok (.invokevirtual 72, 3) := by decide +kernel
theorem dX10_isHeld_98 : decode cX10_isHeld 98 = .ok (.ifCond .eq 7, 3) := by decide +kernel
theorem dX10_isHeld_101 : decode cX10_isHeld 101 = .ok (.iconst 1, 1) := by decide +kernel
theorem dX10_isHeld_102 : decode cX10_isHeld 102 = .ok (.goto 4, 3) := by decide +kernel
theorem dX10_isHeld_105 : decode cX10_isHeld 105 = .ok (.iconst 0, 1) := by decide +kernel
theorem dX10_isHeld_106 : decode cX10_isHeld 106 = .ok (.ireturn, 1) := by decide +kernel
theorem dX10_sells_0 : decode cX10_sells 0 = .ok (.aload_n 0, 1) := by decide +kernel
theorem dX10_sells_1 : decode cX10_sells 1 = .ok (.aload_n 0, 1) := by decide +kernel
theorem dX10_sells_2 : decode cX10_sells 2 = .ok (.iload_n 1, 1) := by decide +kernel
theorem dX10_sells_3 : decode cX10_sells 3 = .ok (.invokevirtual 94, 3) := by decide +kernel
theorem dX10_sells_6 : decode cX10_sells 6 = .ok (.ifCond .ne 7, 3) := by decide +kernel
theorem dX10_sells_9 : decode cX10_sells 9 = .ok (.iconst 1, 1) := by decide +kernel
theorem dX10_sells_10 : decode cX10_sells 10 = .ok (.goto 4, 3) := by decide +kernel
theorem dX10_sells_13 : decode cX10_sells 13 = .ok (.iconst 0, 1) := by decide +kernel
theorem dX10_sells_14 : decode cX10_sells 14 = .ok (.iconst 2, 1) := by decide +kernel
theorem dX10_sells_15 : decode cX10_sells 15 = .ok (.iload_n 1, 1) := by decide +kernel
theorem dX10_sells_16 : decode cX10_sells 16 = .ok (.invokevirtual 72, 3) := by decide +kernel
theorem dX10_sells_19 : decode cX10_sells 19 = .ok (.ifCond .ne 58, 3) := by decide +kernel
theorem dX10_sells_22 : decode cX10_sells 22 = .ok (.aload_n 0, 1) := by decide +kernel
theorem dX10_sells_23 : decode cX10_sells 23 = .ok (.iload_n 2, 1) := by decide +kernel
theorem dX10_sells_24 : decode cX10_sells 24 = .ok (.invokestatic 97, 3) := by decide +kernel
theorem dX10_sells_27 : decode cX10_sells 27 = .ok (.ifCond .ne 7, 3) := by decide +kernel
theorem dX10_sells_30 : decode cX10_sells 30 = .ok (.iconst 1, 1) := by decide +kernel
theorem dX10_sells_31 : decode cX10_sells 31 = .ok (.goto 4, 3) := by decide +kernel
theorem dX10_sells_34 : decode cX10_sells 34 = .ok (.iconst 0, 1) := by decide +kernel
theorem dX10_sells_35 : decode cX10_sells 35 = .ok (.iconst 2, 1) := by decide +kernel
theorem dX10_sells_36 : decode cX10_sells 36 = .ok (.iload_n 2, 1) := by decide +kernel
theorem dX10_sells_37 : decode cX10_sells 37 = .ok (.invokevirtual 72, 3) := by decide +kernel
theorem dX10_sells_40 : decode cX10_sells 40 = .ok (.ifCond .ne 37, 3) := by decide +kernel
theorem dX10_sells_43 : decode cX10_sells 43 = .ok (.aload_n 0, 1) := by decide +kernel
theorem dX10_sells_44 : decode cX10_sells 44 = .ok (.iload_n 3, 1) := by decide +kernel
theorem dX10_sells_45 : decode cX10_sells 45 = .ok (.iconst 0, 1) := by decide +kernel
theorem dX10_sells_46 : decode cX10_sells 46 = .ok (.bipush 99, 2) := by decide +kernel
theorem dX10_sells_48 : decode cX10_sells 48 = .ok (.invokestatic 56, 3) := by decide +kernel
theorem dX10_sells_51 : decode cX10_sells 51 = .ok (.ifCond .ne 7, 3) := by decide +kernel
theorem dX10_sells_54 : decode cX10_sells 54 = .ok (.iconst 1, 1) := by decide +kernel
theorem dX10_sells_55 : decode cX10_sells 55 = .ok (.goto 4, 3) := by decide +kernel
theorem dX10_sells_58 : decode cX10_sells 58 = .ok (.iconst 0, 1) := by decide +kernel
theorem dX10_sells_59 : decode cX10_sells 59 = .ok (.iconst 3, 1) := by decide +kernel
theorem dX10_sells_60 : decode cX10_sells 60 = .ok (.iload_n 3, 1) := by decide +kernel
theorem dX10_sells_61 : decode cX10_sells 61 = .ok (.invokevirtual 72, 3) := by decide +kernel
theorem dX10_sells_64 : decode cX10_sells 64 = .ok (.ifCond .ne 13, 3) := by decide +kernel
theorem dX10_sells_67 : decode cX10_sells 67 = .ok (.aload_n 0, 1) := by decide +kernel
theorem dX10_sells_68 : decode cX10_sells 68 = .ok (.iload_n 1, 1) := by decide +kernel
theorem dX10_sells_69 : decode cX10_sells 69 = .ok (.iload_n 2, 1) := by decide +kernel
theorem dX10_sells_70 : decode cX10_sells 70 = .ok (.iload_n 3, 1) := by decide +kernel
theorem dX10_sells_71 : decode cX10_sells 71 = .ok (.invokevirtual 119, 3) := by decide +kernel
theorem dX10_sells_74 : decode cX10_sells 74 = .ok (.ifCond .eq 5, 3) := by decide +kernel
theorem dX10_sells_77 : decode cX10_sells 77 = .ok (.iconst 0, 1) := by decide +kernel
theorem dX10_sells_78 : decode cX10_sells 78 = .ok (.ireturn, 1) := by decide +kernel
theorem dX10_sells_79 : decode cX10_sells 79 = .ok (.aload_n 0, 1) := by decide +kernel
theorem dX10_sells_80 : decode cX10_sells 80 = .ok (.iload_n 1, 1) := by decide +kernel
theorem dX10_sells_81 : decode cX10_sells 81 = .ok (.invokevirtual 100, 3) := by decide +kernel
theorem dX10_sells_84 : decode cX10_sells 84 = .ok (.istore 4, 2) := by decide +kernel
theorem dX10_sells_86 : decode cX10_sells 86 = .ok (.aload_n 0, 1) := by decide +kernel
theorem dX10_sells_87 : decode cX10_sells 87 = .ok (.iload_n 2, 1) := by decide +kernel
theorem dX10_sells_88 : decode cX10_sells 88 = .ok (.iload_n 3, 1) := by decide +kernel
theorem dX10_sells_89 : decode cX10_sells 89 = .ok (.invokevirtual 107, 3) := by decide +kernel
theorem dX10_sells_92 : decode cX10_sells 92 = .ok (.aload_n 0, 1) := by decide +kernel
theorem dX10_sells_93 : decode cX10_sells 93 = .ok (.iload 4, 2) := by decide +kernel
theorem dX10_sells_95 : decode cX10_sells 95 = .ok (.iload_n 3, 1) := by decide +kernel
theorem dX10_sells_96 : decode cX10_sells 96 = .ok (.ineg, 1) := by decide +kernel
theorem dX10_sells_97 : decode cX10_sells 97 = .ok (.invokevirtual 107, 3) := by decide +kernel
theorem dX10_sells_100 : decode cX10_sells 100 = .ok (.aload_n 0, 1) := by decide +kernel
theorem dX10_sells_101 : decode cX10_sells 101 = .ok (.iload_n 1, 1) := by decide +kernel
theorem dX10_sells_102 : decode cX10_sells 102 = .ok (.iload_n 2, 1) := by decide +kernel
theorem dX10_sells_103 : decode cX10_sells 103 = .ok (.invokevirtual 110, 3) := by decide +kernel
theorem dX10_sells_106 : decode cX10_sells 106 = .ok (.aload_n 0, 1) := by decide +kernel
theorem dX10_sells_107 : decode cX10_sells 107 = .ok (.aload_n 0, 1) := by decide +kernel
theorem dX10_sells_108 : decode cX10_sells 108 = .ok (.iload 4, 2) := by decide +kernel
theorem dX10_sells_110 : decode cX10_sells 110 = .ok (.invokevirtual 104, 3) := by decide +kernel
theorem dX10_sells_113 : decode cX10_sells 113 = .ok (.putfield 37, 3) := by decide +kernel
theorem dX10_sells_116 : decode cX10_sells 116 = .ok (.iconst 1, 1) := by decide +kernel
theorem dX10_sells_117 : decode cX10_sells 117 = .ok (.ireturn, 1) := by decide +kernel
theorem dX10_sell_0 : decode cX10_sell 0 = .ok (.aload_n 0, 1) := by decide +kernel
theorem dX10_sell_1 : decode cX10_sell 1 = .ok (.invokevirtual 76, 3) := by decide +kernel
theorem dX10_sell_4 : decode cX10_sell 4 = .ok (.aload_n 0, 1) := by decide +kernel
theorem dX10_sell_5 : decode cX10_sell 5 = .ok (.aload_n 0, 1) := by decide +kernel
theorem dX10_sell_6 : decode cX10_sell 6 = .ok (.iload_n 1, 1) := by decide +kernel
theorem dX10_sell_7 : decode cX10_sell 7 = .ok (.iload_n 2, 1) := by decide +kernel
theorem dX10_sell_8 : decode cX10_sell 8 = .ok (.iload_n 3, 1) := by decide +kernel
theorem dX10_sell_9 : decode cX10_sell 9 = .ok (.invokevirtual 122, 3) := by decide +kernel
theorem dX10_sell_12 : decode cX10_sell 12 = .ok (.invokevirtual 82, 3) := by decide +kernel
theorem dX10_sell_15 : decode cX10_sell 15 = .ok (.ireturn, 1) := by decide +kernel
theorem dX10_pledges_0 : decode cX10_pledges 0 = .ok (.aload_n 0, 1) := by decide +kernel
theorem dX10_pledges_1 : decode cX10_pledges 1 = .ok (.aload_n 0, 1) := by decide +kernel
theorem dX10_pledges_2 : decode cX10_pledges 2 = .ok (.iload_n 1, 1) := by decide +kernel
theorem dX10_pledges_3 : decode cX10_pledges 3 = .ok (.invokevirtual 94, 3) := by decide +kernel
theorem dX10_pledges_6 : decode cX10_pledges 6 = .ok (.ifCond .ne 7, 3) := by decide +kernel
theorem dX10_pledges_9 : decode cX10_pledges 9 = .ok (.iconst 1, 1) := by decide +kernel
theorem dX10_pledges_10 : decode cX10_pledges 10 = .ok (.goto 4, 3) := by decide +kernel
theorem dX10_pledges_13 : decode cX10_pledges 13 = .ok (.iconst 0, 1) := by decide +kernel
theorem dX10_pledges_14 : decode cX10_pledges 14 = .ok (.iconst 2, 1) := by decide +kernel
theorem dX10_pledges_15 : decode cX10_pledges 15 = .ok (.iload_n 1, 1) := by decide +kernel
theorem dX10_pledges_16 : decode cX10_pledges 16 = .ok (.invokevirtual 72, 3) := by decide +kernel
theorem dX10_pledges_19 : decode cX10_pledges 19 = .ok (.ifCond .ne 41, 3) := by decide +kernel
theorem dX10_pledges_22 : decode cX10_pledges 22 = .ok (.aload_n 0, 1) := by decide +kernel
theorem dX10_pledges_23 : decode cX10_pledges 23 = .ok (.iload_n 2, 1) := by decide +kernel
theorem dX10_pledges_24 : decode cX10_pledges 24 = .ok (.invokestatic 97, 3) := by decide +kernel
theorem dX10_pledges_27 : decode cX10_pledges 27 = .ok (.ifCond .ne 7, 3) := by decide +kernel
theorem dX10_pledges_30 : decode cX10_pledges 30 = .ok (.iconst 1, 1) := by decide +kernel
theorem dX10_pledges_31 : decode cX10_pledges 31 = .ok (.goto 4, 3) := by decide +kernel
theorem dX10_pledges_34 : decode cX10_pledges 34 = .ok (.iconst 0, 1) := by decide +kernel
theorem dX10_pledges_35 : decode cX10_pledges 35 = .ok (.iconst 2, 1) := by decide +kernel
theorem dX10_pledges_36 : decode cX10_pledges 36 = .ok (.iload_n 2, 1) := by decide +kernel
theorem dX10_pledges_37 : decode cX10_pledges 37 = .ok (.invokevirtual 72, 3) := by decide +kernel
theorem dX10_pledges_40 : decode cX10_pledges 40 = .ok (.ifCond .ne 20, 3) := by decide +kernel
theorem dX10_pledges_43 : decode cX10_pledges 43 = .ok (.aload_n 0, 1) := by decide +kernel
theorem dX10_pledges_44 : decode cX10_pledges 44 = .ok (.iload_n 1, 1) := by decide +kernel
theorem dX10_pledges_45 : decode cX10_pledges 45 = .ok (.iload_n 2, 1) := by decide +kernel
theorem dX10_pledges_46 : decode cX10_pledges 46 = .ok (.iconst 2, 1) := by decide +kernel
theorem dX10_pledges_47 : decode cX10_pledges 47 = .ok (.aload_n 0, 1) := by decide +kernel
theorem dX10_pledges_48 : decode cX10_pledges 48 = .ok (.iload_n 1, 1) := by decide +kernel
theorem dX10_pledges_49 : decode cX10_pledges 49 = .ok (.iconst 2, 1) := by decide +kernel
theorem dX10_pledges_50 : decode cX10_pledges 50 = .ok (.invokevirtual 60, 3) := by decide +kernel
theorem dX10_pledges_53 : decode cX10_pledges 53 = .ok (.imul, 1) := by decide +kernel
theorem dX10_pledges_54 : decode cX10_pledges 54 = .ok (.invokevirtual 119, 3) := by decide +kernel
theorem dX10_pledges_57 : decode cX10_pledges 57 = .ok (.ifCond .eq 5, 3) := by decide +kernel
theorem dX10_pledges_60 : decode cX10_pledges 60 = .ok (.iconst 0, 1) := by decide +kernel
theorem dX10_pledges_61 : decode cX10_pledges 61 = .ok (.ireturn, 1) := by decide +kernel
theorem dX10_pledges_62 : decode cX10_pledges 62 = .ok (.aload_n 0, 1) := by decide +kernel
theorem dX10_pledges_63 : decode cX10_pledges 63 = .ok (.iconst 2, 1) := by decide +kernel
theorem dX10_pledges_64 : decode cX10_pledges 64 = .ok (.aload_n 0, 1) := by decide +kernel
theorem dX10_pledges_65 : decode cX10_pledges 65 = .ok (.iload_n 1, 1) := by decide +kernel
theorem dX10_pledges_66 : decode cX10_pledges 66 = .ok (.iconst 2, 1) := by decide +kernel
theorem dX10_pledges_67 : decode cX10_pledges 67 = .ok (.invokevirtual 60, 3) := by decide +kernel
theorem dX10_pledges_70 : decode cX10_pledges 70 = .ok (.imul, 1) := by decide +kernel
theorem dX10_pledges_71 : decode cX10_pledges 71 = .ok (.putfield 37, 3) := by decide +kernel
theorem dX10_pledges_74 : decode cX10_pledges 74 = .ok (.aload_n 0, 1) := by decide +kernel
theorem dX10_pledges_75 : decode cX10_pledges 75 = .ok (.iload_n 2, 1) := by decide +kernel
theorem dX10_pledges_76 : decode cX10_pledges 76 = .ok (.aload_n 0, 1) := by decide +kernel
theorem dX10_pledges_77 : decode cX10_pledges 77 = .ok (.getfield 37, 3) := by decide +kernel
theorem dX10_pledges_80 : decode cX10_pledges 80 = .ok (.invokevirtual 107, 3) := by decide +kernel
theorem dX10_pledges_83 : decode cX10_pledges 83 = .ok (.aload_n 0, 1) := by decide +kernel
theorem dX10_pledges_84 : decode cX10_pledges 84 = .ok (.aload_n 0, 1) := by decide +kernel
theorem dX10_pledges_85 : decode cX10_pledges 85 = .ok (.iload_n 1, 1) := by decide +kernel
theorem dX10_pledges_86 : decode cX10_pledges 86 = .ok (.invokevirtual 100, 3) := by decide +kernel
theorem dX10_pledges_89 : decode cX10_pledges 89 = .ok (.aload_n 0, 1) := by decide +kernel
theorem dX10_pledges_90 : decode cX10_pledges 90 = .ok (.getfield 37, 3) := by decide +kernel
theorem dX10_pledges_93 : decode cX10_pledges 93 = .ok (.ineg, 1) := by decide +kernel
theorem dX10_pledges_94 : decode cX10_pledges 94 = .ok (.invokevirtual 107, 3) := by decide +kernel
theorem dX10_pledges_97 : decode cX10_pledges 97 = .ok (.aload_n 0, 1) := by decide +kernel
theorem dX10_pledges_98 : decode cX10_pledges 98 = .ok (.iload_n 1, 1) := by decide +kernel
theorem dX10_pledges_99 : decode cX10_pledges 99 = .ok (.iconst 5, 1) := by decide +kernel
theorem dX10_pledges_100 : decode cX10_pledges 100 = .ok (.iload_n 2, 1) := by decide +kernel
theorem dX10_pledges_101 : decode cX10_pledges 101 = .ok (.iconst 1, 1) := by decide +kernel
theorem dX10_pledges_102 : decode cX10_pledges 102 = .ok (.iadd, 1) := by decide +kernel
theorem dX10_pledges_103 : decode cX10_pledges 103 = .ok (.invokevirtual 64, 3) := by decide +kernel
theorem dX10_pledges_106 : decode cX10_pledges 106 = .ok (.aload_n 0, 1) := by decide +kernel
theorem dX10_pledges_107 : decode cX10_pledges 107 = .ok (.iload_n 1, 1) := by decide +kernel
theorem dX10_pledges_108 : decode cX10_pledges 108 = .ok (.bipush 6, 2) := by decide +kernel
theorem dX10_pledges_110 : decode cX10_pledges 110 = .ok (.aload_n 0, 1) := by decide +kernel
theorem dX10_pledges_111 : decode cX10_pledges 111 = .ok (.iload_n 1, 1) := by decide +kernel
theorem dX10_pledges_112 : decode cX10_pledges 112 = .ok (.iconst 2, 1) := by decide +kernel
theorem dX10_pledges_113 : decode cX10_pledges 113 = .ok (.invokevirtual 60, 3) := by decide +kernel
theorem dX10_pledges_116 : decode cX10_pledges 116 = .ok (.invokevirtual 64, 3) := by decide +kernel
theorem dX10_pledges_119 : decode cX10_pledges 119 = .ok (.iconst 1, 1) := by decide +kernel
theorem dX10_pledges_120 : decode cX10_pledges 120 = .ok (.ireturn, 1) := by decide +kernel
theorem dX10_pledge_0 : decode cX10_pledge 0 = .ok (.aload_n 0, 1) := by decide +kernel
theorem dX10_pledge_1 : decode cX10_pledge 1 = .ok (.invokevirtual 76, 3) := by decide +kernel
theorem dX10_pledge_4 : decode cX10_pledge 4 = .ok (.aload_n 0, 1) := by decide +kernel
theorem dX10_pledge_5 : decode cX10_pledge 5 = .ok (.aload_n 0, 1) := by decide +kernel
theorem dX10_pledge_6 : decode cX10_pledge 6 = .ok (.iload_n 1, 1) := by decide +kernel
theorem dX10_pledge_7 : decode cX10_pledge 7 = .ok (.iload_n 2, 1) := by decide +kernel
theorem dX10_pledge_8 : decode cX10_pledge 8 = .ok (.invokevirtual 125, 3) := by decide +kernel
theorem dX10_pledge_11 : decode cX10_pledge 11 = .ok (.invokevirtual 82, 3) := by decide +kernel
theorem dX10_pledge_14 : decode cX10_pledge 14 = .ok (.ireturn, 1) := by decide +kernel
theorem dX10_toRedeem_0 : decode cX10_toRedeem 0 = .ok (.aload_n 0, 1) := by decide +kernel
theorem dX10_toRedeem_1 : decode cX10_toRedeem 1 = .ok (.iload_n 1, 1) := by decide +kernel
theorem dX10_toRedeem_2 : decode cX10_toRedeem 2 = .ok (.invokevirtual 116, 3) := by decide +kernel
theorem dX10_toRedeem_5 : decode cX10_toRedeem 5 = .ok (.ifCond .ge 7, 3) := by decide +kernel
theorem dX10_toRedeem_8 : decode cX10_toRedeem 8 = .ok (.iconst 0, 1) := by decide +kernel
theorem dX10_toRedeem_9 : decode cX10_toRedeem 9 = .ok (.goto 14, 3) := by decide +kernel
theorem dX10_toRedeem_12 : decode cX10_toRedeem 12 = .ok (.iconst 2, 1) := by decide +kernel
theorem dX10_toRedeem_13 : decode cX10_toRedeem 13 = .ok (.aload_n 0, 1) := by decide +kernel
theorem dX10_toRedeem_14 : decode cX10_toRedeem 14 = .ok (.iload_n 1, 1) := by decide +kernel
theorem dX10_toRedeem_15 : decode cX10_toRedeem 15 = .ok (.bipush 6, 2) := by decide +kernel
theorem dX10_toRedeem_17 : decode cX10_toRedeem 17 = .ok (.invokevirtual 60, 3) := by decide +kernel
theorem dX10_toRedeem_20 : decode cX10_toRedeem 20 = .ok (.imul, 1) := by decide +kernel
theorem dX10_toRedeem_21 : decode cX10_toRedeem 21 = .ok (.iconst 1, 1) := by decide +kernel
theorem dX10_toRedeem_22 : decode cX10_toRedeem 22 = .ok (.iadd, 1) := by decide +kernel
theorem dX10_toRedeem_23 : decode cX10_toRedeem 23 = .ok (.ireturn, 1) := by decide +kernel
theorem dX10_redeems_0 : decode cX10_redeems 0 = .ok (.aload_n 0, 1) := by decide +kernel
theorem dX10_redeems_1 : decode cX10_redeems 1 = .ok (.aload_n 0, 1) := by decide +kernel
theorem dX10_redeems_2 : decode cX10_redeems 2 = .ok (.iload_n 1, 1) := by decide +kernel
theorem dX10_redeems_3 : decode cX10_redeems 3 = .ok (.invokevirtual 94, 3) := by decide +kernel
theorem dX10_redeems_6 : decode cX10_redeems 6 = .ok (.ifCond .ne 7, 3) := by decide +kernel
theorem dX10_redeems_9 : decode cX10_redeems 9 = .ok (.iconst 1, 1) := by decide +kernel
theorem dX10_redeems_10 : decode cX10_redeems 10 = .ok (.goto 4, 3) := by decide +kernel
theorem dX10_redeems_13 : decode cX10_redeems 13 = .ok (.iconst 0, 1) := by decide +kernel
theorem dX10_redeems_14 : decode cX10_redeems 14 = .ok (.iconst 2, 1) := by decide +kernel
theorem dX10_redeems_15 : decode cX10_redeems 15 = .ok (.iload_n 1, 1) := by decide +kernel
theorem dX10_redeems_16 : decode cX10_redeems 16 = .ok (.invokevirtual 72, 3) := by decide +kernel
theorem dX10_redeems_19 : decode cX10_redeems 19 = .ok (.ifCond .ne 26, 3) := by decide +kernel
theorem dX10_redeems_22 : decode cX10_redeems 22 = .ok (.aload_n 0, 1) := by decide +kernel
theorem dX10_redeems_23 : decode cX10_redeems 23 = .ok (.aload_n 0, 1) := by decide +kernel
theorem dX10_redeems_24 : decode cX10_redeems 24 = .ok (.iload_n 1, 1) := by decide +kernel
theorem dX10_redeems_25 : decode cX10_redeems 25 = .ok (.invokevirtual 116, 3) := by decide +kernel
theorem dX10_redeems_28 : decode cX10_redeems 28 = .ok (.ifCond .ge 7, 3) := by decide +kernel
theorem dX10_redeems_31 : decode cX10_redeems 31 = .ok (.iconst 1, 1) := by decide +kernel
theorem dX10_redeems_32 : decode cX10_redeems 32 = .ok (.goto 4, 3) := by decide +kernel
theorem dX10_redeems_35 : decode cX10_redeems 35 = .ok (.iconst 0, 1) := by decide +kernel
theorem dX10_redeems_36 : decode cX10_redeems 36 = .ok (.bipush 9, 2) := by decide +kernel
theorem dX10_redeems_38 : decode cX10_redeems 38 = .ok (.iload_n 1, 1) := by decide +kernel
theorem dX10_redeems_39 : decode cX10_redeems 39 = .ok (.invokevirtual 72, 3) := by decide +kernel
theorem dX10_redeems_42 : decode cX10_redeems 42 = .ok (.ifCond .eq 5, 3) := by decide +kernel
theorem dX10_redeems_45 : decode cX10_redeems 45 = .ok (.iconst 0, 1) := by decide +kernel
theorem dX10_redeems_46 : decode cX10_redeems 46 = .ok (.ireturn, 1) := by decide +kernel
theorem dX10_redeems_47 : decode cX10_redeems 47 = .ok (.aload_n 0, 1) := by decide +kernel
theorem dX10_redeems_48 : decode cX10_redeems 48 = .ok (.iload_n 1, 1) := by decide +kernel
theorem dX10_redeems_49 : decode cX10_redeems 49 = .ok (.invokevirtual 100, 3) := by decide +kernel
theorem dX10_redeems_52 : decode cX10_redeems 52 = .ok (.istore_n 2, 1) := by decide +kernel
theorem dX10_redeems_53 : decode cX10_redeems 53 = .ok (.aload_n 0, 1) := by decide +kernel
theorem dX10_redeems_54 : decode cX10_redeems 54 = .ok (.aload_n 0, 1) := by decide +kernel
theorem dX10_redeems_55 : decode cX10_redeems 55 = .ok (.iload_n 1, 1) := by decide +kernel
theorem dX10_redeems_56 : decode cX10_redeems 56 = .ok (.invokevirtual 128, 3) := by decide +kernel
theorem dX10_redeems_59 : decode cX10_redeems 59 = .ok (.putfield 37, 3) := by decide +kernel
theorem dX10_redeems_62 : decode cX10_redeems 62 = .ok (.aload_n 0, 1) := by decide +kernel
theorem dX10_redeems_63 : decode cX10_redeems 63 = .ok (.aload_n 0, 1) := by decide +kernel
theorem dX10_redeems_64 : decode cX10_redeems 64 = .ok (.iload_n 2, 1) := by decide +kernel
theorem dX10_redeems_65 : decode cX10_redeems 65 = .ok (.invokevirtual 104, 3) := by decide +kernel
theorem dX10_redeems_68 : decode cX10_redeems 68 = .ok (.aload_n 0, 1) := by decide +kernel
theorem dX10_redeems_69 : decode cX10_redeems 69 = .ok (.getfield 37, 3) := by decide +kernel
theorem dX10_redeems_72 : decode cX10_redeems 72 = .ok (.if_icmp .ge 7, 3) := by decide +kernel
theorem dX10_redeems_75 : decode cX10_redeems 75 = .ok (.iconst 1, 1) := by decide +kernel
theorem dX10_redeems_76 : decode cX10_redeems 76 = .ok (.goto 4, 3) := by decide +kernel
theorem dX10_redeems_79 : decode cX10_redeems 79 = .ok (.iconst 0, 1) := by decide +kernel
theorem dX10_redeems_80 : decode cX10_redeems 80 = .ok (.bipush 7, 2) := by decide +kernel
theorem dX10_redeems_82 : decode cX10_redeems 82 = .ok (.aload_n 0, 1) := by decide +kernel
theorem dX10_redeems_83 : decode cX10_redeems 83 = .ok (.iload_n 2, 1) := by decide +kernel
theorem dX10_redeems_84 : decode cX10_redeems 84 = .ok (.invokevirtual 104, 3) := by decide +kernel
theorem dX10_redeems_87 : decode cX10_redeems 87 = .ok (.invokevirtual 72, 3) := by decide +kernel
theorem dX10_redeems_90 : decode cX10_redeems 90 = .ok (.ifCond .eq 5, 3) := by decide +kernel
theorem dX10_redeems_93 : decode cX10_redeems 93 = .ok (.iconst 0, 1) := by decide +kernel
theorem dX10_redeems_94 : decode cX10_redeems 94 = .ok (.ireturn, 1) := by decide +kernel
theorem dX10_redeems_95 : decode cX10_redeems 95 = .ok (.aload_n 0, 1) := by decide +kernel
theorem dX10_redeems_96 : decode cX10_redeems 96 = .ok (.iload_n 2, 1) := by decide +kernel
theorem dX10_redeems_97 : decode cX10_redeems 97 = .ok (.aload_n 0, 1) := by decide +kernel
theorem dX10_redeems_98 : decode cX10_redeems 98 = .ok (.getfield 37, 3) := by decide +kernel
theorem dX10_redeems_101 : decode cX10_redeems 101 = .ok (.invokevirtual 107, 3) := by decide +kernel
theorem dX10_redeems_104 : decode cX10_redeems 104 = .ok (.aload_n 0, 1) := by decide +kernel
theorem dX10_redeems_105 : decode cX10_redeems 105 = .ok (.aload_n 0, 1) := by decide +kernel
theorem dX10_redeems_106 : decode cX10_redeems 106 = .ok (.iload_n 1, 1) := by decide +kernel
theorem dX10_redeems_107 : decode cX10_redeems 107 = .ok (.invokevirtual 116, 3) := by decide +kernel
theorem dX10_redeems_110 : decode cX10_redeems 110 = .ok (.aload_n 0, 1) := by decide +kernel
theorem dX10_redeems_111 : decode cX10_redeems 111 = .ok (.getfield 37, 3) := by decide +kernel
theorem dX10_redeems_114 : decode cX10_redeems 114 = .ok (.ineg, 1) := by decide +kernel
theorem dX10_redeems_115 : decode cX10_redeems 115 = .ok (.invokevirtual 107, 3) := by decide +kernel
theorem dX10_redeems_118 : decode cX10_redeems 118 = .ok (.aload_n 0, 1) := by decide +kernel
theorem dX10_redeems_119 : decode cX10_redeems 119 = .ok (.iload_n 1, 1) := by decide +kernel
theorem dX10_redeems_120 : decode cX10_redeems 120 = .ok (.invokevirtual 131, 3) := by decide +kernel
theorem dX10_redeems_123 : decode cX10_redeems 123 = .ok (.iconst 1, 1) := by decide +kernel
theorem dX10_redeems_124 : decode cX10_redeems 124 = .ok (.ireturn, 1) := by decide +kernel
theorem dX10_redeem_0 : decode cX10_redeem 0 = .ok (.aload_n 0, 1) := by decide +kernel
theorem dX10_redeem_1 : decode cX10_redeem 1 = .ok (.invokevirtual 76, 3) := by decide +kernel
theorem dX10_redeem_4 : decode cX10_redeem 4 = .ok (.aload_n 0, 1) := by decide +kernel
theorem dX10_redeem_5 : decode cX10_redeem 5 = .ok (.aload_n 0, 1) := by decide +kernel
theorem dX10_redeem_6 : decode cX10_redeem 6 = .ok (.iload_n 1, 1) := by decide +kernel
theorem dX10_redeem_7 : decode cX10_redeem 7 = .ok (.invokevirtual 135, 3) := by decide +kernel
theorem dX10_redeem_10 : decode cX10_redeem 10 = .ok (.invokevirtual 82, 3) := by decide +kernel
theorem dX10_redeem_13 : decode cX10_redeem 13 = .ok (.ireturn, 1) := by decide +kernel
theorem dX10_isOther_0 : decode cX10_isOther 0 = .ok (.aload_n 0, 1) := by decide +kernel
theorem dX10_isOther_1 : decode cX10_isOther 1 = .ok (.iload_n 1, 1) := by decide +kernel
theorem dX10_isOther_2 : decode cX10_isOther 2 = .ok (.invokevirtual 100, 3) := by decide +kernel
theorem dX10_isOther_5 : decode cX10_isOther 5 = .ok (.ifCond .lt 22, 3) := by decide +kernel
theorem dX10_isOther_8 : decode cX10_isOther 8 = .ok (.aload_n 0, 1) := by decide +kernel
theorem dX10_isOther_9 : decode cX10_isOther 9 = .ok (.iload_n 1, 1) := by decide +kernel
theorem dX10_isOther_10 : decode cX10_isOther 10 = .ok (.iconst 4, 1) := by decide +kernel
theorem dX10_isOther_11 : decode cX10_isOther 11 = .ok (.invokevirtual 60, 3) := by decide +kernel
theorem dX10_isOther_14 : decode cX10_isOther 14 = .ok (.aload_n 0, 1) := by decide +kernel
theorem dX10_isOther_15 : decode cX10_isOther 15 = .ok (.iload_n 1, 1) := by decide +kernel
theorem dX10_isOther_16 : decode cX10_isOther 16 = .ok (.iconst 1, 1) := by decide +kernel
theorem dX10_isOther_17 : decode cX10_isOther 17 = .ok (.invokevirtual 60, 3) := by decide +kernel
theorem dX10_isOther_20 : decode cX10_isOther 20 = .ok (.if_icmp .eq 7, 3) := by decide +kernel
theorem dX10_isOther_23 : decode cX10_isOther 23 = .ok (.iconst 1, 1) := by decide +kernel
theorem dX10_isOther_24 : decode cX10_isOther 24 = .ok (.goto 4, 3) := by decide +kernel
theorem dX10_isOther_27 : decode cX10_isOther 27 = .ok (.iconst 0, 1) := by decide +kernel
theorem dX10_isOther_28 : decode cX10_isOther 28 = .ok (.ireturn, 1) := by decide +kernel
theorem dX10_carries_0 : decode cX10_carries 0 = .ok (.iconst 0, 1) := by decide +kernel
theorem dX10_carries_1 : decode cX10_carries 1 = .ok (.istore_n 2, 1) := by decide +kernel
theorem dX10_carries_2 : decode cX10_carries 2 = .ok (.iload_n 2, 1) := by decide +kernel
theorem dX10_carries_3 : decode cX10_carries 3 = .ok (.aload_n 0, 1) := by decide +kernel
theorem dX10_carries_4 : decode cX10_carries 4 = .ok (.getfield 9, 3) := by decide +kernel
theorem dX10_carries_7 : decode cX10_carries 7 = .ok (.iconst 0, 1) := by decide +kernel
theorem dX10_carries_8 : decode cX10_carries 8 = .ok (.iaload, 1) := by decide +kernel
theorem dX10_carries_9 : decode cX10_carries 9 = .ok (.if_icmp .ge 55, 3) := by decide +kernel
theorem dX10_carries_12 : decode cX10_carries 12 = .ok (.aload_n 0, 1) := by decide +kernel
theorem dX10_carries_13 : decode cX10_carries 13 = .ok (.iload_n 2, 1) := by decide +kernel
theorem dX10_carries_14 : decode cX10_carries 14 = .ok (.iconst 0, 1) := by decide +kernel
theorem dX10_carries_15 : decode cX10_carries 15 = .ok (.aload_n 0, 1) := by decide +kernel
theorem dX10_carries_16 : decode cX10_carries 16 = .ok (.iload_n 2, 1) := by decide +kernel
theorem dX10_carries_17 : decode cX10_carries 17 = .ok (.iconst 0, 1) := by decide +kernel
theorem dX10_carries_18 : decode cX10_carries 18 = .ok (.invokevirtual 60, 3) := by decide +kernel
theorem dX10_carries_21 : decode cX10_carries 21 = .ok (.iload_n 1, 1) := by decide +kernel
theorem dX10_carries_22 : decode cX10_carries 22 = .ok (.iadd, 1) := by decide +kernel
theorem dX10_carries_23 : decode cX10_carries 23 = .ok (.bipush 6, 2) := by decide +kernel
theorem dX10_carries_25 : decode cX10_carries 25 = .ok (.iadd, 1) := by decide +kernel
theorem dX10_carries_26 : decode cX10_carries 26 = .ok (.bipush 6, 2) := by decide +kernel
theorem dX10_carries_28 : decode cX10_carries 28 = .ok (.irem, 1) := by decide +kernel
theorem dX10_carries_29 : decode cX10_carries 29 = .ok (.invokevirtual 64, 3) := by decide +kernel
theorem dX10_carries_32 : decode cX10_carries 32 = .ok (.aload_n 0, 1) := by decide +kernel
theorem dX10_carries_33 : decode cX10_carries 33 = .ok (.iload_n 2, 1) := by decide +kernel
theorem dX10_carries_34 : decode cX10_carries 34 = .ok (.iconst 1, 1) := by decide +kernel
theorem dX10_carries_35 : decode cX10_carries 35 = .ok (.aload_n 0, 1) := by decide +kernel
theorem dX10_carries_36 : decode cX10_carries 36 = .ok (.iload_n 2, 1) := by decide +kernel
theorem dX10_carries_37 : decode cX10_carries 37 = .ok (.iconst 1, 1) := by decide +kernel
theorem dX10_carries_38 : decode cX10_carries 38 = .ok (.invokevirtual 60, 3) := by decide +kernel
theorem dX10_carries_41 : decode cX10_carries 41 = .ok (.iload_n 1, 1) := by decide +kernel
theorem dX10_carries_42 : decode cX10_carries 42 = .ok (.ifCond .ge 8, 3) := by decide +kernel
theorem dX10_carries_45 : decode cX10_carries 45 = .ok (.iload_n 1, 1) := by decide +kernel
theorem dX10_carries_46 : decode cX10_carries 46 = .ok (.ineg, 1) := by decide +kernel
theorem dX10_carries_47 : decode cX10_carries 47 = .ok (.goto 4, 3) := by decide +kernel
theorem dX10_carries_50 : decode cX10_carries 50 = .ok (.iload_n 1, 1) := by decide +kernel
theorem dX10_carries_51 : decode cX10_carries 51 = .ok (.iadd, 1) := by decide +kernel
theorem dX10_carries_52 : decode cX10_carries 52 = .ok (.bipush 6, 2) := by decide +kernel
theorem dX10_carries_54 : decode cX10_carries 54 = .ok (.irem, 1) := by decide +kernel
theorem dX10_carries_55 : decode cX10_carries 55 = .ok (.invokevirtual 64, 3) := by decide +kernel
theorem dX10_carries_58 : decode cX10_carries 58 = .ok (.iinc 2 1, 3) := by decide +kernel
theorem dX10_carries_61 : decode cX10_carries 61 = .ok (.goto (-59), 3) := by decide +kernel
theorem dX10_carries_64 : decode cX10_carries 64 = .ok (.return_, 1) := by decide +kernel
theorem dX10_blows_0 : decode cX10_blows 0 = .ok (.aload_n 0, 1) := by decide +kernel
theorem dX10_blows_1 : decode cX10_blows 1 = .ok (.iload_n 1, 1) := by decide +kernel
theorem dX10_blows_2 : decode cX10_blows 2 = .ok (.bipush (-3), 2) := by decide +kernel
theorem dX10_blows_4 : decode cX10_blows 4 = .ok (.iconst 3, 1) := by decide +kernel
theorem dX10_blows_5 : decode cX10_blows 5 = .ok (.invokestatic 56, 3) := by decide +kernel
theorem dX10_blows_8 : decode cX10_blows 8 = .ok (.ifCond .eq 7, 3) := by decide +kernel
theorem dX10_blows_11 : decode cX10_blows 11 = .ok (.iload_n 1, 1) := by decide +kernel
theorem dX10_blows_12 : decode cX10_blows 12 = .ok (.ifCond .ne 7, 3) := by decide +kernel
theorem dX10_blows_15 : decode cX10_blows 15 = .ok (.iconst 1, 1) := by decide +kernel
theorem dX10_blows_16 : decode cX10_blows 16 = .ok (.goto 4, 3) := by decide +kernel
theorem dX10_blows_19 : decode cX10_blows 19 = .ok (.iconst 0, 1) := by decide +kernel
theorem dX10_blows_20 : decode cX10_blows 20 = .ok (.iconst 3, 1) := by decide +kernel
theorem dX10_blows_21 : decode cX10_blows 21 = .ok (.iload_n 1, 1) := by decide +kernel
theorem dX10_blows_22 : decode cX10_blows 22 = .ok (.invokevirtual 72, 3) := by decide +kernel
theorem dX10_blows_25 : decode cX10_blows 25 = .ok (.ifCond .eq 5, 3) := by decide +kernel
theorem dX10_blows_28 : decode cX10_blows 28 = .ok (.iconst 0, 1) := by decide +kernel
theorem dX10_blows_29 : decode cX10_blows 29 = .ok (.ireturn, 1) := by decide +kernel
theorem dX10_blows_30 : decode cX10_blows 30 = .ok (.aload_n 0, 1) := by decide +kernel
theorem dX10_blows_31 : decode cX10_blows 31 = .ok (.iload_n 1, 1) := by decide +kernel
theorem dX10_blows_32 : decode cX10_blows 32 = .ok (.invokevirtual 138, 3) := by decide +kernel
theorem dX10_blows_35 : decode cX10_blows 35 = .ok (.aload_n 0, 1) := by decide +kernel
theorem dX10_blows_36 : decode cX10_blows 36 = .ok (.iconst 0, 1) := by decide +kernel
theorem dX10_blows_37 : decode cX10_blows 37 = .ok (.putfield 37, 3) := by decide +kernel
theorem dX10_blows_40 : decode cX10_blows 40 = .ok (.iconst 0, 1) := by decide +kernel
theorem dX10_blows_41 : decode cX10_blows 41 = .ok (.istore_n 2, 1) := by decide +kernel
theorem dX10_blows_42 : decode cX10_blows 42 = .ok (.iload_n 2, 1) := by decide +kernel
theorem dX10_blows_43 : decode cX10_blows 43 = .ok (.aload_n 0, 1) := by decide +kernel
theorem dX10_blows_44 : decode cX10_blows 44 = .ok (.getfield 9, 3) := by decide +kernel
theorem dX10_blows_47 : decode cX10_blows 47 = .ok (.iconst 0, 1) := by decide +kernel
theorem dX10_blows_48 : decode cX10_blows 48 = .ok (.iaload, 1) := by decide +kernel
theorem dX10_blows_49 : decode cX10_blows 49 = .ok (.if_icmp .ge 31, 3) := by decide +kernel
theorem dX10_blows_52 : decode cX10_blows 52 = .ok (.aload_n 0, 1) := by decide +kernel
theorem dX10_blows_53 : decode cX10_blows 53 = .ok (.dup, 1) := by decide +kernel
theorem dX10_blows_54 : decode cX10_blows 54 = .ok (.getfield 37, 3) := by decide +kernel
theorem dX10_blows_57 : decode cX10_blows 57 = .ok (.aload_n 0, 1) := by decide +kernel
theorem dX10_blows_58 : decode cX10_blows 58 = .ok (.iload_n 2, 1) := by decide +kernel
theorem dX10_blows_59 : decode cX10_blows 59 = .ok (.invokevirtual 141, 3) := by decide +kernel
theorem dX10_blows_62 : decode cX10_blows 62 = .ok (.ifCond .eq 7, 3) := by decide +kernel
theorem dX10_blows_65 : decode cX10_blows 65 = .ok (.iconst 1, 1) := by decide +kernel
theorem dX10_blows_66 : decode cX10_blows 66 = .ok (.goto 4, 3) := by decide +kernel
theorem dX10_blows_69 : decode cX10_blows 69 = .ok (.iconst 0, 1) := by decide +kernel
theorem dX10_blows_70 : decode cX10_blows 70 = .ok (.iadd, 1) := by decide +kernel
theorem dX10_blows_71 : decode cX10_blows 71 = .ok (.putfield 37, 3) := by decide +kernel
theorem dX10_blows_74 : decode cX10_blows 74 = .ok (.iinc 2 1, 3) := by decide +kernel
theorem dX10_blows_77 : decode cX10_blows 77 = .ok (.goto (-35), 3) := by decide +kernel
theorem dX10_blows_80 : decode cX10_blows 80 = .ok (.iconst 1, 1) := by decide +kernel
theorem dX10_blows_81 : decode cX10_blows 81 = .ok (.ireturn, 1) := by decide +kernel
theorem dX10_wind_0 : decode cX10_wind 0 = .ok (.aload_n 0, 1) := by decide +kernel
theorem dX10_wind_1 : decode cX10_wind 1 = .ok (.invokevirtual 76, 3) := by decide +kernel
theorem dX10_wind_4 : decode cX10_wind 4 = .ok (.aload_n 0, 1) := by decide +kernel
theorem dX10_wind_5 : decode cX10_wind 5 = .ok (.aload_n 0, 1) := by decide +kernel
theorem dX10_wind_6 : decode cX10_wind 6 = .ok (.iload_n 1, 1) := by decide +kernel
theorem dX10_wind_7 : decode cX10_wind 7 = .ok (.invokevirtual 144, 3) := by decide +kernel
theorem dX10_wind_10 : decode cX10_wind 10 = .ok (.invokevirtual 82, 3) := by decide +kernel
theorem dX10_wind_13 : decode cX10_wind 13 = .ok (.ireturn, 1) := by decide +kernel
theorem dX10_goes_0 : decode cX10_goes 0 = .ok (.aload_n 0, 1) := by decide +kernel
theorem dX10_goes_1 : decode cX10_goes 1 = .ok (.getfield 9, 3) := by decide +kernel
theorem dX10_goes_4 : decode cX10_goes 4 = .ok (.iconst 0, 1) := by decide +kernel
theorem dX10_goes_5 : decode cX10_goes 5 = .ok (.dup2, 1) := by decide +kernel
theorem dX10_goes_6 : decode cX10_goes 6 = .ok (.iaload, 1) := by decide +kernel
theorem dX10_goes_7 : decode cX10_goes 7 = .ok (.iconst 1, 1) := by decide +kernel
theorem dX10_goes_8 : decode cX10_goes 8 = .ok (.isub, 1) := by decide +kernel
theorem dX10_goes_9 : decode cX10_goes 9 = .ok (.iastore, 1) := by decide +kernel
theorem dX10_goes_10 : decode cX10_goes 10 = .ok (.aload_n 0, 1) := by decide +kernel
theorem dX10_goes_11 : decode cX10_goes 11 = .ok (.getfield 9, 3) := by decide +kernel
theorem dX10_goes_14 : decode cX10_goes 14 = .ok (.iconst 5, 1) := by decide +kernel
theorem dX10_goes_15 : decode cX10_goes 15 = .ok (.dup2, 1) := by decide +kernel
theorem dX10_goes_16 : decode cX10_goes 16 = .ok (.iaload, 1) := by decide +kernel
theorem dX10_goes_17 : decode cX10_goes 17 = .ok (.iconst 1, 1) := by decide +kernel
theorem dX10_goes_18 : decode cX10_goes 18 = .ok (.iadd, 1) := by decide +kernel
theorem dX10_goes_19 : decode cX10_goes 19 = .ok (.iastore, 1) := by decide +kernel
theorem dX10_goes_20 : decode cX10_goes 20 = .ok (.bipush 7, 2) := by decide +kernel
theorem dX10_goes_22 : decode cX10_goes 22 = .ok (.iload_n 1, 1) := by decide +kernel
theorem dX10_goes_23 : decode cX10_goes 23 = .ok (.imul, 1) := by decide +kernel
theorem dX10_goes_24 : decode cX10_goes 24 = .ok (.istore_n 2, 1) := by decide +kernel
theorem dX10_goes_25 : decode cX10_goes 25 = .ok (.iload_n 2, 1) := by decide +kernel
theorem dX10_goes_26 : decode cX10_goes 26 = .ok (.bipush 7, 2) := by decide +kernel
theorem dX10_goes_28 : decode cX10_goes 28 = .ok (.aload_n 0, 1) := by decide +kernel
theorem dX10_goes_29 : decode cX10_goes 29 = .ok (.getfield 9, 3) := by decide +kernel
theorem dX10_goes_32 : decode cX10_goes 32 = .ok (.iconst 0, 1) := by decide +kernel
theorem dX10_goes_33 : decode cX10_goes 33 = .ok (.iaload, 1) := by decide +kernel
theorem dX10_goes_34 : decode cX10_goes 34 = .ok (.imul, 1) := by decide +kernel
theorem dX10_goes_35 : decode cX10_goes 35 = .ok (.if_icmp .ge 30, 3) := by decide +kernel
theorem dX10_goes_38 : decode cX10_goes 38 = .ok (.aload_n 0, 1) := by decide +kernel
theorem dX10_goes_39 : decode cX10_goes 39 = .ok (.getfield 9, 3) := by decide +kernel
theorem dX10_goes_42 : decode cX10_goes 42 = .ok (.bipush 19, 2) := by decide +kernel
theorem dX10_goes_44 : decode cX10_goes 44 = .ok (.iload_n 2, 1) := by decide +kernel
theorem dX10_goes_45 : decode cX10_goes 45 = .ok (.iadd, 1) := by decide +kernel
theorem dX10_goes_46 : decode cX10_goes 46 = .ok (.aload_n 0, 1) := by decide +kernel
theorem dX10_goes_47 : decode cX10_goes 47 = .ok (.getfield 9, 3) := by decide +kernel
theorem dX10_goes_50 : decode cX10_goes 50 = .ok (.bipush 19, 2) := by decide +kernel
theorem dX10_goes_52 : decode cX10_goes 52 = .ok (.iload_n 2, 1) := by decide +kernel
theorem dX10_goes_53 : decode cX10_goes 53 = .ok (.iadd, 1) := by decide +kernel
theorem dX10_goes_54 : decode cX10_goes 54 = .ok (.bipush 7, 2) := by decide +kernel
theorem dX10_goes_56 : decode cX10_goes 56 = .ok (.iadd, 1) := by decide +kernel
theorem dX10_goes_57 : decode cX10_goes 57 = .ok (.iaload, 1) := by decide +kernel
theorem dX10_goes_58 : decode cX10_goes 58 = .ok (.iastore, 1) := by decide +kernel
theorem dX10_goes_59 : decode cX10_goes 59 = .ok (.iinc 2 1, 3) := by decide +kernel
theorem dX10_goes_62 : decode cX10_goes 62 = .ok (.goto (-37), 3) := by decide +kernel
theorem dX10_goes_65 : decode cX10_goes 65 = .ok (.iconst 0, 1) := by decide +kernel
theorem dX10_goes_66 : decode cX10_goes 66 = .ok (.istore_n 2, 1) := by decide +kernel
theorem dX10_goes_67 : decode cX10_goes 67 = .ok (.iload_n 2, 1) := by decide +kernel
theorem dX10_goes_68 : decode cX10_goes 68 = .ok (.bipush 7, 2) := by decide +kernel
theorem dX10_goes_70 : decode cX10_goes 70 = .ok (.if_icmp .ge 21, 3) := by decide +kernel
theorem dX10_goes_73 : decode cX10_goes 73 = .ok (.aload_n 0, 1) := by decide +kernel
theorem dX10_goes_74 : decode cX10_goes 74 = .ok (.aload_n 0, 1) := by decide +kernel
theorem dX10_goes_75 : decode cX10_goes 75 = .ok (.getfield 9, 3) := by decide +kernel
theorem dX10_goes_78 : decode cX10_goes 78 = .ok (.iconst 0, 1) := by decide +kernel
theorem dX10_goes_79 : decode cX10_goes 79 = .ok (.iaload, 1) := by decide +kernel
theorem dX10_goes_80 : decode cX10_goes 80 = .ok (.iload_n 2, 1) := by decide +kernel
theorem dX10_goes_81 : decode cX10_goes 81 = .ok (.iconst 0, 1) := by decide +kernel
theorem dX10_goes_82 : decode cX10_goes 82 = .ok (.invokevirtual 64, 3) := by decide +kernel
theorem dX10_goes_85 : decode cX10_goes 85 = .ok (.iinc 2 1, 3) := by decide +kernel
theorem dX10_goes_88 : decode cX10_goes 88 = .ok (.goto (-21), 3) := by decide +kernel
theorem dX10_goes_91 : decode cX10_goes 91 = .ok (.return_, 1) := by decide +kernel
theorem dX10_hails_0 : decode cX10_hails 0 = .ok (.aload_n 0, 1) := by decide +kernel
theorem dX10_hails_1 : decode cX10_hails 1 = .ok (.iload_n 1, 1) := by decide +kernel
theorem dX10_hails_2 : decode cX10_hails 2 = .ok (.invokestatic 68, 3) := by decide +kernel
theorem dX10_hails_5 : decode cX10_hails 5 = .ok (.ifCond .ne 7, 3) := by decide +kernel
theorem dX10_hails_8 : decode cX10_hails 8 = .ok (.iconst 1, 1) := by decide +kernel
theorem dX10_hails_9 : decode cX10_hails 9 = .ok (.goto 4, 3) := by decide +kernel
theorem dX10_hails_12 : decode cX10_hails 12 = .ok (.iconst 0, 1) := by decide +kernel
theorem dX10_hails_13 : decode cX10_hails 13 = .ok (.iconst 2, 1) := by decide +kernel
theorem dX10_hails_14 : decode cX10_hails 14 = .ok (.iload_n 1, 1) := by decide +kernel
theorem dX10_hails_15 : decode cX10_hails 15 = .ok (.invokevirtual 72, 3) := by decide +kernel
theorem dX10_hails_18 : decode cX10_hails 18 = .ok (.ifCond .eq 5, 3) := by decide +kernel
theorem dX10_hails_21 : decode cX10_hails 21 = .ok (.iconst 0, 1) := by decide +kernel
theorem dX10_hails_22 : decode cX10_hails 22 = .ok (.ireturn, 1) := by decide +kernel
theorem dX10_hails_23 : decode cX10_hails 23 = .ok (.aload_n 0, 1) := by decide +kernel
theorem dX10_hails_24 : decode cX10_hails 24 = .ok (.iconst 0, 1) := by decide +kernel
theorem dX10_hails_25 : decode cX10_hails 25 = .ok (.putfield 37, 3) := by decide +kernel
theorem dX10_hails_28 : decode cX10_hails 28 = .ok (.aload_n 0, 1) := by decide +kernel
theorem dX10_hails_29 : decode cX10_hails 29 = .ok (.getfield 9, 3) := by decide +kernel
theorem dX10_hails_32 : decode cX10_hails 32 = .ok (.iconst 0, 1) := by decide +kernel
theorem dX10_hails_33 : decode cX10_hails 33 = .ok (.iaload, 1) := by decide +kernel
theorem dX10_hails_34 : decode cX10_hails 34 = .ok (.iconst 1, 1) := by decide +kernel
theorem dX10_hails_35 : decode cX10_hails 35 = .ok (.isub, 1) := by decide +kernel
theorem dX10_hails_36 : decode cX10_hails 36 = .ok (.istore_n 2, 1) := by decide +kernel
theorem dX10_hails_37 : decode cX10_hails 37 = .ok (.iload_n 2, 1) := by decide +kernel
theorem dX10_hails_38 : decode cX10_hails 38 = .ok (.ifCond .lt 86, 3) := by decide +kernel
theorem dX10_hails_41 : decode cX10_hails 41 = .ok (.aload_n 0, 1) := by decide +kernel
theorem dX10_hails_42 : decode cX10_hails 42 = .ok (.iload_n 2, 1) := by decide +kernel
theorem dX10_hails_43 : decode cX10_hails 43 = .ok (.iconst 0, 1) := by decide +kernel
theorem dX10_hails_44 : decode cX10_hails 44 = .ok (.invokevirtual 60, 3) := by decide +kernel
theorem dX10_hails_47 : decode cX10_hails 47 = .ok (.iload_n 1, 1) := by decide +kernel
theorem dX10_hails_48 : decode cX10_hails 48 = .ok (.if_icmp .eq 6, 3) := by decide +kernel
theorem dX10_hails_51 : decode cX10_hails 51 = .ok (.goto 67, 3) := by decide +kernel
theorem dX10_hails_54 : decode cX10_hails 54 = .ok (.aload_n 0, 1) := by decide +kernel
theorem dX10_hails_55 : decode cX10_hails 55 = .ok (.iload_n 2, 1) := by decide +kernel
theorem dX10_hails_56 : decode cX10_hails 56 = .ok (.invokevirtual 116, 3) := by decide +kernel
theorem dX10_hails_59 : decode cX10_hails 59 = .ok (.ifCond .lt 31, 3) := by decide +kernel
theorem dX10_hails_62 : decode cX10_hails 62 = .ok (.aload_n 0, 1) := by decide +kernel
theorem dX10_hails_63 : decode cX10_hails 63 = .ok (.iload_n 2, 1) := by decide +kernel
theorem dX10_hails_64 : decode cX10_hails 64 = .ok (.aload_n 0, 1) := by decide +kernel
theorem dX10_hails_65 : decode cX10_hails 65 = .ok (.iload_n 2, 1) := by decide +kernel
theorem dX10_hails_66 : decode cX10_hails 66 = .ok (.invokevirtual 116, 3) := by decide +kernel
theorem dX10_hails_69 : decode cX10_hails 69 = .ok (.invokevirtual 110, 3) := by decide +kernel
theorem dX10_hails_72 : decode cX10_hails 72 = .ok (.aload_n 0, 1) := by decide +kernel
theorem dX10_hails_73 : decode cX10_hails 73 = .ok (.iload_n 2, 1) := by decide +kernel
theorem dX10_hails_74 : decode cX10_hails 74 = .ok (.invokevirtual 131, 3) := by decide +kernel
theorem dX10_hails_77 : decode cX10_hails 77 = .ok (.aload_n 0, 1) := by decide +kernel
theorem dX10_hails_78 : decode cX10_hails 78 = .ok (.dup, 1) := by decide +kernel
theorem dX10_hails_79 : decode cX10_hails 79 = .ok (.getfield 37, 3) := by decide +kernel
theorem dX10_hails_82 : decode cX10_hails 82 = .ok (.iconst 1, 1) := by decide +kernel
theorem dX10_hails_83 : decode cX10_hails 83 = .ok (.iadd, 1) := by decide +kernel
theorem dX10_hails_84 : decode cX10_hails 84 = .ok (.putfield 37, 3) := by decide +kernel
theorem dX10_hails_87 : decode cX10_hails 87 = .ok (.goto 31, 3) := by decide +kernel
theorem dX10_hails_90 : decode cX10_hails 90 = .ok (.aload_n 0, 1) := by decide +kernel
theorem dX10_hails_91 : decode cX10_hails 91 = .ok (.iload_n 2, 1) := by decide +kernel
theorem dX10_hails_92 : decode cX10_hails 92 = .ok (.iconst 2, 1) := by decide +kernel
theorem dX10_hails_93 : decode cX10_hails 93 = .ok (.aload_n 0, 1) := by decide +kernel
theorem dX10_hails_94 : decode cX10_hails 94 = .ok (.iload_n 2, 1) := by decide +kernel
theorem dX10_hails_95 : decode cX10_hails 95 = .ok (.iconst 2, 1) := by decide +kernel
theorem dX10_hails_96 : decode cX10_hails 96 = .ok (.invokevirtual 60, 3) := by decide +kernel
theorem dX10_hails_99 : decode cX10_hails 99 = .ok (.iconst 1, 1) := by decide +kernel
theorem dX10_hails_100 : decode cX10_hails 100 = .ok (.isub, 1) := by decide +kernel
theorem dX10_hails_101 : decode cX10_hails 101 = .ok (.invokevirtual 64, 3) := by decide +kernel
theorem dX10_hails_104 : decode cX10_hails 104 = .ok (.aload_n 0, 1) := by decide +kernel
theorem dX10_hails_105 : decode cX10_hails 105 = .ok (.iload_n 2, 1) := by decide +kernel
theorem dX10_hails_106 : decode cX10_hails 106 = .ok (.iconst 2, 1) := by decide +kernel
theorem dX10_hails_107 : decode cX10_hails 107 = .ok (.invokevirtual 60, 3) := by decide +kernel
theorem dX10_hails_110 : decode cX10_hails 110 = .ok (.ifCond .ne 8, 3) := by decide +kernel
theorem dX10_hails_113 : decode cX10_hails 113 = .ok (.aload_n 0, 1) := by decide +kernel
theorem dX10_hails_114 : decode cX10_hails 114 = .ok (.iload_n 2, 1) := by decide +kernel
theorem dX10_hails_115 : decode cX10_hails 115 = .ok (.invokevirtual 147, 3) := by decide +kernel
theorem dX10_hails_118 : decode cX10_hails 118 = .ok (.iinc 2 (-1), 3) := by decide +kernel
theorem dX10_hails_121 : decode cX10_hails 121 = .ok (.goto (-84), 3) := by decide +kernel
theorem dX10_hails_124 : decode cX10_hails 124 = .ok (.aload_n 0, 1) := by decide +kernel
theorem dX10_hails_125 : decode cX10_hails 125 = .ok (.getfield 9, 3) := by decide +kernel
theorem dX10_hails_128 : decode cX10_hails 128 = .ok (.iconst 4, 1) := by decide +kernel
theorem dX10_hails_129 : decode cX10_hails 129 = .ok (.dup2, 1) := by decide +kernel
theorem dX10_hails_130 : decode cX10_hails 130 = .ok (.iaload, 1) := by decide +kernel
theorem dX10_hails_131 : decode cX10_hails 131 = .ok (.aload_n 0, 1) := by decide +kernel
theorem dX10_hails_132 : decode cX10_hails 132 = .ok (.getfield 37, 3) := by decide +kernel
theorem dX10_hails_135 : decode cX10_hails 135 = .ok (.iadd, 1) := by decide +kernel
theorem dX10_hails_136 : decode cX10_hails 136 = .ok (.iastore, 1) := by decide +kernel
theorem dX10_hails_137 : decode cX10_hails 137 = .ok (.iconst 1, 1) := by decide +kernel
theorem dX10_hails_138 : decode cX10_hails 138 = .ok (.ireturn, 1) := by decide +kernel
theorem dX10_hail_0 : decode cX10_hail 0 = .ok (.aload_n 0, 1) := by decide +kernel
theorem dX10_hail_1 : decode cX10_hail 1 = .ok (.invokevirtual 76, 3) := by decide +kernel
theorem dX10_hail_4 : decode cX10_hail 4 = .ok (.aload_n 0, 1) := by decide +kernel
theorem dX10_hail_5 : decode cX10_hail 5 = .ok (.aload_n 0, 1) := by decide +kernel
theorem dX10_hail_6 : decode cX10_hail 6 = .ok (.iload_n 1, 1) := by decide +kernel
theorem dX10_hail_7 : decode cX10_hail 7 = .ok (.invokevirtual 150, 3) := by decide +kernel
theorem dX10_hail_10 : decode cX10_hail 10 = .ok (.invokevirtual 82, 3) := by decide +kernel
theorem dX10_hail_13 : decode cX10_hail 13 = .ok (.ireturn, 1) := by decide +kernel
theorem dX10_records_0 : decode cX10_records 0 = .ok (.bipush 34, 2) := by decide +kernel
theorem dX10_records_2 : decode cX10_records 2 = .ok (.istore_n 1, 1) := by decide +kernel
theorem dX10_records_3 : decode cX10_records 3 = .ok (.iload_n 1, 1) := by decide +kernel
theorem dX10_records_4 : decode cX10_records 4 = .ok (.bipush 7, 2) := by decide +kernel
theorem dX10_records_6 : decode cX10_records 6 = .ok (.if_icmp .lt 30, 3) := by decide +kernel
theorem dX10_records_9 : decode cX10_records 9 = .ok (.aload_n 0, 1) := by decide +kernel
theorem dX10_records_10 : decode cX10_records 10 = .ok (.getfield 9, 3) := by decide +kernel
theorem dX10_records_13 : decode cX10_records 13 = .ok (.bipush 61, 2) := by decide +kernel
theorem dX10_records_15 : decode cX10_records 15 = .ok (.iload_n 1, 1) := by decide +kernel
theorem dX10_records_16 : decode cX10_records 16 = .ok (.iadd, 1) := by decide +kernel
theorem dX10_records_17 : decode cX10_records 17 = .ok (.aload_n 0, 1) := by decide +kernel
theorem dX10_records_18 : decode cX10_records 18 = .ok (.getfield 9, 3) := by decide +kernel
theorem dX10_records_21 : decode cX10_records 21 = .ok (.bipush 61, 2) := by decide +kernel
theorem dX10_records_23 : decode cX10_records 23 = .ok (.iload_n 1, 1) := by decide +kernel
theorem dX10_records_24 : decode cX10_records 24 = .ok (.iadd, 1) := by decide +kernel
theorem dX10_records_25 : decode cX10_records 25 = .ok (.bipush 7, 2) := by decide +kernel
theorem dX10_records_27 : decode cX10_records 27 = .ok (.isub, 1) := by decide +kernel
theorem dX10_records_28 : decode cX10_records 28 = .ok (.iaload, 1) := by decide +kernel
theorem dX10_records_29 : decode cX10_records 29 = .ok (.iastore, 1) := by decide +kernel
theorem dX10_records_30 : decode cX10_records 30 = .ok (.iinc 1 (-1), 3) := by decide +kernel
theorem dX10_records_33 : decode cX10_records 33 = .ok (.goto (-30), 3) := by decide +kernel
theorem dX10_records_36 : decode cX10_records 36 = .ok (.aload_n 0, 1) := by decide +kernel
theorem dX10_records_37 : decode cX10_records 37 = .ok (.getfield 9, 3) := by decide +kernel
theorem dX10_records_40 : decode cX10_records 40 = .ok (.bipush 61, 2) := by decide +kernel
theorem dX10_records_42 : decode cX10_records 42 = .ok (.aload_n 0, 1) := by decide +kernel
theorem dX10_records_43 : decode cX10_records 43 = .ok (.getfield 9, 3) := by decide +kernel
theorem dX10_records_46 : decode cX10_records 46 = .ok (.iconst 0, 1) := by decide +kernel
theorem dX10_records_47 : decode cX10_records 47 = .ok (.iaload, 1) := by decide +kernel
theorem dX10_records_48 : decode cX10_records 48 = .ok (.iastore, 1) := by decide +kernel
theorem dX10_records_49 : decode cX10_records 49 = .ok (.iconst 0, 1) := by decide +kernel
theorem dX10_records_50 : decode cX10_records 50 = .ok (.istore_n 1, 1) := by decide +kernel
theorem dX10_records_51 : decode cX10_records 51 = .ok (.iload_n 1, 1) := by decide +kernel
theorem dX10_records_52 : decode cX10_records 52 = .ok (.bipush 6, 2) := by decide +kernel
theorem dX10_records_54 : decode cX10_records 54 = .ok (.if_icmp .ge 38, 3) := by decide +kernel
theorem dX10_records_57 : decode cX10_records 57 = .ok (.aload_n 0, 1) := by decide +kernel
theorem dX10_records_58 : decode cX10_records 58 = .ok (.getfield 9, 3) := by decide +kernel
theorem dX10_records_61 : decode cX10_records 61 = .ok (.bipush 62, 2) := by decide +kernel
theorem dX10_records_63 : decode cX10_records 63 = .ok (.iload_n 1, 1) := by decide +kernel
theorem dX10_records_64 : decode cX10_records 64 = .ok (.iadd, 1) := by decide +kernel
theorem dX10_records_65 : decode cX10_records 65 = .ok (.iload_n 1, 1) := by decide +kernel
theorem dX10_records_66 : decode cX10_records 66 = .ok (.aload_n 0, 1) := by decide +kernel
theorem dX10_records_67 : decode cX10_records 67 = .ok (.getfield 9, 3) := by decide +kernel
theorem dX10_records_70 : decode cX10_records 70 = .ok (.iconst 0, 1) := by decide +kernel
theorem dX10_records_71 : decode cX10_records 71 = .ok (.iaload, 1) := by decide +kernel
theorem dX10_records_72 : decode cX10_records 72 = .ok (.if_icmp .ge 12, 3) := by decide +kernel
theorem dX10_records_75 : decode cX10_records 75 = .ok (.aload_n 0, 1) := by decide +kernel
theorem dX10_records_76 : decode cX10_records 76 = .ok (.iload_n 1, 1) := by decide +kernel
theorem dX10_records_77 : decode cX10_records 77 = .ok (.iconst 3, 1) := by decide +kernel
theorem dX10_records_78 : decode cX10_records 78 = .ok (.invokevirtual 60, 3) := by decide +kernel
theorem dX10_records_81 : decode cX10_records 81 = .ok (.goto 4, 3) := by decide +kernel
theorem dX10_records_84 : decode cX10_records 84 = .ok (.iconst 0, 1) := by decide +kernel
theorem dX10_records_85 : decode cX10_records 85 = .ok (.iastore, 1) := by decide +kernel
theorem dX10_records_86 : decode cX10_records 86 = .ok (.iinc 1 1, 3) := by decide +kernel
theorem dX10_records_89 : decode cX10_records 89 = .ok (.goto (-38), 3) := by decide +kernel
theorem dX10_records_92 : decode cX10_records 92 = .ok (.aload_n 0, 1) := by decide +kernel
theorem dX10_records_93 : decode cX10_records 93 = .ok (.getfield 9, 3) := by decide +kernel
theorem dX10_records_96 : decode cX10_records 96 = .ok (.bipush 8, 2) := by decide +kernel
theorem dX10_records_98 : decode cX10_records 98 = .ok (.aload_n 0, 1) := by decide +kernel
theorem dX10_records_99 : decode cX10_records 99 = .ok (.getfield 9, 3) := by decide +kernel
theorem dX10_records_102 : decode cX10_records 102 = .ok (.bipush 8, 2) := by decide +kernel
theorem dX10_records_104 : decode cX10_records 104 = .ok (.iaload, 1) := by decide +kernel
theorem dX10_records_105 : decode cX10_records 105 = .ok (.iconst 5, 1) := by decide +kernel
theorem dX10_records_106 : decode cX10_records 106 = .ok (.if_icmp .ge 15, 3) := by decide +kernel
theorem dX10_records_109 : decode cX10_records 109 = .ok (.aload_n 0, 1) := by decide +kernel
theorem dX10_records_110 : decode cX10_records 110 = .ok (.getfield 9, 3) := by decide +kernel
theorem dX10_records_113 : decode cX10_records 113 = .ok (.bipush 8, 2) := by decide +kernel
theorem dX10_records_115 : decode cX10_records 115 = .ok (.iaload, 1) := by decide +kernel
theorem dX10_records_116 : decode cX10_records 116 = .ok (.iconst 1, 1) := by decide +kernel
theorem dX10_records_117 : decode cX10_records 117 = .ok (.iadd, 1) := by decide +kernel
theorem dX10_records_118 : decode cX10_records 118 = .ok (.goto 4, 3) := by decide +kernel
theorem dX10_records_121 : decode cX10_records 121 = .ok (.iconst 5, 1) := by decide +kernel
theorem dX10_records_122 : decode cX10_records 122 = .ok (.iastore, 1) := by decide +kernel
theorem dX10_records_123 : decode cX10_records 123 = .ok (.return_, 1) := by decide +kernel
theorem dX10_dawns_0 : decode cX10_dawns 0 = .ok (.iconst 0, 1) := by decide +kernel
theorem dX10_dawns_1 : decode cX10_dawns 1 = .ok (.istore_n 1, 1) := by decide +kernel
theorem dX10_dawns_2 : decode cX10_dawns 2 = .ok (.iconst 0, 1) := by decide +kernel
theorem dX10_dawns_3 : decode cX10_dawns 3 = .ok (.istore_n 2, 1) := by decide +kernel
theorem dX10_dawns_4 : decode cX10_dawns 4 = .ok (.iload_n 2, 1) := by decide +kernel
theorem dX10_dawns_5 : decode cX10_dawns 5 = .ok (.aload_n 0, 1) := by decide +kernel
theorem dX10_dawns_6 : decode cX10_dawns 6 = .ok (.getfield 9, 3) := by decide +kernel
theorem dX10_dawns_9 : decode cX10_dawns 9 = .ok (.iconst 0, 1) := by decide +kernel
theorem dX10_dawns_10 : decode cX10_dawns 10 = .ok (.iaload, 1) := by decide +kernel
theorem dX10_dawns_11 : decode cX10_dawns 11 = .ok (.if_icmp .ge 49, 3) := by decide +kernel
theorem dX10_dawns_14 : decode cX10_dawns 14 = .ok (.aload_n 0, 1) := by decide +kernel
theorem dX10_dawns_15 : decode cX10_dawns 15 = .ok (.iload_n 2, 1) := by decide +kernel
theorem dX10_dawns_16 : decode cX10_dawns 16 = .ok (.invokevirtual 141, 3) := by decide +kernel
theorem dX10_dawns_19 : decode cX10_dawns 19 = .ok (.ifCond .ne 6, 3) := by decide +kernel
theorem dX10_dawns_22 : decode cX10_dawns 22 = .ok (.goto 32, 3) := by decide +kernel
theorem dX10_dawns_25 : decode cX10_dawns 25 = .ok (.aload_n 0, 1) := by decide +kernel
theorem dX10_dawns_26 : decode cX10_dawns 26 = .ok (.iload_n 2, 1) := by decide +kernel
theorem dX10_dawns_27 : decode cX10_dawns 27 = .ok (.iconst 3, 1) := by decide +kernel
theorem dX10_dawns_28 : decode cX10_dawns 28 = .ok (.iconst 0, 1) := by decide +kernel
theorem dX10_dawns_29 : decode cX10_dawns 29 = .ok (.invokevirtual 64, 3) := by decide +kernel
theorem dX10_dawns_32 : decode cX10_dawns 32 = .ok (.aload_n 0, 1) := by decide +kernel
theorem dX10_dawns_33 : decode cX10_dawns 33 = .ok (.iload_n 2, 1) := by decide +kernel
theorem dX10_dawns_34 : decode cX10_dawns 34 = .ok (.iconst 4, 1) := by decide +kernel
theorem dX10_dawns_35 : decode cX10_dawns 35 = .ok (.iconst 0, 1) := by decide +kernel
theorem dX10_dawns_36 : decode cX10_dawns 36 = .ok (.invokevirtual 64, 3) := by decide +kernel
theorem dX10_dawns_39 : decode cX10_dawns 39 = .ok (.aload_n 0, 1) := by decide +kernel
theorem dX10_dawns_40 : decode cX10_dawns 40 = .ok (.iload_n 2, 1) := by decide +kernel
theorem dX10_dawns_41 : decode cX10_dawns 41 = .ok (.invokevirtual 131, 3) := by decide +kernel
theorem dX10_dawns_44 : decode cX10_dawns 44 = .ok (.aload_n 0, 1) := by decide +kernel
theorem dX10_dawns_45 : decode cX10_dawns 45 = .ok (.getfield 9, 3) := by decide +kernel
theorem dX10_dawns_48 : decode cX10_dawns 48 = .ok (.iconst 2, 1) := by decide +kernel
theorem dX10_dawns_49 : decode cX10_dawns 49 = .ok (.dup2, 1) := by decide +kernel
theorem dX10_dawns_50 : decode cX10_dawns 50 = .ok (.iaload, 1) := by decide +kernel
theorem dX10_dawns_51 : decode cX10_dawns 51 = .ok (.iconst 1, 1) := by decide +kernel
theorem dX10_dawns_52 : decode cX10_dawns 52 = .ok (.iadd, 1) := by decide +kernel
theorem dX10_dawns_53 : decode cX10_dawns 53 = .ok (.iastore, 1) := by decide +kernel
theorem dX10_dawns_54 : decode cX10_dawns 54 = .ok (.iinc 2 1, 3) := by decide +kernel
theorem dX10_dawns_57 : decode cX10_dawns 57 = .ok (.goto (-53), 3) := by decide +kernel
theorem dX10_dawns_60 : decode cX10_dawns 60 = .ok (.iconst 0, 1) := by decide +kernel
theorem dX10_dawns_61 : decode cX10_dawns 61 = .ok (.istore_n 2, 1) := by decide +kernel
theorem dX10_dawns_62 : decode cX10_dawns 62 = .ok (.iload_n 2, 1) := by decide +kernel
theorem dX10_dawns_63 : decode cX10_dawns 63 = .ok (.aload_n 0, 1) := by decide +kernel
theorem dX10_dawns_64 : decode cX10_dawns 64 = .ok (.getfield 9, 3) := by decide +kernel
theorem dX10_dawns_67 : decode cX10_dawns 67 = .ok (.iconst 0, 1) := by decide +kernel
theorem dX10_dawns_68 : decode cX10_dawns 68 = .ok (.iaload, 1) := by decide +kernel
theorem dX10_dawns_69 : decode cX10_dawns 69 = .ok (.if_icmp .ge 87, 3) := by decide +kernel
theorem dX10_dawns_72 : decode cX10_dawns 72 = .ok (.aload_n 0, 1) := by decide +kernel
theorem dX10_dawns_73 : decode cX10_dawns 73 = .ok (.getfield 9, 3) := by decide +kernel
theorem dX10_dawns_76 : decode cX10_dawns 76 = .ok (.bipush 13, 2) := by decide +kernel
theorem dX10_dawns_78 : decode cX10_dawns 78 = .ok (.aload_n 0, 1) := by decide +kernel
theorem dX10_dawns_79 : decode cX10_dawns 79 = .ok (.iload_n 2, 1) := by decide +kernel
theorem dX10_dawns_80 : decode cX10_dawns 80 = .ok (.iconst 0, 1) := by decide +kernel
theorem dX10_dawns_81 : decode cX10_dawns 81 = .ok (.invokevirtual 60, 3) := by decide +kernel
theorem dX10_dawns_84 : decode cX10_dawns 84 = .ok (.iadd, 1) := by decide +kernel
theorem dX10_dawns_85 : decode cX10_dawns 85 = .ok (.iaload, 1) := by decide +kernel
theorem dX10_dawns_86 : decode cX10_dawns 86 = .ok (.iconst 1, 1) := by decide +kernel
theorem dX10_dawns_87 : decode cX10_dawns 87 = .ok (.isub, 1) := by decide +kernel
theorem dX10_dawns_88 : decode cX10_dawns 88 = .ok (.istore_n 3, 1) := by decide +kernel
theorem dX10_dawns_89 : decode cX10_dawns 89 = .ok (.aload_n 0, 1) := by decide +kernel
theorem dX10_dawns_90 : decode cX10_dawns 90 = .ok (.iload_n 2, 1) := by decide +kernel
theorem dX10_dawns_91 : decode cX10_dawns 91 = .ok (.invokevirtual 100, 3) := by decide +kernel
theorem dX10_dawns_94 : decode cX10_dawns 94 = .ok (.ifCond .ge 16, 3) := by decide +kernel
theorem dX10_dawns_97 : decode cX10_dawns 97 = .ok (.iload_n 3, 1) := by decide +kernel
theorem dX10_dawns_98 : decode cX10_dawns 98 = .ok (.ifCond .lt 12, 3) := by decide +kernel
theorem dX10_dawns_101 : decode cX10_dawns 101 = .ok (.aload_n 0, 1) := by decide +kernel
theorem dX10_dawns_102 : decode cX10_dawns 102 = .ok (.iload_n 2, 1) := by decide +kernel
theorem dX10_dawns_103 : decode cX10_dawns 103 = .ok (.iload_n 3, 1) := by decide +kernel
theorem dX10_dawns_104 : decode cX10_dawns 104 = .ok (.invokevirtual 110, 3) := by decide +kernel
theorem dX10_dawns_107 : decode cX10_dawns 107 = .ok (.iinc 1 1, 3) := by decide +kernel
theorem dX10_dawns_110 : decode cX10_dawns 110 = .ok (.iload_n 3, 1) := by decide +kernel
theorem dX10_dawns_111 : decode cX10_dawns 111 = .ok (.ifCond .lt 39, 3) := by decide +kernel
theorem dX10_dawns_114 : decode cX10_dawns 114 = .ok (.aload_n 0, 1) := by decide +kernel
theorem dX10_dawns_115 : decode cX10_dawns 115 = .ok (.iload_n 2, 1) := by decide +kernel
theorem dX10_dawns_116 : decode cX10_dawns 116 = .ok (.invokevirtual 100, 3) := by decide +kernel
theorem dX10_dawns_119 : decode cX10_dawns 119 = .ok (.iload_n 3, 1) := by decide +kernel
theorem dX10_dawns_120 : decode cX10_dawns 120 = .ok (.if_icmp .eq 6, 3) := by decide +kernel
theorem dX10_dawns_123 : decode cX10_dawns 123 = .ok (.goto 27, 3) := by decide +kernel
theorem dX10_dawns_126 : decode cX10_dawns 126 = .ok (.aload_n 0, 1) := by decide +kernel
theorem dX10_dawns_127 : decode cX10_dawns 127 = .ok (.getfield 9, 3) := by decide +kernel
theorem dX10_dawns_130 : decode cX10_dawns 130 = .ok (.bipush 9, 2) := by decide +kernel
theorem dX10_dawns_132 : decode cX10_dawns 132 = .ok (.iload_n 3, 1) := by decide +kernel
theorem dX10_dawns_133 : decode cX10_dawns 133 = .ok (.iadd, 1) := by decide +kernel
theorem dX10_dawns_134 : decode cX10_dawns 134 = .ok (.dup2, 1) := by decide +kernel
theorem dX10_dawns_135 : decode cX10_dawns 135 = .ok (.iaload, 1) := by decide +kernel
theorem dX10_dawns_136 : decode cX10_dawns 136 = .ok (.iconst 1, 1) := by decide +kernel
theorem dX10_dawns_137 : decode cX10_dawns 137 = .ok (.iadd, 1) := by decide +kernel
theorem dX10_dawns_138 : decode cX10_dawns 138 = .ok (.iastore, 1) := by decide +kernel
theorem dX10_dawns_139 : decode cX10_dawns 139 = .ok (.aload_n 0, 1) := by decide +kernel
theorem dX10_dawns_140 : decode cX10_dawns 140 = .ok (.getfield 9, 3) := by decide +kernel
theorem dX10_dawns_143 : decode cX10_dawns 143 = .ok (.bipush 7, 2) := by decide +kernel
theorem dX10_dawns_145 : decode cX10_dawns 145 = .ok (.dup2, 1) := by decide +kernel
theorem dX10_dawns_146 : decode cX10_dawns 146 = .ok (.iaload, 1) := by decide +kernel
theorem dX10_dawns_147 : decode cX10_dawns 147 = .ok (.iconst 1, 1) := by decide +kernel
theorem dX10_dawns_148 : decode cX10_dawns 148 = .ok (.iadd, 1) := by decide +kernel
theorem dX10_dawns_149 : decode cX10_dawns 149 = .ok (.iastore, 1) := by decide +kernel
theorem dX10_dawns_150 : decode cX10_dawns 150 = .ok (.iinc 2 1, 3) := by decide +kernel
theorem dX10_dawns_153 : decode cX10_dawns 153 = .ok (.goto (-91), 3) := by decide +kernel
theorem dX10_dawns_156 : decode cX10_dawns 156 = .ok (.aload_n 0, 1) := by decide +kernel
theorem dX10_dawns_157 : decode cX10_dawns 157 = .ok (.getfield 9, 3) := by decide +kernel
theorem dX10_dawns_160 : decode cX10_dawns 160 = .ok (.iconst 3, 1) := by decide +kernel
theorem dX10_dawns_161 : decode cX10_dawns 161 = .ok (.dup2, 1) := by decide +kernel
theorem dX10_dawns_162 : decode cX10_dawns 162 = .ok (.iaload, 1) := by decide +kernel
theorem dX10_dawns_163 : decode cX10_dawns 163 = .ok (.iload_n 1, 1) := by decide +kernel
theorem dX10_dawns_164 : decode cX10_dawns 164 = .ok (.iadd, 1) := by decide +kernel
theorem dX10_dawns_165 : decode cX10_dawns 165 = .ok (.iastore, 1) := by decide +kernel
theorem dX10_dawns_166 : decode cX10_dawns 166 = .ok (.aload_n 0, 1) := by decide +kernel
theorem dX10_dawns_167 : decode cX10_dawns 167 = .ok (.getfield 9, 3) := by decide +kernel
theorem dX10_dawns_170 : decode cX10_dawns 170 = .ok (.iconst 1, 1) := by decide +kernel
theorem dX10_dawns_171 : decode cX10_dawns 171 = .ok (.dup2, 1) := by decide +kernel
theorem dX10_dawns_172 : decode cX10_dawns 172 = .ok (.iaload, 1) := by decide +kernel
theorem dX10_dawns_173 : decode cX10_dawns 173 = .ok (.iconst 1, 1) := by decide +kernel
theorem dX10_dawns_174 : decode cX10_dawns 174 = .ok (.iadd, 1) := by decide +kernel
theorem dX10_dawns_175 : decode cX10_dawns 175 = .ok (.iastore, 1) := by decide +kernel
theorem dX10_dawns_176 : decode cX10_dawns 176 = .ok (.aload_n 0, 1) := by decide +kernel
theorem dX10_dawns_177 : decode cX10_dawns 177 = .ok (.invokevirtual 153, 3) := by decide +kernel
theorem dX10_dawns_180 : decode cX10_dawns 180 = .ok (.iload_n 1, 1) := by decide +kernel
theorem dX10_dawns_181 : decode cX10_dawns 181 = .ok (.ireturn, 1) := by decide +kernel
theorem dX10_dawn_0 : decode cX10_dawn 0 = .ok (.aload_n 0, 1) := by decide +kernel
theorem dX10_dawn_1 : decode cX10_dawn 1 = .ok (.invokevirtual 76, 3) := by decide +kernel
theorem dX10_dawn_4 : decode cX10_dawn 4 = .ok (.aload_n 0, 1) := by decide +kernel
theorem dX10_dawn_5 : decode cX10_dawn 5 = .ok (.aload_n 0, 1) := by decide +kernel
theorem dX10_dawn_6 : decode cX10_dawn 6 = .ok (.invokevirtual 156, 3) := by decide +kernel
theorem dX10_dawn_9 : decode cX10_dawn 9 = .ok (.putfield 37, 3) := by decide +kernel
theorem dX10_dawn_12 : decode cX10_dawn 12 = .ok (.aload_n 0, 1) := by decide +kernel
theorem dX10_dawn_13 : decode cX10_dawn 13 = .ok (.iconst 1, 1) := by decide +kernel
theorem dX10_dawn_14 : decode cX10_dawn 14 = .ok (.invokevirtual 82, 3) := by decide +kernel
theorem dX10_dawn_17 : decode cX10_dawn 17 = .ok (.ireturn, 1) := by decide +kernel
theorem dX10_cloudOf_0 : decode cX10_cloudOf 0 = .ok (.aload_n 0, 1) := by decide +kernel
theorem dX10_cloudOf_1 : decode cX10_cloudOf 1 = .ok (.aload_n 0, 1) := by decide +kernel
theorem dX10_cloudOf_2 : decode cX10_cloudOf 2 = .ok (.iload_n 1, 1) := by decide +kernel
theorem dX10_cloudOf_3 : decode cX10_cloudOf 3 = .ok (.invokevirtual 94, 3) := by decide +kernel
theorem dX10_cloudOf_6 : decode cX10_cloudOf 6 = .ok (.ifCond .ne 7, 3) := by decide +kernel
theorem dX10_cloudOf_9 : decode cX10_cloudOf 9 = .ok (.iconst 1, 1) := by decide +kernel
theorem dX10_cloudOf_10 : decode cX10_cloudOf 10 = .ok (.goto 18, 3) := by decide +kernel
theorem dX10_cloudOf_13 : decode cX10_cloudOf 13 = .ok (.iload_n 2, 1) := by decide +kernel
theorem dX10_cloudOf_14 : decode cX10_cloudOf 14 = .ok (.iconst 0, 1) := by decide +kernel
theorem dX10_cloudOf_15 : decode cX10_cloudOf 15 = .ok (.bipush 6, 2) := by decide +kernel
theorem dX10_cloudOf_17 : decode cX10_cloudOf 17 = .ok (.invokestatic 56, 3) := by decide +kernel
theorem dX10_cloudOf_20 : decode cX10_cloudOf 20 = .ok (.ifCond .eq 7, 3) := by decide +kernel
theorem dX10_cloudOf_23 : decode cX10_cloudOf 23 = .ok (.iconst 0, 1) := by decide +kernel
theorem dX10_cloudOf_24 : decode cX10_cloudOf 24 = .ok (.goto 4, 3) := by decide +kernel
theorem dX10_cloudOf_27 : decode cX10_cloudOf 27 = .ok (.iconst 2, 1) := by decide +kernel
theorem dX10_cloudOf_28 : decode cX10_cloudOf 28 = .ok (.putfield 27, 3) := by decide +kernel
theorem dX10_cloudOf_31 : decode cX10_cloudOf 31 = .ok (.aload_n 0, 1) := by decide +kernel
theorem dX10_cloudOf_32 : decode cX10_cloudOf 32 = .ok (.getfield 27, 3) := by decide +kernel
theorem dX10_cloudOf_35 : decode cX10_cloudOf 35 = .ok (.ifCond .eq 5, 3) := by decide +kernel
theorem dX10_cloudOf_38 : decode cX10_cloudOf 38 = .ok (.iconst 0, 1) := by decide +kernel
theorem dX10_cloudOf_39 : decode cX10_cloudOf 39 = .ok (.ireturn, 1) := by decide +kernel
theorem dX10_cloudOf_40 : decode cX10_cloudOf 40 = .ok (.iload_n 2, 1) := by decide +kernel
theorem dX10_cloudOf_41 : decode cX10_cloudOf 41 = .ok (.tableswitch 68 3 6 #[31, 37, 56, 62], 31) := by decide +kernel
theorem dX10_cloudOf_72 : decode cX10_cloudOf 72 = .ok (.aload_n 0, 1) := by decide +kernel
theorem dX10_cloudOf_73 : decode cX10_cloudOf 73 = .ok (.iload_n 1, 1) := by decide +kernel
theorem dX10_cloudOf_74 : decode cX10_cloudOf 74 = .ok (.invokevirtual 100, 3) := by decide +kernel
theorem dX10_cloudOf_77 : decode cX10_cloudOf 77 = .ok (.ireturn, 1) := by decide +kernel
theorem dX10_cloudOf_78 : decode cX10_cloudOf 78 = .ok (.aload_n 0, 1) := by decide +kernel
theorem dX10_cloudOf_79 : decode cX10_cloudOf 79 = .ok (.iload_n 1, 1) := by decide +kernel
theorem dX10_cloudOf_80 : decode cX10_cloudOf 80 = .ok (.invokevirtual 100, 3) := by decide +kernel
theorem dX10_cloudOf_83 : decode cX10_cloudOf 83 = .ok (.ifCond .ge 7, 3) := by decide +kernel
theorem dX10_cloudOf_86 : decode cX10_cloudOf 86 = .ok (.iconst (-1), 1) := by decide +kernel
theorem dX10_cloudOf_87 : decode cX10_cloudOf 87 = .ok (.goto 9, 3) := by decide +kernel
theorem dX10_cloudOf_90 : decode cX10_cloudOf 90 = .ok (.aload_n 0, 1) := by decide +kernel
theorem dX10_cloudOf_91 : decode cX10_cloudOf 91 = .ok (.iload_n 1, 1) := by decide +kernel
theorem dX10_cloudOf_92 : decode cX10_cloudOf 92 = .ok (.iconst 4, 1) := by decide +kernel
theorem dX10_cloudOf_93 : decode cX10_cloudOf 93 = .ok (.invokevirtual 60, 3) := by decide +kernel
theorem dX10_cloudOf_96 : decode cX10_cloudOf 96 = .ok (.ireturn, 1) := by decide +kernel
theorem dX10_cloudOf_97 : decode cX10_cloudOf 97 = .ok (.aload_n 0, 1) := by decide +kernel
theorem dX10_cloudOf_98 : decode cX10_cloudOf 98 = .ok (.iload_n 1, 1) := by decide +kernel
theorem dX10_cloudOf_99 : decode cX10_cloudOf 99 = .ok (.invokevirtual 116, 3) := by decide +kernel
theorem dX10_cloudOf_102 : decode cX10_cloudOf 102 = .ok (.ireturn, 1) := by decide +kernel
theorem dX10_cloudOf_103 : decode cX10_cloudOf 103 = .ok (.aload_n 0, 1) := by decide +kernel
theorem dX10_cloudOf_104 : decode cX10_cloudOf 104 = .ok (.iload_n 1, 1) := by decide +kernel
theorem dX10_cloudOf_105 : decode cX10_cloudOf 105 = .ok (.invokevirtual 128, 3) := by decide +kernel
theorem dX10_cloudOf_108 : decode cX10_cloudOf 108 = .ok (.ireturn, 1) := by decide +kernel
theorem dX10_cloudOf_109 : decode cX10_cloudOf 109 = .ok (.aload_n 0, 1) := by decide +kernel
theorem dX10_cloudOf_110 : decode cX10_cloudOf 110 = .ok (.iload_n 1, 1) := by decide +kernel
theorem dX10_cloudOf_111 : decode cX10_cloudOf 111 = .ok (.iload_n 2, 1) := by decide +kernel
theorem dX10_cloudOf_112 : decode cX10_cloudOf 112 = .ok (.invokevirtual 60, 3) := by decide +kernel
theorem dX10_cloudOf_115 : decode cX10_cloudOf 115 = .ok (.ireturn, 1) := by decide +kernel
theorem dX10_vinesOf_0 : decode cX10_vinesOf 0 = .ok (.iconst 0, 1) := by decide +kernel
theorem dX10_vinesOf_1 : decode cX10_vinesOf 1 = .ok (.istore_n 2, 1) := by decide +kernel
theorem dX10_vinesOf_2 : decode cX10_vinesOf 2 = .ok (.iconst 0, 1) := by decide +kernel
theorem dX10_vinesOf_3 : decode cX10_vinesOf 3 = .ok (.istore_n 3, 1) := by decide +kernel
theorem dX10_vinesOf_4 : decode cX10_vinesOf 4 = .ok (.iload_n 3, 1) := by decide +kernel
theorem dX10_vinesOf_5 : decode cX10_vinesOf 5 = .ok (.bipush 6, 2) := by decide +kernel
theorem dX10_vinesOf_7 : decode cX10_vinesOf 7 = .ok (.if_icmp .ge 32, 3) := by decide +kernel
theorem dX10_vinesOf_10 : decode cX10_vinesOf 10 = .ok (.iload_n 2, 1) := by decide +kernel
theorem dX10_vinesOf_11 : decode cX10_vinesOf 11 = .ok (.aload_n 0, 1) := by decide +kernel
theorem dX10_vinesOf_12 : decode cX10_vinesOf 12 = .ok (.getfield 9, 3) := by decide +kernel
theorem dX10_vinesOf_15 : decode cX10_vinesOf 15 = .ok (.bipush 13, 2) := by decide +kernel
theorem dX10_vinesOf_17 : decode cX10_vinesOf 17 = .ok (.iload_n 3, 1) := by decide +kernel
theorem dX10_vinesOf_18 : decode cX10_vinesOf 18 = .ok (.iadd, 1) := by decide +kernel
theorem dX10_vinesOf_19 : decode cX10_vinesOf 19 = .ok (.iaload, 1) := by decide +kernel
theorem dX10_vinesOf_20 : decode cX10_vinesOf 20 = .ok (.iload_n 1, 1) := by decide +kernel
theorem dX10_vinesOf_21 : decode cX10_vinesOf 21 = .ok (.iconst 1, 1) := by decide +kernel
theorem dX10_vinesOf_22 : decode cX10_vinesOf 22 = .ok (.iadd, 1) := by decide +kernel
theorem dX10_vinesOf_23 : decode cX10_vinesOf 23 = .ok (.if_icmp .ne 7, 3) := by decide +kernel
theorem dX10_vinesOf_26 : decode cX10_vinesOf 26 = .ok (.iconst 1, 1) := by decide +kernel
theorem dX10_vinesOf_27 : decode cX10_vinesOf 27 = .ok (.goto 4, 3) := by decide +kernel
theorem dX10_vinesOf_30 : decode cX10_vinesOf 30 = .ok (.iconst 0, 1) := by decide +kernel
theorem dX10_vinesOf_31 : decode cX10_vinesOf 31 = .ok (.iadd, 1) := by decide +kernel
theorem dX10_vinesOf_32 : decode cX10_vinesOf 32 = .ok (.istore_n 2, 1) := by decide +kernel
theorem dX10_vinesOf_33 : decode cX10_vinesOf 33 = .ok (.iinc 3 1, 3) := by decide +kernel
theorem dX10_vinesOf_36 : decode cX10_vinesOf 36 = .ok (.goto (-32), 3) := by decide +kernel
theorem dX10_vinesOf_39 : decode cX10_vinesOf 39 = .ok (.iload_n 2, 1) := by decide +kernel
theorem dX10_vinesOf_40 : decode cX10_vinesOf 40 = .ok (.ireturn, 1) := by decide +kernel
theorem dX10_ofOwner_0 : decode cX10_ofOwner 0 = .ok (.iconst 0, 1) := by decide +kernel
theorem dX10_ofOwner_1 : decode cX10_ofOwner 1 = .ok (.istore_n 3, 1) := by decide +kernel
theorem dX10_ofOwner_2 : decode cX10_ofOwner 2 = .ok (.iconst 0, 1) := by decide +kernel
theorem dX10_ofOwner_3 : decode cX10_ofOwner 3 = .ok (.istore 4, 2) := by decide +kernel
theorem dX10_ofOwner_5 : decode cX10_ofOwner 5 = .ok (.iload 4, 2) := by decide +kernel
theorem dX10_ofOwner_7 : decode cX10_ofOwner 7 = .ok (.aload_n 0, 1) := by decide +kernel
theorem dX10_ofOwner_8 : decode cX10_ofOwner 8 = .ok (.getfield 9, 3) := by decide +kernel
theorem dX10_ofOwner_11 : decode cX10_ofOwner 11 = .ok (.iconst 0, 1) := by decide +kernel
theorem dX10_ofOwner_12 : decode cX10_ofOwner 12 = .ok (.iaload, 1) := by decide +kernel
theorem dX10_ofOwner_13 : decode cX10_ofOwner 13 = .ok (.if_icmp .ge 95, 3) := by decide +kernel
theorem dX10_ofOwner_16 : decode cX10_ofOwner 16 = .ok (.aload_n 0, 1) := by decide +kernel
theorem dX10_ofOwner_17 : decode cX10_ofOwner 17 = .ok (.iload 4, 2) := by decide +kernel
theorem dX10_ofOwner_19 : decode cX10_ofOwner 19 = .ok (.invokevirtual 100, 3) := by decide +kernel
theorem dX10_ofOwner_22 : decode cX10_ofOwner 22 = .ok (.iload_n 1, 1) := by decide +kernel
theorem dX10_ofOwner_23 : decode cX10_ofOwner 23 = .ok (.if_icmp .ne 7, 3) := by decide +kernel
theorem dX10_ofOwner_26 : decode cX10_ofOwner 26 = .ok (.iconst 1, 1) := by decide +kernel
theorem dX10_ofOwner_27 : decode cX10_ofOwner 27 = .ok (.goto 4, 3) := by decide +kernel
theorem dX10_ofOwner_30 : decode cX10_ofOwner 30 = .ok (.iconst 0, 1) := by decide +kernel
theorem dX10_ofOwner_31 : decode cX10_ofOwner 31 = .ok (.istore 5, 2) := by decide +kernel
theorem dX10_ofOwner_33 : decode cX10_ofOwner 33 = .ok (.iload_n 3, 1) := by decide +kernel
theorem dX10_ofOwner_34 : decode cX10_ofOwner 34 = .ok (.iload_n 2, 1) := by decide +kernel
theorem dX10_ofOwner_35 : decode cX10_ofOwner 35 = .ok (.iconst 2, 1) := by decide +kernel
theorem dX10_ofOwner_36 : decode cX10_ofOwner 36 = .ok (.if_icmp .ne 21, 3) := by decide +kernel
theorem dX10_ofOwner_39 : decode cX10_ofOwner 39 = .ok (.aload_n 0, 1) := by decide +kernel
theorem dX10_ofOwner_40 : decode cX10_ofOwner 40 = .ok (.iload 4, 2) := by decide +kernel
theorem dX10_ofOwner_42 : decode cX10_ofOwner 42 = .ok (.invokevirtual 116, 3) := by decide +kernel
theorem dX10_ofOwner_45 : decode cX10_ofOwner 45 = .ok (.iload_n 1, 1) := by decide +kernel
theorem dX10_ofOwner_46 : decode cX10_ofOwner 46 = .ok (.if_icmp .ne 7, 3) := by decide +kernel
theorem dX10_ofOwner_49 : decode cX10_ofOwner 49 = .ok (.iconst 1, 1) := by decide +kernel
theorem dX10_ofOwner_50 : decode cX10_ofOwner 50 = .ok (.goto 50, 3) := by decide +kernel
theorem dX10_ofOwner_53 : decode cX10_ofOwner 53 = .ok (.iconst 0, 1) := by decide +kernel
theorem dX10_ofOwner_54 : decode cX10_ofOwner 54 = .ok (.goto 46, 3) := by decide +kernel
theorem dX10_ofOwner_57 : decode cX10_ofOwner 57 = .ok (.iload 5, 2) := by decide +kernel
theorem dX10_ofOwner_59 : decode cX10_ofOwner 59 = .ok (.ifCond .ne 7, 3) := by decide +kernel
theorem dX10_ofOwner_62 : decode cX10_ofOwner 62 = .ok (.iconst 0, 1) := by decide +kernel
theorem dX10_ofOwner_63 : decode cX10_ofOwner 63 = .ok (.goto 37, 3) := by decide +kernel
theorem dX10_ofOwner_66 : decode cX10_ofOwner 66 = .ok (.iload_n 2, 1) := by decide +kernel
theorem dX10_ofOwner_67 : decode cX10_ofOwner 67 = .ok (.iconst 4, 1) := by decide +kernel
theorem dX10_ofOwner_68 : decode cX10_ofOwner 68 = .ok (.if_icmp .ne 13, 3) := by decide +kernel
theorem dX10_ofOwner_71 : decode cX10_ofOwner 71 = .ok (.aload_n 0, 1) := by decide +kernel
theorem dX10_ofOwner_72 : decode cX10_ofOwner 72 = .ok (.iload 4, 2) := by decide +kernel
theorem dX10_ofOwner_74 : decode cX10_ofOwner 74 = .ok (.iconst 2, 1) := by decide +kernel
theorem dX10_ofOwner_75 : decode cX10_ofOwner 75 = .ok (.invokevirtual 60, 3) := by decide +kernel
theorem dX10_ofOwner_78 : decode cX10_ofOwner 78 = .ok (.goto 22, 3) := by decide +kernel
theorem dX10_ofOwner_81 : decode cX10_ofOwner 81 = .ok (.iload_n 2, 1) := by decide +kernel
theorem dX10_ofOwner_82 : decode cX10_ofOwner 82 = .ok (.iconst 5, 1) := by decide +kernel
theorem dX10_ofOwner_83 : decode cX10_ofOwner 83 = .ok (.if_icmp .eq 12, 3) := by decide +kernel
theorem dX10_ofOwner_86 : decode cX10_ofOwner 86 = .ok (.aload_n 0, 1) := by decide +kernel
theorem dX10_ofOwner_87 : decode cX10_ofOwner 87 = .ok (.iload 4, 2) := by decide +kernel
theorem dX10_ofOwner_89 : decode cX10_ofOwner 89 = .ok (.invokevirtual 116, 3) := by decide +kernel
theorem dX10_ofOwner_92 : decode cX10_ofOwner 92 = .ok (.ifCond .lt 7, 3) := by decide +kernel
theorem dX10_ofOwner_95 : decode cX10_ofOwner 95 = .ok (.iconst 1, 1) := by decide +kernel
theorem dX10_ofOwner_96 : decode cX10_ofOwner 96 = .ok (.goto 4, 3) := by decide +kernel
theorem dX10_ofOwner_99 : decode cX10_ofOwner 99 = .ok (.iconst 0, 1) := by decide +kernel
theorem dX10_ofOwner_100 : decode cX10_ofOwner 100 = .ok (.iadd, 1) := by decide +kernel
theorem dX10_ofOwner_101 : decode cX10_ofOwner 101 = .ok (.istore_n 3, 1) := by decide +kernel
theorem dX10_ofOwner_102 : decode cX10_ofOwner 102 = .ok (.iinc 4 1, 3) := by decide +kernel
theorem dX10_ofOwner_105 : decode cX10_ofOwner 105 = .ok (.goto (-100), 3) := by decide +kernel
theorem dX10_ofOwner_108 : decode cX10_ofOwner 108 = .ok (.iload_n 3, 1) := by decide +kernel
theorem dX10_ofOwner_109 : decode cX10_ofOwner 109 = .ok (.ireturn, 1) := by decide +kernel
theorem dX10_ownerOf_0 : decode cX10_ownerOf 0 = .ok (.aload_n 0, 1) := by decide +kernel
theorem dX10_ownerOf_1 : decode cX10_ownerOf 1 = .ok (.iload_n 1, 1) := by decide +kernel
theorem dX10_ownerOf_2 : decode cX10_ownerOf 2 = .ok (.invokestatic 97, 3) := by decide +kernel
theorem dX10_ownerOf_5 : decode cX10_ownerOf 5 = .ok (.ifCond .ne 7, 3) := by decide +kernel
theorem dX10_ownerOf_8 : decode cX10_ownerOf 8 = .ok (.iconst 1, 1) := by decide +kernel
theorem dX10_ownerOf_9 : decode cX10_ownerOf 9 = .ok (.goto 17, 3) := by decide +kernel
theorem dX10_ownerOf_12 : decode cX10_ownerOf 12 = .ok (.iload_n 2, 1) := by decide +kernel
theorem dX10_ownerOf_13 : decode cX10_ownerOf 13 = .ok (.iconst 0, 1) := by decide +kernel
theorem dX10_ownerOf_14 : decode cX10_ownerOf 14 = .ok (.iconst 4, 1) := by decide +kernel
theorem dX10_ownerOf_15 : decode cX10_ownerOf 15 = .ok (.invokestatic 56, 3) := by decide +kernel
theorem dX10_ownerOf_18 : decode cX10_ownerOf 18 = .ok (.ifCond .eq 7, 3) := by decide +kernel
theorem dX10_ownerOf_21 : decode cX10_ownerOf 21 = .ok (.iconst 0, 1) := by decide +kernel
theorem dX10_ownerOf_22 : decode cX10_ownerOf 22 = .ok (.goto 4, 3) := by decide +kernel
theorem dX10_ownerOf_25 : decode cX10_ownerOf 25 = .ok (.iconst 2, 1) := by decide +kernel
theorem dX10_ownerOf_26 : decode cX10_ownerOf 26 = .ok (.putfield 27, 3) := by decide +kernel
theorem dX10_ownerOf_29 : decode cX10_ownerOf 29 = .ok (.aload_n 0, 1) := by decide +kernel
theorem dX10_ownerOf_30 : decode cX10_ownerOf 30 = .ok (.getfield 27, 3) := by decide +kernel
theorem dX10_ownerOf_33 : decode cX10_ownerOf 33 = .ok (.ifCond .eq 5, 3) := by decide +kernel
theorem dX10_ownerOf_36 : decode cX10_ownerOf 36 = .ok (.iconst 0, 1) := by decide +kernel
theorem dX10_ownerOf_37 : decode cX10_ownerOf 37 = .ok (.ireturn, 1) := by decide +kernel
theorem dX10_ownerOf_38 : decode cX10_ownerOf 38 = .ok (.iload_n 2, 1) := by decide +kernel
theorem dX10_ownerOf_39 : decode cX10_ownerOf 39 = .ok (.ifCond .ne 11, 3) := by decide +kernel
theorem dX10_ownerOf_42 : decode cX10_ownerOf 42 = .ok (.aload_n 0, 1) := by decide +kernel
theorem dX10_ownerOf_43 : decode cX10_ownerOf 43 = .ok (.iload_n 1, 1) := by decide +kernel
theorem dX10_ownerOf_44 : decode cX10_ownerOf 44 = .ok (.invokevirtual 104, 3) := by decide +kernel
theorem dX10_ownerOf_47 : decode cX10_ownerOf 47 = .ok (.goto 22, 3) := by decide +kernel
theorem dX10_ownerOf_50 : decode cX10_ownerOf 50 = .ok (.iload_n 2, 1) := by decide +kernel
theorem dX10_ownerOf_51 : decode cX10_ownerOf 51 = .ok (.iconst 1, 1) := by decide +kernel
theorem dX10_ownerOf_52 : decode cX10_ownerOf 52 = .ok (.if_icmp .ne 11, 3) := by decide +kernel
theorem dX10_ownerOf_55 : decode cX10_ownerOf 55 = .ok (.aload_n 0, 1) := by decide +kernel
theorem dX10_ownerOf_56 : decode cX10_ownerOf 56 = .ok (.iload_n 1, 1) := by decide +kernel
theorem dX10_ownerOf_57 : decode cX10_ownerOf 57 = .ok (.invokevirtual 159, 3) := by decide +kernel
theorem dX10_ownerOf_60 : decode cX10_ownerOf 60 = .ok (.goto 9, 3) := by decide +kernel
theorem dX10_ownerOf_63 : decode cX10_ownerOf 63 = .ok (.aload_n 0, 1) := by decide +kernel
theorem dX10_ownerOf_64 : decode cX10_ownerOf 64 = .ok (.iload_n 1, 1) := by decide +kernel
theorem dX10_ownerOf_65 : decode cX10_ownerOf 65 = .ok (.iload_n 2, 1) := by decide +kernel
theorem dX10_ownerOf_66 : decode cX10_ownerOf 66 = .ok (.invokevirtual 162, 3) := by decide +kernel
theorem dX10_ownerOf_69 : decode cX10_ownerOf 69 = .ok (.ireturn, 1) := by decide +kernel
theorem dX10_vineyardOf_0 : decode cX10_vineyardOf 0 = .ok (.aload_n 0, 1) := by decide +kernel
theorem dX10_vineyardOf_1 : decode cX10_vineyardOf 1 = .ok (.iload_n 1, 1) := by decide +kernel
theorem dX10_vineyardOf_2 : decode cX10_vineyardOf 2 = .ok (.invokestatic 68, 3) := by decide +kernel
theorem dX10_vineyardOf_5 : decode cX10_vineyardOf 5 = .ok (.ifCond .ne 7, 3) := by decide +kernel
theorem dX10_vineyardOf_8 : decode cX10_vineyardOf 8 = .ok (.iconst 1, 1) := by decide +kernel
theorem dX10_vineyardOf_9 : decode cX10_vineyardOf 9 = .ok (.goto 17, 3) := by decide +kernel
theorem dX10_vineyardOf_12 : decode cX10_vineyardOf 12 = .ok (.iload_n 2, 1) := by decide +kernel
theorem dX10_vineyardOf_13 : decode cX10_vineyardOf 13 = .ok (.iconst 0, 1) := by decide +kernel
theorem dX10_vineyardOf_14 : decode cX10_vineyardOf 14 = .ok (.iconst 2, 1) := by decide +kernel
theorem dX10_vineyardOf_15 : decode cX10_vineyardOf 15 = .ok (.invokestatic 56, 3) := by decide +kernel
theorem dX10_vineyardOf_18 : decode cX10_vineyardOf 18 = .ok (.ifCond .eq 7, 3) := by decide +kernel
theorem dX10_vineyardOf_21 : decode cX10_vineyardOf 21 = .ok (.iconst 0, 1) := by decide +kernel
theorem dX10_vineyardOf_22 : decode cX10_vineyardOf 22 = .ok (.goto 4, 3) := by decide +kernel
theorem dX10_vineyardOf_25 : decode cX10_vineyardOf 25 = .ok (.iconst 2, 1) := by decide +kernel
theorem dX10_vineyardOf_26 : decode cX10_vineyardOf 26 = .ok (.putfield 27, 3) := by decide +kernel
theorem dX10_vineyardOf_29 : decode cX10_vineyardOf 29 = .ok (.aload_n 0, 1) := by decide +kernel
theorem dX10_vineyardOf_30 : decode cX10_vineyardOf 30 = .ok (.getfield 27, 3) := by decide +kernel
theorem dX10_vineyardOf_33 : decode cX10_vineyardOf 33 = .ok (.ifCond .eq 5, 3) := by decide +kernel
theorem dX10_vineyardOf_36 : decode cX10_vineyardOf 36 = .ok (.iconst 0, 1) := by decide +kernel
theorem dX10_vineyardOf_37 : decode cX10_vineyardOf 37 = .ok (.ireturn, 1) := by decide +kernel
theorem dX10_vineyardOf_38 : decode cX10_vineyardOf 38 = .ok (.iload_n 2, 1) := by decide +kernel
theorem dX10_vineyardOf_39 : decode cX10_vineyardOf 39 = .ok (.ifCond .ne 15, 3) := by decide +kernel
theorem dX10_vineyardOf_42 : decode cX10_vineyardOf 42 = .ok (.aload_n 0, 1) := by decide +kernel
theorem dX10_vineyardOf_43 : decode cX10_vineyardOf 43 = .ok (.getfield 9, 3) := by decide +kernel
theorem dX10_vineyardOf_46 : decode cX10_vineyardOf 46 = .ok (.bipush 13, 2) := by decide +kernel
theorem dX10_vineyardOf_48 : decode cX10_vineyardOf 48 = .ok (.iload_n 1, 1) := by decide +kernel
theorem dX10_vineyardOf_49 : decode cX10_vineyardOf 49 = .ok (.iadd, 1) := by decide +kernel
theorem dX10_vineyardOf_50 : decode cX10_vineyardOf 50 = .ok (.iaload, 1) := by decide +kernel
theorem dX10_vineyardOf_51 : decode cX10_vineyardOf 51 = .ok (.iconst 1, 1) := by decide +kernel
theorem dX10_vineyardOf_52 : decode cX10_vineyardOf 52 = .ok (.isub, 1) := by decide +kernel
theorem dX10_vineyardOf_53 : decode cX10_vineyardOf 53 = .ok (.ireturn, 1) := by decide +kernel
theorem dX10_vineyardOf_54 : decode cX10_vineyardOf 54 = .ok (.iconst 0, 1) := by decide +kernel
theorem dX10_vineyardOf_55 : decode cX10_vineyardOf 55 = .ok (.istore_n 3, 1) := by decide +kernel
theorem dX10_vineyardOf_56 : decode cX10_vineyardOf 56 = .ok (.iconst 0, 1) := by decide +kernel
theorem dX10_vineyardOf_57 : decode cX10_vineyardOf 57 = .ok (.istore 4, 2) := by decide +kernel
theorem dX10_vineyardOf_59 : decode cX10_vineyardOf 59 = .ok (.iload 4, 2) := by decide +kernel
theorem dX10_vineyardOf_61 : decode cX10_vineyardOf 61 = .ok (.aload_n 0, 1) := by decide +kernel
theorem dX10_vineyardOf_62 : decode cX10_vineyardOf 62 = .ok (.getfield 9, 3) := by decide +kernel
theorem dX10_vineyardOf_65 : decode cX10_vineyardOf 65 = .ok (.iconst 0, 1) := by decide +kernel
theorem dX10_vineyardOf_66 : decode cX10_vineyardOf 66 = .ok (.iaload, 1) := by decide +kernel
theorem dX10_vineyardOf_67 : decode cX10_vineyardOf 67 = .ok (.if_icmp .ge 43, 3) := by decide +kernel
theorem dX10_vineyardOf_70 : decode cX10_vineyardOf 70 = .ok (.iload_n 3, 1) := by decide +kernel
theorem dX10_vineyardOf_71 : decode cX10_vineyardOf 71 = .ok (.aload_n 0, 1) := by decide +kernel
theorem dX10_vineyardOf_72 : decode cX10_vineyardOf 72 = .ok (.iload 4, 2) := by decide +kernel
theorem dX10_vineyardOf_74 : decode cX10_vineyardOf 74 = .ok (.iconst 0, 1) := by decide +kernel
theorem dX10_vineyardOf_75 : decode cX10_vineyardOf 75 = .ok (.invokevirtual 60, 3) := by decide +kernel
theorem dX10_vineyardOf_78 : decode cX10_vineyardOf 78 = .ok (.iload_n 1, 1) := by decide +kernel
theorem dX10_vineyardOf_79 : decode cX10_vineyardOf 79 = .ok (.if_icmp .eq 7, 3) := by decide +kernel
theorem dX10_vineyardOf_82 : decode cX10_vineyardOf 82 = .ok (.iconst 0, 1) := by decide +kernel
theorem dX10_vineyardOf_83 : decode cX10_vineyardOf 83 = .ok (.goto 19, 3) := by decide +kernel
theorem dX10_vineyardOf_86 : decode cX10_vineyardOf 86 = .ok (.iload_n 2, 1) := by decide +kernel
theorem dX10_vineyardOf_87 : decode cX10_vineyardOf 87 = .ok (.iconst 1, 1) := by decide +kernel
theorem dX10_vineyardOf_88 : decode cX10_vineyardOf 88 = .ok (.if_icmp .ne 7, 3) := by decide +kernel
theorem dX10_vineyardOf_91 : decode cX10_vineyardOf 91 = .ok (.iconst 1, 1) := by decide +kernel
theorem dX10_vineyardOf_92 : decode cX10_vineyardOf 92 = .ok (.goto 10, 3) := by decide +kernel
theorem dX10_vineyardOf_95 : decode cX10_vineyardOf 95 = .ok (.aload_n 0, 1) := by decide +kernel
theorem dX10_vineyardOf_96 : decode cX10_vineyardOf 96 = .ok (.iload 4, 2) := by decide +kernel
theorem dX10_vineyardOf_98 : decode cX10_vineyardOf 98 = .ok (.iconst 2, 1) := by decide +kernel
theorem dX10_vineyardOf_99 : decode cX10_vineyardOf 99 = .ok (.invokevirtual 60, 3) := by decide +kernel
theorem dX10_vineyardOf_102 : decode cX10_vineyardOf 102 = .ok (.iadd, 1) := by decide +kernel
theorem dX10_vineyardOf_103 : decode cX10_vineyardOf 103 = .ok (.istore_n 3, 1) := by decide +kernel
theorem dX10_vineyardOf_104 : decode cX10_vineyardOf 104 = .ok (.iinc 4 1, 3) := by decide +kernel
theorem dX10_vineyardOf_107 : decode cX10_vineyardOf 107 = .ok (.goto (-48), 3) := by decide +kernel
theorem dX10_vineyardOf_110 : decode cX10_vineyardOf 110 = .ok (.iload_n 3, 1) := by decide +kernel
theorem dX10_vineyardOf_111 : decode cX10_vineyardOf 111 = .ok (.ireturn, 1) := by decide +kernel
theorem dX10_clouds_0 : decode cX10_clouds 0 = .ok (.aload_n 0, 1) := by decide +kernel
theorem dX10_clouds_1 : decode cX10_clouds 1 = .ok (.iload_n 1, 1) := by decide +kernel
theorem dX10_clouds_2 : decode cX10_clouds 2 = .ok (.invokestatic 97, 3) := by decide +kernel
theorem dX10_clouds_5 : decode cX10_clouds 5 = .ok (.invokevirtual 49, 3) := by decide +kernel
theorem dX10_clouds_8 : decode cX10_clouds 8 = .ok (.ifCond .eq 12, 3) := by decide +kernel
theorem dX10_clouds_11 : decode cX10_clouds 11 = .ok (.aload_n 0, 1) := by decide +kernel
theorem dX10_clouds_12 : decode cX10_clouds 12 = .ok (.iload_n 1, 1) := by decide +kernel
theorem dX10_clouds_13 : decode cX10_clouds 13 = .ok (.iconst 5, 1) := by decide +kernel
theorem dX10_clouds_14 : decode cX10_clouds 14 = .ok (.invokevirtual 162, 3) := by decide +kernel
theorem dX10_clouds_17 : decode cX10_clouds 17 = .ok (.goto 4, 3) := by decide +kernel
theorem dX10_clouds_20 : decode cX10_clouds 20 = .ok (.iconst 0, 1) := by decide +kernel
theorem dX10_clouds_21 : decode cX10_clouds 21 = .ok (.ireturn, 1) := by decide +kernel
theorem dX10_cloudsAgain_0 : decode cX10_cloudsAgain 0 = .ok (.aload_n 0, 1) := by decide +kernel
theorem dX10_cloudsAgain_1 : decode cX10_cloudsAgain 1 = .ok (.iload_n 1, 1) := by decide +kernel
theorem dX10_cloudsAgain_2 : decode cX10_cloudsAgain 2 = .ok (.invokevirtual 165, 3) := by decide +kernel
theorem dX10_cloudsAgain_5 : decode cX10_cloudsAgain 5 = .ok (.ireturn, 1) := by decide +kernel
theorem dX10_windTo_0 : decode cX10_windTo 0 = .ok (.aload_n 0, 1) := by decide +kernel
theorem dX10_windTo_1 : decode cX10_windTo 1 = .ok (.aload_n 0, 1) := by decide +kernel
theorem dX10_windTo_2 : decode cX10_windTo 2 = .ok (.iload_n 1, 1) := by decide +kernel
theorem dX10_windTo_3 : decode cX10_windTo 3 = .ok (.invokevirtual 94, 3) := by decide +kernel
theorem dX10_windTo_6 : decode cX10_windTo 6 = .ok (.ifCond .eq 14, 3) := by decide +kernel
theorem dX10_windTo_9 : decode cX10_windTo 9 = .ok (.iload_n 2, 1) := by decide +kernel
theorem dX10_windTo_10 : decode cX10_windTo 10 = .ok (.invokestatic 68, 3) := by decide +kernel
theorem dX10_windTo_13 : decode cX10_windTo 13 = .ok (.ifCond .eq 7, 3) := by decide +kernel
theorem dX10_windTo_16 : decode cX10_windTo 16 = .ok (.iconst 1, 1) := by decide +kernel
theorem dX10_windTo_17 : decode cX10_windTo 17 = .ok (.goto 4, 3) := by decide +kernel
theorem dX10_windTo_20 : decode cX10_windTo 20 = .ok (.iconst 0, 1) := by decide +kernel
theorem dX10_windTo_21 : decode cX10_windTo 21 = .ok (.invokevirtual 49, 3) := by decide +kernel
theorem dX10_windTo_24 : decode cX10_windTo 24 = .ok (.ifCond .ne 5, 3) := by decide +kernel
theorem dX10_windTo_27 : decode cX10_windTo 27 = .ok (.iconst 0, 1) := by decide +kernel
theorem dX10_windTo_28 : decode cX10_windTo 28 = .ok (.ireturn, 1) := by decide +kernel
theorem dX10_windTo_29 : decode cX10_windTo 29 = .ok (.iload_n 2, 1) := by decide +kernel
theorem dX10_windTo_30 : decode cX10_windTo 30 = .ok (.aload_n 0, 1) := by decide +kernel
theorem dX10_windTo_31 : decode cX10_windTo 31 = .ok (.iload_n 1, 1) := by decide +kernel
theorem dX10_windTo_32 : decode cX10_windTo 32 = .ok (.iconst 0, 1) := by decide +kernel
theorem dX10_windTo_33 : decode cX10_windTo 33 = .ok (.invokevirtual 60, 3) := by decide +kernel
theorem dX10_windTo_36 : decode cX10_windTo 36 = .ok (.isub, 1) := by decide +kernel
theorem dX10_windTo_37 : decode cX10_windTo 37 = .ok (.bipush 6, 2) := by decide +kernel
theorem dX10_windTo_39 : decode cX10_windTo 39 = .ok (.iadd, 1) := by decide +kernel
theorem dX10_windTo_40 : decode cX10_windTo 40 = .ok (.bipush 6, 2) := by decide +kernel
theorem dX10_windTo_42 : decode cX10_windTo 42 = .ok (.irem, 1) := by decide +kernel
theorem dX10_windTo_43 : decode cX10_windTo 43 = .ok (.istore_n 3, 1) := by decide +kernel
theorem dX10_windTo_44 : decode cX10_windTo 44 = .ok (.iload_n 3, 1) := by decide +kernel
theorem dX10_windTo_45 : decode cX10_windTo 45 = .ok (.iconst 3, 1) := by decide +kernel
theorem dX10_windTo_46 : decode cX10_windTo 46 = .ok (.if_icmp .le 10, 3) := by decide +kernel
theorem dX10_windTo_49 : decode cX10_windTo 49 = .ok (.iload_n 3, 1) := by decide +kernel
theorem dX10_windTo_50 : decode cX10_windTo 50 = .ok (.bipush 6, 2) := by decide +kernel
theorem dX10_windTo_52 : decode cX10_windTo 52 = .ok (.isub, 1) := by decide +kernel
theorem dX10_windTo_53 : decode cX10_windTo 53 = .ok (.goto 4, 3) := by decide +kernel
theorem dX10_windTo_56 : decode cX10_windTo 56 = .ok (.iload_n 3, 1) := by decide +kernel
theorem dX10_windTo_57 : decode cX10_windTo 57 = .ok (.ireturn, 1) := by decide +kernel
theorem dX10_windToAgain_0 : decode cX10_windToAgain 0 = .ok (.aload_n 0, 1) := by decide +kernel
theorem dX10_windToAgain_1 : decode cX10_windToAgain 1 = .ok (.iload_n 1, 1) := by decide +kernel
theorem dX10_windToAgain_2 : decode cX10_windToAgain 2 = .ok (.iload_n 2, 1) := by decide +kernel
theorem dX10_windToAgain_3 : decode cX10_windToAgain 3 = .ok (.invokevirtual 168, 3) := by decide +kernel
theorem dX10_windToAgain_6 : decode cX10_windToAgain 6 = .ok (.ireturn, 1) := by decide +kernel
theorem dX10_cloudsBy_0 : decode cX10_cloudsBy 0 = .ok (.aload_n 0, 1) := by decide +kernel
theorem dX10_cloudsBy_1 : decode cX10_cloudsBy 1 = .ok (.iconst 0, 1) := by decide +kernel
theorem dX10_cloudsBy_2 : decode cX10_cloudsBy 2 = .ok (.bipush 11, 2) := by decide +kernel
theorem dX10_cloudsBy_4 : decode cX10_cloudsBy 4 = .ok (.invokevirtual 30, 3) := by decide +kernel
theorem dX10_cloudsBy_7 : decode cX10_cloudsBy 7 = .ok (.aload_n 0, 1) := by decide +kernel
theorem dX10_cloudsBy_8 : decode cX10_cloudsBy 8 = .ok (.iload_n 2, 1) := by decide +kernel
theorem dX10_cloudsBy_9 : decode cX10_cloudsBy 9 = .ok (.invokevirtual 138, 3) := by decide +kernel
theorem dX10_cloudsBy_12 : decode cX10_cloudsBy 12 = .ok (.aload_n 0, 1) := by decide +kernel
theorem dX10_cloudsBy_13 : decode cX10_cloudsBy 13 = .ok (.invokevirtual 156, 3) := by decide +kernel
theorem dX10_cloudsBy_16 : decode cX10_cloudsBy 16 = .ok (.istore_n 3, 1) := by decide +kernel
theorem dX10_cloudsBy_17 : decode cX10_cloudsBy 17 = .ok (.aload_n 0, 1) := by decide +kernel
theorem dX10_cloudsBy_18 : decode cX10_cloudsBy 18 = .ok (.iload_n 1, 1) := by decide +kernel
theorem dX10_cloudsBy_19 : decode cX10_cloudsBy 19 = .ok (.iconst 5, 1) := by decide +kernel
theorem dX10_cloudsBy_20 : decode cX10_cloudsBy 20 = .ok (.invokevirtual 162, 3) := by decide +kernel
theorem dX10_cloudsBy_23 : decode cX10_cloudsBy 23 = .ok (.istore 4, 2) := by decide +kernel
theorem dX10_cloudsBy_25 : decode cX10_cloudsBy 25 = .ok (.aload_n 0, 1) := by decide +kernel
theorem dX10_cloudsBy_26 : decode cX10_cloudsBy 26 = .ok (.bipush 11, 2) := by decide +kernel
theorem dX10_cloudsBy_28 : decode cX10_cloudsBy 28 = .ok (.iconst 0, 1) := by decide +kernel
theorem dX10_cloudsBy_29 : decode cX10_cloudsBy 29 = .ok (.invokevirtual 30, 3) := by decide +kernel
theorem dX10_cloudsBy_32 : decode cX10_cloudsBy 32 = .ok (.iload 4, 2) := by decide +kernel
theorem dX10_cloudsBy_34 : decode cX10_cloudsBy 34 = .ok (.ireturn, 1) := by decide +kernel
theorem dX10_would_0 : decode cX10_would 0 = .ok (.aload_n 0, 1) := by decide +kernel
theorem dX10_would_1 : decode cX10_would 1 = .ok (.iload_n 1, 1) := by decide +kernel
theorem dX10_would_2 : decode cX10_would 2 = .ok (.invokestatic 97, 3) := by decide +kernel
theorem dX10_would_5 : decode cX10_would 5 = .ok (.ifCond .ne 7, 3) := by decide +kernel
theorem dX10_would_8 : decode cX10_would 8 = .ok (.iconst 1, 1) := by decide +kernel
theorem dX10_would_9 : decode cX10_would 9 = .ok (.goto 18, 3) := by decide +kernel
theorem dX10_would_12 : decode cX10_would 12 = .ok (.iload_n 2, 1) := by decide +kernel
theorem dX10_would_13 : decode cX10_would 13 = .ok (.bipush (-3), 2) := by decide +kernel
theorem dX10_would_15 : decode cX10_would 15 = .ok (.iconst 3, 1) := by decide +kernel
theorem dX10_would_16 : decode cX10_would 16 = .ok (.invokestatic 56, 3) := by decide +kernel
theorem dX10_would_19 : decode cX10_would 19 = .ok (.ifCond .eq 7, 3) := by decide +kernel
theorem dX10_would_22 : decode cX10_would 22 = .ok (.iconst 0, 1) := by decide +kernel
theorem dX10_would_23 : decode cX10_would 23 = .ok (.goto 4, 3) := by decide +kernel
theorem dX10_would_26 : decode cX10_would 26 = .ok (.iconst 2, 1) := by decide +kernel
theorem dX10_would_27 : decode cX10_would 27 = .ok (.putfield 27, 3) := by decide +kernel
theorem dX10_would_30 : decode cX10_would 30 = .ok (.aload_n 0, 1) := by decide +kernel
theorem dX10_would_31 : decode cX10_would 31 = .ok (.getfield 27, 3) := by decide +kernel
theorem dX10_would_34 : decode cX10_would 34 = .ok (.ifCond .ne 12, 3) := by decide +kernel
theorem dX10_would_37 : decode cX10_would 37 = .ok (.aload_n 0, 1) := by decide +kernel
theorem dX10_would_38 : decode cX10_would 38 = .ok (.iload_n 1, 1) := by decide +kernel
theorem dX10_would_39 : decode cX10_would 39 = .ok (.iload_n 2, 1) := by decide +kernel
theorem dX10_would_40 : decode cX10_would 40 = .ok (.invokevirtual 171, 3) := by decide +kernel
theorem dX10_would_43 : decode cX10_would 43 = .ok (.goto 4, 3) := by decide +kernel
theorem dX10_would_46 : decode cX10_would 46 = .ok (.iconst 0, 1) := by decide +kernel
theorem dX10_would_47 : decode cX10_would 47 = .ok (.ireturn, 1) := by decide +kernel
theorem dX10_bestWind_0 : decode cX10_bestWind 0 = .ok (.aload_n 0, 1) := by decide +kernel
theorem dX10_bestWind_1 : decode cX10_bestWind 1 = .ok (.iload_n 1, 1) := by decide +kernel
theorem dX10_bestWind_2 : decode cX10_bestWind 2 = .ok (.invokestatic 97, 3) := by decide +kernel
theorem dX10_bestWind_5 : decode cX10_bestWind 5 = .ok (.invokevirtual 49, 3) := by decide +kernel
theorem dX10_bestWind_8 : decode cX10_bestWind 8 = .ok (.ifCond .ne 5, 3) := by decide +kernel
theorem dX10_bestWind_11 : decode cX10_bestWind 11 = .ok (.iconst 0, 1) := by decide +kernel
theorem dX10_bestWind_12 : decode cX10_bestWind 12 = .ok (.ireturn, 1) := by decide +kernel
theorem dX10_bestWind_13 : decode cX10_bestWind 13 = .ok (.bipush (-3), 2) := by decide +kernel
theorem dX10_bestWind_15 : decode cX10_bestWind 15 = .ok (.istore_n 2, 1) := by decide +kernel
theorem dX10_bestWind_16 : decode cX10_bestWind 16 = .ok (.bipush (-2), 2) := by decide +kernel
theorem dX10_bestWind_18 : decode cX10_bestWind 18 = .ok (.istore_n 3, 1) := by decide +kernel
theorem dX10_bestWind_19 : decode cX10_bestWind 19 = .ok (.iload_n 3, 1) := by decide +kernel
theorem dX10_bestWind_20 : decode cX10_bestWind 20 = .ok (.iconst 4, 1) := by decide +kernel
theorem dX10_bestWind_21 : decode cX10_bestWind 21 = .ok (.if_icmp .ge 30, 3) := by decide +kernel
theorem dX10_bestWind_24 : decode cX10_bestWind 24 = .ok (.aload_n 0, 1) := by decide +kernel
theorem dX10_bestWind_25 : decode cX10_bestWind 25 = .ok (.iload_n 1, 1) := by decide +kernel
theorem dX10_bestWind_26 : decode cX10_bestWind 26 = .ok (.iload_n 3, 1) := by decide +kernel
theorem dX10_bestWind_27 : decode cX10_bestWind 27 = .ok (.invokevirtual 171, 3) := by decide +kernel
theorem dX10_bestWind_30 : decode cX10_bestWind 30 = .ok (.aload_n 0, 1) := by decide +kernel
theorem dX10_bestWind_31 : decode cX10_bestWind 31 = .ok (.iload_n 1, 1) := by decide +kernel
theorem dX10_bestWind_32 : decode cX10_bestWind 32 = .ok (.iload_n 2, 1) := by decide +kernel
theorem dX10_bestWind_33 : decode cX10_bestWind 33 = .ok (.invokevirtual 171, 3) := by decide +kernel
theorem dX10_bestWind_36 : decode cX10_bestWind 36 = .ok (.if_icmp .le 7, 3) := by decide +kernel
theorem dX10_bestWind_39 : decode cX10_bestWind 39 = .ok (.iload_n 3, 1) := by decide +kernel
theorem dX10_bestWind_40 : decode cX10_bestWind 40 = .ok (.goto 4, 3) := by decide +kernel
theorem dX10_bestWind_43 : decode cX10_bestWind 43 = .ok (.iload_n 2, 1) := by decide +kernel
theorem dX10_bestWind_44 : decode cX10_bestWind 44 = .ok (.istore_n 2, 1) := by decide +kernel
theorem dX10_bestWind_45 : decode cX10_bestWind 45 = .ok (.iinc 3 1, 3) := by decide +kernel
theorem dX10_bestWind_48 : decode cX10_bestWind 48 = .ok (.goto (-29), 3) := by decide +kernel
theorem dX10_bestWind_51 : decode cX10_bestWind 51 = .ok (.iload_n 2, 1) := by decide +kernel
theorem dX10_bestWind_52 : decode cX10_bestWind 52 = .ok (.ireturn, 1) := by decide +kernel
theorem dX10_recorded_0 : decode cX10_recorded 0 = .ok (.aload_n 0, 1) := by decide +kernel
theorem dX10_recorded_1 : decode cX10_recorded 1 = .ok (.iload_n 1, 1) := by decide +kernel
theorem dX10_recorded_2 : decode cX10_recorded 2 = .ok (.iconst 0, 1) := by decide +kernel
theorem dX10_recorded_3 : decode cX10_recorded 3 = .ok (.aload_n 0, 1) := by decide +kernel
theorem dX10_recorded_4 : decode cX10_recorded 4 = .ok (.getfield 9, 3) := by decide +kernel
theorem dX10_recorded_7 : decode cX10_recorded 7 = .ok (.bipush 8, 2) := by decide +kernel
theorem dX10_recorded_9 : decode cX10_recorded 9 = .ok (.iaload, 1) := by decide +kernel
theorem dX10_recorded_10 : decode cX10_recorded 10 = .ok (.iconst 1, 1) := by decide +kernel
theorem dX10_recorded_11 : decode cX10_recorded 11 = .ok (.isub, 1) := by decide +kernel
theorem dX10_recorded_12 : decode cX10_recorded 12 = .ok (.invokestatic 56, 3) := by decide +kernel
theorem dX10_recorded_15 : decode cX10_recorded 15 = .ok (.ifCond .eq 29, 3) := by decide +kernel
theorem dX10_recorded_18 : decode cX10_recorded 18 = .ok (.iload_n 2, 1) := by decide +kernel
theorem dX10_recorded_19 : decode cX10_recorded 19 = .ok (.iconst 0, 1) := by decide +kernel
theorem dX10_recorded_20 : decode cX10_recorded 20 = .ok (.aload_n 0, 1) := by decide +kernel
theorem dX10_recorded_21 : decode cX10_recorded 21 = .ok (.getfield 9, 3) := by decide +kernel
theorem dX10_recorded_24 : decode cX10_recorded 24 = .ok (.bipush 61, 2) := by decide +kernel
theorem dX10_recorded_26 : decode cX10_recorded 26 = .ok (.bipush 7, 2) := by decide +kernel
theorem dX10_recorded_28 : decode cX10_recorded 28 = .ok (.iload_n 1, 1) := by decide +kernel
theorem dX10_recorded_29 : decode cX10_recorded 29 = .ok (.imul, 1) := by decide +kernel
theorem dX10_recorded_30 : decode cX10_recorded 30 = .ok (.iadd, 1) := by decide +kernel
theorem dX10_recorded_31 : decode cX10_recorded 31 = .ok (.iaload, 1) := by decide +kernel
theorem dX10_recorded_32 : decode cX10_recorded 32 = .ok (.iconst 1, 1) := by decide +kernel
theorem dX10_recorded_33 : decode cX10_recorded 33 = .ok (.isub, 1) := by decide +kernel
theorem dX10_recorded_34 : decode cX10_recorded 34 = .ok (.invokestatic 56, 3) := by decide +kernel
theorem dX10_recorded_37 : decode cX10_recorded 37 = .ok (.ifCond .eq 7, 3) := by decide +kernel
theorem dX10_recorded_40 : decode cX10_recorded 40 = .ok (.iconst 1, 1) := by decide +kernel
theorem dX10_recorded_41 : decode cX10_recorded 41 = .ok (.goto 4, 3) := by decide +kernel
theorem dX10_recorded_44 : decode cX10_recorded 44 = .ok (.iconst 0, 1) := by decide +kernel
theorem dX10_recorded_45 : decode cX10_recorded 45 = .ok (.invokevirtual 49, 3) := by decide +kernel
theorem dX10_recorded_48 : decode cX10_recorded 48 = .ok (.ifCond .ne 5, 3) := by decide +kernel
theorem dX10_recorded_51 : decode cX10_recorded 51 = .ok (.iconst 0, 1) := by decide +kernel
theorem dX10_recorded_52 : decode cX10_recorded 52 = .ok (.ireturn, 1) := by decide +kernel
theorem dX10_recorded_53 : decode cX10_recorded 53 = .ok (.aload_n 0, 1) := by decide +kernel
theorem dX10_recorded_54 : decode cX10_recorded 54 = .ok (.getfield 9, 3) := by decide +kernel
theorem dX10_recorded_57 : decode cX10_recorded 57 = .ok (.bipush 61, 2) := by decide +kernel
theorem dX10_recorded_59 : decode cX10_recorded 59 = .ok (.bipush 7, 2) := by decide +kernel
theorem dX10_recorded_61 : decode cX10_recorded 61 = .ok (.iload_n 1, 1) := by decide +kernel
theorem dX10_recorded_62 : decode cX10_recorded 62 = .ok (.imul, 1) := by decide +kernel
theorem dX10_recorded_63 : decode cX10_recorded 63 = .ok (.iadd, 1) := by decide +kernel
theorem dX10_recorded_64 : decode cX10_recorded 64 = .ok (.iconst 1, 1) := by decide +kernel
theorem dX10_recorded_65 : decode cX10_recorded 65 = .ok (.iadd, 1) := by decide +kernel
theorem dX10_recorded_66 : decode cX10_recorded 66 = .ok (.iload_n 2, 1) := by decide +kernel
theorem dX10_recorded_67 : decode cX10_recorded 67 = .ok (.iadd, 1) := by decide +kernel
theorem dX10_recorded_68 : decode cX10_recorded 68 = .ok (.iaload, 1) := by decide +kernel
theorem dX10_recorded_69 : decode cX10_recorded 69 = .ok (.iconst 1, 1) := by decide +kernel
theorem dX10_recorded_70 : decode cX10_recorded 70 = .ok (.isub, 1) := by decide +kernel
theorem dX10_recorded_71 : decode cX10_recorded 71 = .ok (.ireturn, 1) := by decide +kernel
theorem dX10_coins_0 : decode cX10_coins 0 = .ok (.aload_n 0, 1) := by decide +kernel
theorem dX10_coins_1 : decode cX10_coins 1 = .ok (.iconst 0, 1) := by decide +kernel
theorem dX10_coins_2 : decode cX10_coins 2 = .ok (.putfield 27, 3) := by decide +kernel
theorem dX10_coins_5 : decode cX10_coins 5 = .ok (.aload_n 0, 1) := by decide +kernel
theorem dX10_coins_6 : decode cX10_coins 6 = .ok (.getfield 9, 3) := by decide +kernel
theorem dX10_coins_9 : decode cX10_coins 9 = .ok (.bipush 9, 2) := by decide +kernel
theorem dX10_coins_11 : decode cX10_coins 11 = .ok (.iaload, 1) := by decide +kernel
theorem dX10_coins_12 : decode cX10_coins 12 = .ok (.aload_n 0, 1) := by decide +kernel
theorem dX10_coins_13 : decode cX10_coins 13 = .ok (.getfield 9, 3) := by decide +kernel
theorem dX10_coins_16 : decode cX10_coins 16 = .ok (.bipush 10, 2) := by decide +kernel
theorem dX10_coins_18 : decode cX10_coins 18 = .ok (.iaload, 1) := by decide +kernel
theorem dX10_coins_19 : decode cX10_coins 19 = .ok (.iadd, 1) := by decide +kernel
theorem dX10_coins_20 : decode cX10_coins 20 = .ok (.aload_n 0, 1) := by decide +kernel
theorem dX10_coins_21 : decode cX10_coins 21 = .ok (.getfield 9, 3) := by decide +kernel
theorem dX10_coins_24 : decode cX10_coins 24 = .ok (.bipush 11, 2) := by decide +kernel
theorem dX10_coins_26 : decode cX10_coins 26 = .ok (.iaload, 1) := by decide +kernel
theorem dX10_coins_27 : decode cX10_coins 27 = .ok (.iadd, 1) := by decide +kernel
theorem dX10_coins_28 : decode cX10_coins 28 = .ok (.aload_n 0, 1) := by decide +kernel
theorem dX10_coins_29 : decode cX10_coins 29 = .ok (.getfield 9, 3) := by decide +kernel
theorem dX10_coins_32 : decode cX10_coins 32 = .ok (.bipush 12, 2) := by decide +kernel
theorem dX10_coins_34 : decode cX10_coins 34 = .ok (.iaload, 1) := by decide +kernel
theorem dX10_coins_35 : decode cX10_coins 35 = .ok (.iadd, 1) := by decide +kernel
theorem dX10_coins_36 : decode cX10_coins 36 = .ok (.ireturn, 1) := by decide +kernel
theorem dX10_coinsAgain_0 : decode cX10_coinsAgain 0 = .ok (.aload_n 0, 1) := by decide +kernel
theorem dX10_coinsAgain_1 : decode cX10_coinsAgain 1 = .ok (.invokevirtual 174, 3) := by decide +kernel
theorem dX10_coinsAgain_4 : decode cX10_coinsAgain 4 = .ok (.ireturn, 1) := by decide +kernel
theorem dX10_greatest_0 : decode cX10_greatest 0 = .ok (.iconst 0, 1) := by decide +kernel
theorem dX10_greatest_1 : decode cX10_greatest 1 = .ok (.istore_n 2, 1) := by decide +kernel
theorem dX10_greatest_2 : decode cX10_greatest 2 = .ok (.iload_n 2, 1) := by decide +kernel
theorem dX10_greatest_3 : decode cX10_greatest 3 = .ok (.aload_n 0, 1) := by decide +kernel
theorem dX10_greatest_4 : decode cX10_greatest 4 = .ok (.getfield 9, 3) := by decide +kernel
theorem dX10_greatest_7 : decode cX10_greatest 7 = .ok (.iconst 0, 1) := by decide +kernel
theorem dX10_greatest_8 : decode cX10_greatest 8 = .ok (.iaload, 1) := by decide +kernel
theorem dX10_greatest_9 : decode cX10_greatest 9 = .ok (.if_icmp .ge 130, 3) := by decide +kernel
theorem dX10_greatest_12 : decode cX10_greatest 12 = .ok (.iconst 0, 1) := by decide +kernel
theorem dX10_greatest_13 : decode cX10_greatest 13 = .ok (.istore_n 3, 1) := by decide +kernel
theorem dX10_greatest_14 : decode cX10_greatest 14 = .ok (.iconst 0, 1) := by decide +kernel
theorem dX10_greatest_15 : decode cX10_greatest 15 = .ok (.istore 4, 2) := by decide +kernel
theorem dX10_greatest_17 : decode cX10_greatest 17 = .ok (.iload 4, 2) := by decide +kernel
theorem dX10_greatest_19 : decode cX10_greatest 19 = .ok (.aload_n 0, 1) := by decide +kernel
theorem dX10_greatest_20 : decode cX10_greatest 20 = .ok (.getfield 9, 3) := by decide +kernel
theorem dX10_greatest_23 : decode cX10_greatest 23 = .ok (.iconst 0, 1) := by decide +kernel
theorem dX10_greatest_24 : decode cX10_greatest 24 = .ok (.iaload, 1) := by decide +kernel
theorem dX10_greatest_25 : decode cX10_greatest 25 = .ok (.if_icmp .ge 89, 3) := by decide +kernel
theorem dX10_greatest_28 : decode cX10_greatest 28 = .ok (.aload_n 0, 1) := by decide +kernel
theorem dX10_greatest_29 : decode cX10_greatest 29 = .ok (.iload 4, 2) := by decide +kernel
theorem dX10_greatest_31 : decode cX10_greatest 31 = .ok (.iconst 2, 1) := by decide +kernel
theorem dX10_greatest_32 : decode cX10_greatest 32 = .ok (.invokevirtual 60, 3) := by decide +kernel
theorem dX10_greatest_35 : decode cX10_greatest 35 = .ok (.aload_n 0, 1) := by decide +kernel
theorem dX10_greatest_36 : decode cX10_greatest 36 = .ok (.iload_n 2, 1) := by decide +kernel
theorem dX10_greatest_37 : decode cX10_greatest 37 = .ok (.iconst 2, 1) := by decide +kernel
theorem dX10_greatest_38 : decode cX10_greatest 38 = .ok (.invokevirtual 60, 3) := by decide +kernel
theorem dX10_greatest_41 : decode cX10_greatest 41 = .ok (.isub, 1) := by decide +kernel
theorem dX10_greatest_42 : decode cX10_greatest 42 = .ok (.istore 5, 2) := by decide +kernel
theorem dX10_greatest_44 : decode cX10_greatest 44 = .ok (.aload_n 0, 1) := by decide +kernel
theorem dX10_greatest_45 : decode cX10_greatest 45 = .ok (.iload 4, 2) := by decide +kernel
theorem dX10_greatest_47 : decode cX10_greatest 47 = .ok (.invokevirtual 100, 3) := by decide +kernel
theorem dX10_greatest_50 : decode cX10_greatest 50 = .ok (.ifCond .ge 7, 3) := by decide +kernel
theorem dX10_greatest_53 : decode cX10_greatest 53 = .ok (.iconst 0, 1) := by decide +kernel
theorem dX10_greatest_54 : decode cX10_greatest 54 = .ok (.goto 4, 3) := by decide +kernel
theorem dX10_greatest_57 : decode cX10_greatest 57 = .ok (.iconst 1, 1) := by decide +kernel
theorem dX10_greatest_58 : decode cX10_greatest 58 = .ok (.aload_n 0, 1) := by decide +kernel
theorem dX10_greatest_59 : decode cX10_greatest 59 = .ok (.iload_n 2, 1) := by decide +kernel
theorem dX10_greatest_60 : decode cX10_greatest 60 = .ok (.invokevirtual 100, 3) := by decide +kernel
theorem dX10_greatest_63 : decode cX10_greatest 63 = .ok (.ifCond .ge 7, 3) := by decide +kernel
theorem dX10_greatest_66 : decode cX10_greatest 66 = .ok (.iconst 0, 1) := by decide +kernel
theorem dX10_greatest_67 : decode cX10_greatest 67 = .ok (.goto 4, 3) := by decide +kernel
theorem dX10_greatest_70 : decode cX10_greatest 70 = .ok (.iconst 1, 1) := by decide +kernel
theorem dX10_greatest_71 : decode cX10_greatest 71 = .ok (.isub, 1) := by decide +kernel
theorem dX10_greatest_72 : decode cX10_greatest 72 = .ok (.istore 6, 2) := by decide +kernel
theorem dX10_greatest_74 : decode cX10_greatest 74 = .ok (.iload_n 3, 1) := by decide +kernel
theorem dX10_greatest_75 : decode cX10_greatest 75 = .ok (.iload 5, 2) := by decide +kernel
theorem dX10_greatest_77 : decode cX10_greatest 77 = .ok (.ifCond .gt 24, 3) := by decide +kernel
theorem dX10_greatest_80 : decode cX10_greatest 80 = .ok (.iload 5, 2) := by decide +kernel
theorem dX10_greatest_82 : decode cX10_greatest 82 = .ok (.ifCond .ne 23, 3) := by decide +kernel
theorem dX10_greatest_85 : decode cX10_greatest 85 = .ok (.iload 6, 2) := by decide +kernel
theorem dX10_greatest_87 : decode cX10_greatest 87 = .ok (.ifCond .gt 14, 3) := by decide +kernel
theorem dX10_greatest_90 : decode cX10_greatest 90 = .ok (.iload 6, 2) := by decide +kernel
theorem dX10_greatest_92 : decode cX10_greatest 92 = .ok (.ifCond .ne 13, 3) := by decide +kernel
theorem dX10_greatest_95 : decode cX10_greatest 95 = .ok (.iload 4, 2) := by decide +kernel
theorem dX10_greatest_97 : decode cX10_greatest 97 = .ok (.iload_n 2, 1) := by decide +kernel
theorem dX10_greatest_98 : decode cX10_greatest 98 = .ok (.if_icmp .ge 7, 3) := by decide +kernel
theorem dX10_greatest_101 : decode cX10_greatest 101 = .ok (.iconst 1, 1) := by decide +kernel
theorem dX10_greatest_102 : decode cX10_greatest 102 = .ok (.goto 4, 3) := by decide +kernel
theorem dX10_greatest_105 : decode cX10_greatest 105 = .ok (.iconst 0, 1) := by decide +kernel
theorem dX10_greatest_106 : decode cX10_greatest 106 = .ok (.iadd, 1) := by decide +kernel
theorem dX10_greatest_107 : decode cX10_greatest 107 = .ok (.istore_n 3, 1) := by decide +kernel
theorem dX10_greatest_108 : decode cX10_greatest 108 = .ok (.iinc 4 1, 3) := by decide +kernel
theorem dX10_greatest_111 : decode cX10_greatest 111 = .ok (.goto (-94), 3) := by decide +kernel
theorem dX10_greatest_114 : decode cX10_greatest 114 = .ok (.aload_n 0, 1) := by decide +kernel
theorem dX10_greatest_115 : decode cX10_greatest 115 = .ok (.iload_n 3, 1) := by decide +kernel
theorem dX10_greatest_116 : decode cX10_greatest 116 = .ok (.iload_n 1, 1) := by decide +kernel
theorem dX10_greatest_117 : decode cX10_greatest 117 = .ok (.if_icmp .ne 7, 3) := by decide +kernel
theorem dX10_greatest_120 : decode cX10_greatest 120 = .ok (.iconst 1, 1) := by decide +kernel
theorem dX10_greatest_121 : decode cX10_greatest 121 = .ok (.goto 4, 3) := by decide +kernel
theorem dX10_greatest_124 : decode cX10_greatest 124 = .ok (.iconst 0, 1) := by decide +kernel
theorem dX10_greatest_125 : decode cX10_greatest 125 = .ok (.invokevirtual 49, 3) := by decide +kernel
theorem dX10_greatest_128 : decode cX10_greatest 128 = .ok (.ifCond .eq 5, 3) := by decide +kernel
theorem dX10_greatest_131 : decode cX10_greatest 131 = .ok (.iload_n 2, 1) := by decide +kernel
theorem dX10_greatest_132 : decode cX10_greatest 132 = .ok (.ireturn, 1) := by decide +kernel
theorem dX10_greatest_133 : decode cX10_greatest 133 = .ok (.iinc 2 1, 3) := by decide +kernel
theorem dX10_greatest_136 : decode cX10_greatest 136 = .ok (.goto (-134), 3) := by decide +kernel
theorem dX10_greatest_139 : decode cX10_greatest 139 = .ok (.aload_n 0, 1) := by decide +kernel
theorem dX10_greatest_140 : decode cX10_greatest 140 = .ok (.iconst 1, 1) := by decide +kernel
theorem dX10_greatest_141 : decode cX10_greatest 141 = .ok (.putfield 27, 3) := by decide +kernel
theorem dX10_greatest_144 : decode cX10_greatest 144 = .ok (.iconst 0, 1) := by decide +kernel
theorem dX10_greatest_145 : decode cX10_greatest 145 = .ok (.ireturn, 1) := by decide +kernel
theorem dX10_ranked_0 : decode cX10_ranked 0 = .ok (.iconst 0, 1) := by decide +kernel
theorem dX10_ranked_1 : decode cX10_ranked 1 = .ok (.istore_n 2, 1) := by decide +kernel
theorem dX10_ranked_2 : decode cX10_ranked 2 = .ok (.iload_n 2, 1) := by decide +kernel
theorem dX10_ranked_3 : decode cX10_ranked 3 = .ok (.iconst 4, 1) := by decide +kernel
theorem dX10_ranked_4 : decode cX10_ranked 4 = .ok (.if_icmp .ge 109, 3) := by decide +kernel
theorem dX10_ranked_7 : decode cX10_ranked 7 = .ok (.iconst 0, 1) := by decide +kernel
theorem dX10_ranked_8 : decode cX10_ranked 8 = .ok (.istore_n 3, 1) := by decide +kernel
theorem dX10_ranked_9 : decode cX10_ranked 9 = .ok (.iconst 0, 1) := by decide +kernel
theorem dX10_ranked_10 : decode cX10_ranked 10 = .ok (.istore 4, 2) := by decide +kernel
theorem dX10_ranked_12 : decode cX10_ranked 12 = .ok (.iload 4, 2) := by decide +kernel
theorem dX10_ranked_14 : decode cX10_ranked 14 = .ok (.iconst 4, 1) := by decide +kernel
theorem dX10_ranked_15 : decode cX10_ranked 15 = .ok (.if_icmp .ge 73, 3) := by decide +kernel
theorem dX10_ranked_18 : decode cX10_ranked 18 = .ok (.aload_n 0, 1) := by decide +kernel
theorem dX10_ranked_19 : decode cX10_ranked 19 = .ok (.iload 4, 2) := by decide +kernel
theorem dX10_ranked_21 : decode cX10_ranked 21 = .ok (.iconst 5, 1) := by decide +kernel
theorem dX10_ranked_22 : decode cX10_ranked 22 = .ok (.invokevirtual 162, 3) := by decide +kernel
theorem dX10_ranked_25 : decode cX10_ranked 25 = .ok (.aload_n 0, 1) := by decide +kernel
theorem dX10_ranked_26 : decode cX10_ranked 26 = .ok (.iload_n 2, 1) := by decide +kernel
theorem dX10_ranked_27 : decode cX10_ranked 27 = .ok (.iconst 5, 1) := by decide +kernel
theorem dX10_ranked_28 : decode cX10_ranked 28 = .ok (.invokevirtual 162, 3) := by decide +kernel
theorem dX10_ranked_31 : decode cX10_ranked 31 = .ok (.isub, 1) := by decide +kernel
theorem dX10_ranked_32 : decode cX10_ranked 32 = .ok (.istore 5, 2) := by decide +kernel
theorem dX10_ranked_34 : decode cX10_ranked 34 = .ok (.aload_n 0, 1) := by decide +kernel
theorem dX10_ranked_35 : decode cX10_ranked 35 = .ok (.iload 4, 2) := by decide +kernel
theorem dX10_ranked_37 : decode cX10_ranked 37 = .ok (.invokevirtual 104, 3) := by decide +kernel
theorem dX10_ranked_40 : decode cX10_ranked 40 = .ok (.aload_n 0, 1) := by decide +kernel
theorem dX10_ranked_41 : decode cX10_ranked 41 = .ok (.iload_n 2, 1) := by decide +kernel
theorem dX10_ranked_42 : decode cX10_ranked 42 = .ok (.invokevirtual 104, 3) := by decide +kernel
theorem dX10_ranked_45 : decode cX10_ranked 45 = .ok (.isub, 1) := by decide +kernel
theorem dX10_ranked_46 : decode cX10_ranked 46 = .ok (.istore 6, 2) := by decide +kernel
theorem dX10_ranked_48 : decode cX10_ranked 48 = .ok (.iload_n 3, 1) := by decide +kernel
theorem dX10_ranked_49 : decode cX10_ranked 49 = .ok (.iload 5, 2) := by decide +kernel
theorem dX10_ranked_51 : decode cX10_ranked 51 = .ok (.ifCond .gt 24, 3) := by decide +kernel
theorem dX10_ranked_54 : decode cX10_ranked 54 = .ok (.iload 5, 2) := by decide +kernel
theorem dX10_ranked_56 : decode cX10_ranked 56 = .ok (.ifCond .ne 23, 3) := by decide +kernel
theorem dX10_ranked_59 : decode cX10_ranked 59 = .ok (.iload 6, 2) := by decide +kernel
theorem dX10_ranked_61 : decode cX10_ranked 61 = .ok (.ifCond .gt 14, 3) := by decide +kernel
theorem dX10_ranked_64 : decode cX10_ranked 64 = .ok (.iload 6, 2) := by decide +kernel
theorem dX10_ranked_66 : decode cX10_ranked 66 = .ok (.ifCond .ne 13, 3) := by decide +kernel
theorem dX10_ranked_69 : decode cX10_ranked 69 = .ok (.iload 4, 2) := by decide +kernel
theorem dX10_ranked_71 : decode cX10_ranked 71 = .ok (.iload_n 2, 1) := by decide +kernel
theorem dX10_ranked_72 : decode cX10_ranked 72 = .ok (.if_icmp .ge 7, 3) := by decide +kernel
theorem dX10_ranked_75 : decode cX10_ranked 75 = .ok (.iconst 1, 1) := by decide +kernel
theorem dX10_ranked_76 : decode cX10_ranked 76 = .ok (.goto 4, 3) := by decide +kernel
theorem dX10_ranked_79 : decode cX10_ranked 79 = .ok (.iconst 0, 1) := by decide +kernel
theorem dX10_ranked_80 : decode cX10_ranked 80 = .ok (.iadd, 1) := by decide +kernel
theorem dX10_ranked_81 : decode cX10_ranked 81 = .ok (.istore_n 3, 1) := by decide +kernel
theorem dX10_ranked_82 : decode cX10_ranked 82 = .ok (.iinc 4 1, 3) := by decide +kernel
theorem dX10_ranked_85 : decode cX10_ranked 85 = .ok (.goto (-73), 3) := by decide +kernel
theorem dX10_ranked_88 : decode cX10_ranked 88 = .ok (.aload_n 0, 1) := by decide +kernel
theorem dX10_ranked_89 : decode cX10_ranked 89 = .ok (.iload_n 3, 1) := by decide +kernel
theorem dX10_ranked_90 : decode cX10_ranked 90 = .ok (.iload_n 1, 1) := by decide +kernel
theorem dX10_ranked_91 : decode cX10_ranked 91 = .ok (.if_icmp .ne 7, 3) := by decide +kernel
theorem dX10_ranked_94 : decode cX10_ranked 94 = .ok (.iconst 1, 1) := by decide +kernel
theorem dX10_ranked_95 : decode cX10_ranked 95 = .ok (.goto 4, 3) := by decide +kernel
theorem dX10_ranked_98 : decode cX10_ranked 98 = .ok (.iconst 0, 1) := by decide +kernel
theorem dX10_ranked_99 : decode cX10_ranked 99 = .ok (.invokevirtual 49, 3) := by decide +kernel
theorem dX10_ranked_102 : decode cX10_ranked 102 = .ok (.ifCond .eq 5, 3) := by decide +kernel
theorem dX10_ranked_105 : decode cX10_ranked 105 = .ok (.iload_n 2, 1) := by decide +kernel
theorem dX10_ranked_106 : decode cX10_ranked 106 = .ok (.ireturn, 1) := by decide +kernel
theorem dX10_ranked_107 : decode cX10_ranked 107 = .ok (.iinc 2 1, 3) := by decide +kernel
theorem dX10_ranked_110 : decode cX10_ranked 110 = .ok (.goto (-108), 3) := by decide +kernel
theorem dX10_ranked_113 : decode cX10_ranked 113 = .ok (.aload_n 0, 1) := by decide +kernel
theorem dX10_ranked_114 : decode cX10_ranked 114 = .ok (.iconst 1, 1) := by decide +kernel
theorem dX10_ranked_115 : decode cX10_ranked 115 = .ok (.putfield 27, 3) := by decide +kernel
theorem dX10_ranked_118 : decode cX10_ranked 118 = .ok (.iconst 0, 1) := by decide +kernel
theorem dX10_ranked_119 : decode cX10_ranked 119 = .ok (.ireturn, 1) := by decide +kernel
theorem dX10_feed_0 : decode cX10_feed 0 = .ok (.aload_n 0, 1) := by decide +kernel
theorem dX10_feed_1 : decode cX10_feed 1 = .ok (.aload_n 0, 1) := by decide +kernel
theorem dX10_feed_2 : decode cX10_feed 2 = .ok (.getfield 177, 3) := by decide +kernel
theorem dX10_feed_5 : decode cX10_feed 5 = .ok (.bipush 60, 2) := by decide +kernel
theorem dX10_feed_7 : decode cX10_feed 7 = .ok (.if_icmp .ge 7, 3) := by decide +kernel
theorem dX10_feed_10 : decode cX10_feed 10 = .ok (.iconst 1, 1) := by decide +kernel
theorem dX10_feed_11 : decode cX10_feed 11 = .ok (.goto 4, 3) := by decide +kernel
theorem dX10_feed_14 : decode cX10_feed 14 = .ok (.iconst 0, 1) := by decide +kernel
theorem dX10_feed_15 : decode cX10_feed 15 = .ok (.invokevirtual 49, 3) := by decide +kernel
theorem dX10_feed_18 : decode cX10_feed 18 = .ok (.ifCond .ne 5, 3) := by decide +kernel
theorem dX10_feed_21 : decode cX10_feed 21 = .ok (.iconst 0, 1) := by decide +kernel
theorem dX10_feed_22 : decode cX10_feed 22 = .ok (.ireturn, 1) := by decide +kernel
theorem dX10_feed_23 : decode cX10_feed 23 = .ok (.aload_n 0, 1) := by decide +kernel
theorem dX10_feed_24 : decode cX10_feed 24 = .ok (.getfield 13, 3) := by decide +kernel
theorem dX10_feed_27 : decode cX10_feed 27 = .ok (.aload_n 0, 1) := by decide +kernel
theorem dX10_feed_28 : decode cX10_feed 28 = .ok (.getfield 177, 3) := by decide +kernel
theorem dX10_feed_31 : decode cX10_feed 31 = .ok (.iload_n 1, 1) := by decide +kernel
theorem dX10_feed_32 : decode cX10_feed 32 = .ok (.castore, 1) := by decide +kernel
theorem dX10_feed_33 : decode cX10_feed 33 = .ok (.aload_n 0, 1) := by decide +kernel
theorem dX10_feed_34 : decode cX10_feed 34 = .ok (.dup, 1) := by decide +kernel
theorem dX10_feed_35 : decode cX10_feed 35 = .ok (.getfield 177, 3) := by decide +kernel
theorem dX10_feed_38 : decode cX10_feed 38 = .ok (.iconst 1, 1) := by decide +kernel
theorem dX10_feed_39 : decode cX10_feed 39 = .ok (.iadd, 1) := by decide +kernel
theorem dX10_feed_40 : decode cX10_feed 40 = .ok (.putfield 177, 3) := by decide +kernel
theorem dX10_feed_43 : decode cX10_feed 43 = .ok (.aload_n 0, 1) := by decide +kernel
theorem dX10_feed_44 : decode cX10_feed 44 = .ok (.getfield 177, 3) := by decide +kernel
theorem dX10_feed_47 : decode cX10_feed 47 = .ok (.ireturn, 1) := by decide +kernel
theorem dX10_sign_0 : decode cX10_sign 0 = .ok (.aload_n 0, 1) := by decide +kernel
theorem dX10_sign_1 : decode cX10_sign 1 = .ok (.getfield 180, 3) := by decide +kernel
theorem dX10_sign_4 : decode cX10_sign 4 = .ok (.aload_n 0, 1) := by decide +kernel
theorem dX10_sign_5 : decode cX10_sign 5 = .ok (.getfield 177, 3) := by decide +kernel
theorem dX10_sign_8 : decode cX10_sign 8 = .ok (.if_icmp .ge 15, 3) := by decide +kernel
theorem dX10_sign_11 : decode cX10_sign 11 = .ok (.aload_n 0, 1) := by decide +kernel
theorem dX10_sign_12 : decode cX10_sign 12 = .ok (.getfield 13, 3) := by decide +kernel
theorem dX10_sign_15 : decode cX10_sign 15 = .ok (.aload_n 0, 1) := by decide +kernel
theorem dX10_sign_16 : decode cX10_sign 16 = .ok (.getfield 180, 3) := by decide +kernel
theorem dX10_sign_19 : decode cX10_sign 19 = .ok (.caload, 1) := by decide +kernel
theorem dX10_sign_20 : decode cX10_sign 20 = .ok (.goto 4, 3) := by decide +kernel
theorem dX10_sign_23 : decode cX10_sign 23 = .ok (.iconst (-1), 1) := by decide +kernel
theorem dX10_sign_24 : decode cX10_sign 24 = .ok (.ireturn, 1) := by decide +kernel
theorem dX10_needs_0 : decode cX10_needs 0 = .ok (.aload_n 0, 1) := by decide +kernel
theorem dX10_needs_1 : decode cX10_needs 1 = .ok (.getfield 183, 3) := by decide +kernel
theorem dX10_needs_4 : decode cX10_needs 4 = .ok (.ifCond .lt 4, 3) := by decide +kernel
theorem dX10_needs_7 : decode cX10_needs 7 = .ok (.return_, 1) := by decide +kernel
theorem dX10_needs_8 : decode cX10_needs 8 = .ok (.aload_n 0, 1) := by decide +kernel
theorem dX10_needs_9 : decode cX10_needs 9 = .ok (.invokevirtual 186, 3) := by decide +kernel
theorem dX10_needs_12 : decode cX10_needs 12 = .ok (.iload_n 1, 1) := by decide +kernel
theorem dX10_needs_13 : decode cX10_needs 13 = .ok (.if_icmp .eq 12, 3) := by decide +kernel
theorem dX10_needs_16 : decode cX10_needs 16 = .ok (.aload_n 0, 1) := by decide +kernel
theorem dX10_needs_17 : decode cX10_needs 17 = .ok (.aload_n 0, 1) := by decide +kernel
theorem dX10_needs_18 : decode cX10_needs 18 = .ok (.getfield 180, 3) := by decide +kernel
theorem dX10_needs_21 : decode cX10_needs 21 = .ok (.putfield 183, 3) := by decide +kernel
theorem dX10_needs_24 : decode cX10_needs 24 = .ok (.return_, 1) := by decide +kernel
theorem dX10_needs_25 : decode cX10_needs 25 = .ok (.aload_n 0, 1) := by decide +kernel
theorem dX10_needs_26 : decode cX10_needs 26 = .ok (.dup, 1) := by decide +kernel
theorem dX10_needs_27 : decode cX10_needs 27 = .ok (.getfield 180, 3) := by decide +kernel
theorem dX10_needs_30 : decode cX10_needs 30 = .ok (.iconst 1, 1) := by decide +kernel
theorem dX10_needs_31 : decode cX10_needs 31 = .ok (.iadd, 1) := by decide +kernel
theorem dX10_needs_32 : decode cX10_needs 32 = .ok (.putfield 180, 3) := by decide +kernel
theorem dX10_needs_35 : decode cX10_needs 35 = .ok (.return_, 1) := by decide +kernel
theorem dX10_signs_0 : decode cX10_signs 0 = .ok (.aload_n 0, 1) := by decide +kernel
theorem dX10_signs_1 : decode cX10_signs 1 = .ok (.iload_n 1, 1) := by decide +kernel
theorem dX10_signs_2 : decode cX10_signs 2 = .ok (.invokevirtual 189, 3) := by decide +kernel
theorem dX10_signs_5 : decode cX10_signs 5 = .ok (.aload_n 0, 1) := by decide +kernel
theorem dX10_signs_6 : decode cX10_signs 6 = .ok (.iload_n 2, 1) := by decide +kernel
theorem dX10_signs_7 : decode cX10_signs 7 = .ok (.invokevirtual 189, 3) := by decide +kernel
theorem dX10_signs_10 : decode cX10_signs 10 = .ok (.iload_n 3, 1) := by decide +kernel
theorem dX10_signs_11 : decode cX10_signs 11 = .ok (.ifCond .eq 8, 3) := by decide +kernel
theorem dX10_signs_14 : decode cX10_signs 14 = .ok (.aload_n 0, 1) := by decide +kernel
theorem dX10_signs_15 : decode cX10_signs 15 = .ok (.iload_n 3, 1) := by decide +kernel
theorem dX10_signs_16 : decode cX10_signs 16 = .ok (.invokevirtual 189, 3) := by decide +kernel
theorem dX10_signs_19 : decode cX10_signs 19 = .ok (.return_, 1) := by decide +kernel
theorem dX10_number_0 : decode cX10_number 0 = .ok (.aload_n 0, 1) := by decide +kernel
theorem dX10_number_1 : decode cX10_number 1 = .ok (.getfield 183, 3) := by decide +kernel
theorem dX10_number_4 : decode cX10_number 4 = .ok (.ifCond .lt 5, 3) := by decide +kernel
theorem dX10_number_7 : decode cX10_number 7 = .ok (.iconst 0, 1) := by decide +kernel
theorem dX10_number_8 : decode cX10_number 8 = .ok (.ireturn, 1) := by decide +kernel
theorem dX10_number_9 : decode cX10_number 9 = .ok (.aload_n 0, 1) := by decide +kernel
theorem dX10_number_10 : decode cX10_number 10 = .ok (.invokevirtual 186, 3) := by decide +kernel
theorem dX10_number_13 : decode cX10_number 13 = .ok (.bipush 48, 2) := by decide +kernel
theorem dX10_number_15 : decode cX10_number 15 = .ok (.bipush 57, 2) := by decide +kernel
theorem dX10_number_17 : decode cX10_number 17 = .ok (.invokestatic 56, 3) := by decide +kernel
theorem dX10_number_20 : decode cX10_number 20 = .ok (.ifCond .ne 13, 3) := by decide +kernel
theorem dX10_number_23 : decode cX10_number 23 = .ok (.aload_n 0, 1) := by decide +kernel
theorem dX10_number_24 : decode cX10_number 24 = .ok (.aload_n 0, 1) := by decide +kernel
theorem dX10_number_25 : decode cX10_number 25 = .ok (.getfield 180, 3) := by decide +kernel
theorem dX10_number_28 : decode cX10_number 28 = .ok (.putfield 183, 3) := by decide +kernel
theorem dX10_number_31 : decode cX10_number 31 = .ok (.iconst 0, 1) := by decide +kernel
theorem dX10_number_32 : decode cX10_number 32 = .ok (.ireturn, 1) := by decide +kernel
theorem dX10_number_33 : decode cX10_number 33 = .ok (.iconst 0, 1) := by decide +kernel
theorem dX10_number_34 : decode cX10_number 34 = .ok (.istore_n 2, 1) := by decide +kernel
theorem dX10_number_35 : decode cX10_number 35 = .ok (.iconst 0, 1) := by decide +kernel
theorem dX10_number_36 : decode cX10_number 36 = .ok (.istore_n 3, 1) := by decide +kernel
theorem dX10_number_37 : decode cX10_number 37 = .ok (.iload_n 3, 1) := by decide +kernel
theorem dX10_number_38 : decode cX10_number 38 = .ok (.iload_n 1, 1) := by decide +kernel
theorem dX10_number_39 : decode cX10_number 39 = .ok (.if_icmp .ge 46, 3) := by decide +kernel
theorem dX10_number_42 : decode cX10_number 42 = .ok (.aload_n 0, 1) := by decide +kernel
theorem dX10_number_43 : decode cX10_number 43 = .ok (.invokevirtual 186, 3) := by decide +kernel
theorem dX10_number_46 : decode cX10_number 46 = .ok (.bipush 48, 2) := by decide +kernel
theorem dX10_number_48 : decode cX10_number 48 = .ok (.bipush 57, 2) := by decide +kernel
theorem dX10_number_50 : decode cX10_number 50 = .ok (.invokestatic 56, 3) := by decide +kernel
theorem dX10_number_53 : decode cX10_number 53 = .ok (.ifCond .eq 32, 3) := by decide +kernel
theorem dX10_number_56 : decode cX10_number 56 = .ok (.bipush 10, 2) := by decide +kernel
theorem dX10_number_58 : decode cX10_number 58 = .ok (.iload_n 2, 1) := by decide +kernel
theorem dX10_number_59 : decode cX10_number 59 = .ok (.imul, 1) := by decide +kernel
theorem dX10_number_60 : decode cX10_number 60 = .ok (.aload_n 0, 1) := by decide +kernel
theorem dX10_number_61 : decode cX10_number 61 = .ok (.invokevirtual 186, 3) := by decide +kernel
theorem dX10_number_64 : decode cX10_number 64 = .ok (.iadd, 1) := by decide +kernel
theorem dX10_number_65 : decode cX10_number 65 = .ok (.bipush 48, 2) := by decide +kernel
theorem dX10_number_67 : decode cX10_number 67 = .ok (.isub, 1) := by decide +kernel
theorem dX10_number_68 : decode cX10_number 68 = .ok (.istore_n 2, 1) := by decide +kernel
theorem dX10_number_69 : decode cX10_number 69 = .ok (.aload_n 0, 1) := by decide +kernel
theorem dX10_number_70 : decode cX10_number 70 = .ok (.dup, 1) := by decide +kernel
theorem dX10_number_71 : decode cX10_number 71 = .ok (.getfield 180, 3) := by decide +kernel
theorem dX10_number_74 : decode cX10_number 74 = .ok (.iconst 1, 1) := by decide +kernel
theorem dX10_number_75 : decode cX10_number 75 = .ok (.iadd, 1) := by decide +kernel
theorem dX10_number_76 : decode cX10_number 76 = .ok (.putfield 180, 3) := by decide +kernel
theorem dX10_number_79 : decode cX10_number 79 = .ok (.iinc 3 1, 3) := by decide +kernel
theorem dX10_number_82 : decode cX10_number 82 = .ok (.goto (-45), 3) := by decide +kernel
theorem dX10_number_85 : decode cX10_number 85 = .ok (.iload_n 2, 1) := by decide +kernel
theorem dX10_number_86 : decode cX10_number 86 = .ok (.ireturn, 1) := by decide +kernel
theorem dX10_behind_0 : decode cX10_behind 0 = .ok (.aload_n 0, 1) := by decide +kernel
theorem dX10_behind_1 : decode cX10_behind 1 = .ok (.iload_n 1, 1) := by decide +kernel
theorem dX10_behind_2 : decode cX10_behind 2 = .ok (.invokevirtual 189, 3) := by decide +kernel
theorem dX10_behind_5 : decode cX10_behind 5 = .ok (.aload_n 0, 1) := by decide +kernel
theorem dX10_behind_6 : decode cX10_behind 6 = .ok (.iload_n 2, 1) := by decide +kernel
theorem dX10_behind_7 : decode cX10_behind 7 = .ok (.invokevirtual 192, 3) := by decide +kernel
theorem dX10_behind_10 : decode cX10_behind 10 = .ok (.ireturn, 1) := by decide +kernel
theorem dX10_isWord_0 : decode cX10_isWord 0 = .ok (.iload_n 0, 1) := by decide +kernel
theorem dX10_isWord_1 : decode cX10_isWord 1 = .ok (.bipush 99, 2) := by decide +kernel
theorem dX10_isWord_3 : decode cX10_isWord 3 = .ok (.if_icmp .eq 51, 3) := by decide +kernel
theorem dX10_isWord_6 : decode cX10_isWord 6 = .ok (.iload_n 0, 1) := by decide +kernel
theorem dX10_isWord_7 : decode cX10_isWord 7 = .ok (.bipush 118, 2) := by decide +kernel
theorem dX10_isWord_9 : decode cX10_isWord 9 = .ok (.if_icmp .eq 45, 3) := by decide +kernel
theorem dX10_isWord_12 : decode cX10_isWord 12 = .ok (.iload_n 0, 1) := by decide +kernel
theorem dX10_isWord_13 : decode cX10_isWord 13 = .ok (.bipush 116, 2) := by decide +kernel
theorem dX10_isWord_15 : decode cX10_isWord 15 = .ok (.if_icmp .eq 39, 3) := by decide +kernel
theorem dX10_isWord_18 : decode cX10_isWord 18 = .ok (.iload_n 0, 1) := by decide +kernel
theorem dX10_isWord_19 : decode cX10_isWord 19 = .ok (.bipush 115, 2) := by decide +kernel
theorem dX10_isWord_21 : decode cX10_isWord 21 = .ok (.if_icmp .eq 33, 3) := by decide +kernel
theorem dX10_isWord_24 : decode cX10_isWord 24 = .ok (.iload_n 0, 1) := by decide +kernel
theorem dX10_isWord_25 : decode cX10_isWord 25 = .ok (.bipush 112, 2) := by decide +kernel
theorem dX10_isWord_27 : decode cX10_isWord 27 = .ok (.if_icmp .eq 27, 3) := by decide +kernel
theorem dX10_isWord_30 : decode cX10_isWord 30 = .ok (.iload_n 0, 1) := by decide +kernel
theorem dX10_isWord_31 : decode cX10_isWord 31 = .ok (.bipush 114, 2) := by decide +kernel
theorem dX10_isWord_33 : decode cX10_isWord 33 = .ok (.if_icmp .eq 21, 3) := by decide +kernel
theorem dX10_isWord_36 : decode cX10_isWord 36 = .ok (.iload_n 0, 1) := by decide +kernel
theorem dX10_isWord_37 : decode cX10_isWord 37 = .ok (.bipush 119, 2) := by decide +kernel
theorem dX10_isWord_39 : decode cX10_isWord 39 = .ok (.if_icmp .eq 15, 3) := by decide +kernel
theorem dX10_isWord_42 : decode cX10_isWord 42 = .ok (.iload_n 0, 1) := by decide +kernel
theorem dX10_isWord_43 : decode cX10_isWord 43 = .ok (.bipush 104, 2) := by decide +kernel
theorem dX10_isWord_45 : decode cX10_isWord 45 = .ok (.if_icmp .eq 9, 3) := by decide +kernel
theorem dX10_isWord_48 : decode cX10_isWord 48 = .ok (.iload_n 0, 1) := by decide +kernel
theorem dX10_isWord_49 : decode cX10_isWord 49 = .ok (.bipush 100, 2) := by decide +kernel
theorem dX10_isWord_51 : decode cX10_isWord 51 = .ok (.if_icmp .ne 7, 3) := by decide +kernel
theorem dX10_isWord_54 : decode cX10_isWord 54 = .ok (.iconst 1, 1) := by decide +kernel
theorem dX10_isWord_55 : decode cX10_isWord 55 = .ok (.goto 4, 3) := by decide +kernel
theorem dX10_isWord_58 : decode cX10_isWord 58 = .ok (.iconst 0, 1) := by decide +kernel
theorem dX10_isWord_59 : decode cX10_isWord 59 = .ok (.ireturn, 1) := by decide +kernel
theorem dX10_word_0 : decode cX10_word 0 = .ok (.iload_n 1, 1) := by decide +kernel
theorem dX10_word_1 : decode cX10_word 1 = .ok (.tableswitch 233 99 119 #[99, 233, 233, 233, 233, 220, 233, 233, 233, 233, 233, 233, 233, 163, 233, 185, 150, 131, 233, 118, 207], 99) := by decide +kernel
theorem dX10_word_100 : decode cX10_word 100 = .ok (.aload_n 0, 1) := by decide +kernel
theorem dX10_word_101 : decode cX10_word 101 = .ok (.bipush 108, 2) := by decide +kernel
theorem dX10_word_103 : decode cX10_word 103 = .ok (.bipush 111, 2) := by decide +kernel
theorem dX10_word_105 : decode cX10_word 105 = .ok (.bipush 117, 2) := by decide +kernel
theorem dX10_word_107 : decode cX10_word 107 = .ok (.invokevirtual 195, 3) := by decide +kernel
theorem dX10_word_110 : decode cX10_word 110 = .ok (.aload_n 0, 1) := by decide +kernel
theorem dX10_word_111 : decode cX10_word 111 = .ok (.bipush 100, 2) := by decide +kernel
theorem dX10_word_113 : decode cX10_word 113 = .ok (.invokevirtual 189, 3) := by decide +kernel
theorem dX10_word_116 : decode cX10_word 116 = .ok (.goto 128, 3) := by decide +kernel
theorem dX10_word_119 : decode cX10_word 119 = .ok (.aload_n 0, 1) := by decide +kernel
theorem dX10_word_120 : decode cX10_word 120 = .ok (.bipush 105, 2) := by decide +kernel
theorem dX10_word_122 : decode cX10_word 122 = .ok (.bipush 110, 2) := by decide +kernel
theorem dX10_word_124 : decode cX10_word 124 = .ok (.bipush 101, 2) := by decide +kernel
theorem dX10_word_126 : decode cX10_word 126 = .ok (.invokevirtual 195, 3) := by decide +kernel
theorem dX10_word_129 : decode cX10_word 129 = .ok (.goto 115, 3) := by decide +kernel
theorem dX10_word_132 : decode cX10_word 132 = .ok (.aload_n 0, 1) := by decide +kernel
theorem dX10_word_133 : decode cX10_word 133 = .ok (.bipush 105, 2) := by decide +kernel
theorem dX10_word_135 : decode cX10_word 135 = .ok (.bipush 116, 2) := by decide +kernel
theorem dX10_word_137 : decode cX10_word 137 = .ok (.bipush 108, 2) := by decide +kernel
theorem dX10_word_139 : decode cX10_word 139 = .ok (.invokevirtual 195, 3) := by decide +kernel
theorem dX10_word_142 : decode cX10_word 142 = .ok (.aload_n 0, 1) := by decide +kernel
theorem dX10_word_143 : decode cX10_word 143 = .ok (.bipush 101, 2) := by decide +kernel
theorem dX10_word_145 : decode cX10_word 145 = .ok (.invokevirtual 189, 3) := by decide +kernel
theorem dX10_word_148 : decode cX10_word 148 = .ok (.goto 96, 3) := by decide +kernel
theorem dX10_word_151 : decode cX10_word 151 = .ok (.aload_n 0, 1) := by decide +kernel
theorem dX10_word_152 : decode cX10_word 152 = .ok (.bipush 101, 2) := by decide +kernel
theorem dX10_word_154 : decode cX10_word 154 = .ok (.bipush 108, 2) := by decide +kernel
theorem dX10_word_156 : decode cX10_word 156 = .ok (.bipush 108, 2) := by decide +kernel
theorem dX10_word_158 : decode cX10_word 158 = .ok (.invokevirtual 195, 3) := by decide +kernel
theorem dX10_word_161 : decode cX10_word 161 = .ok (.goto 83, 3) := by decide +kernel
theorem dX10_word_164 : decode cX10_word 164 = .ok (.aload_n 0, 1) := by decide +kernel
theorem dX10_word_165 : decode cX10_word 165 = .ok (.bipush 108, 2) := by decide +kernel
theorem dX10_word_167 : decode cX10_word 167 = .ok (.bipush 101, 2) := by decide +kernel
theorem dX10_word_169 : decode cX10_word 169 = .ok (.bipush 100, 2) := by decide +kernel
theorem dX10_word_171 : decode cX10_word 171 = .ok (.invokevirtual 195, 3) := by decide +kernel
theorem dX10_word_174 : decode cX10_word 174 = .ok (.aload_n 0, 1) := by decide +kernel
theorem dX10_word_175 : decode cX10_word 175 = .ok (.bipush 103, 2) := by decide +kernel
theorem dX10_word_177 : decode cX10_word 177 = .ok (.bipush 101, 2) := by decide +kernel
theorem dX10_word_179 : decode cX10_word 179 = .ok (.iconst 0, 1) := by decide +kernel
theorem dX10_word_180 : decode cX10_word 180 = .ok (.invokevirtual 195, 3) := by decide +kernel
theorem dX10_word_183 : decode cX10_word 183 = .ok (.goto 61, 3) := by decide +kernel
theorem dX10_word_186 : decode cX10_word 186 = .ok (.aload_n 0, 1) := by decide +kernel
theorem dX10_word_187 : decode cX10_word 187 = .ok (.bipush 101, 2) := by decide +kernel
theorem dX10_word_189 : decode cX10_word 189 = .ok (.bipush 100, 2) := by decide +kernel
theorem dX10_word_191 : decode cX10_word 191 = .ok (.bipush 101, 2) := by decide +kernel
theorem dX10_word_193 : decode cX10_word 193 = .ok (.invokevirtual 195, 3) := by decide +kernel
theorem dX10_word_196 : decode cX10_word 196 = .ok (.aload_n 0, 1) := by decide +kernel
theorem dX10_word_197 : decode cX10_word 197 = .ok (.bipush 101, 2) := by decide +kernel
theorem dX10_word_199 : decode cX10_word 199 = .ok (.bipush 109, 2) := by decide +kernel
theorem dX10_word_201 : decode cX10_word 201 = .ok (.iconst 0, 1) := by decide +kernel
theorem dX10_word_202 : decode cX10_word 202 = .ok (.invokevirtual 195, 3) := by decide +kernel
theorem dX10_word_205 : decode cX10_word 205 = .ok (.goto 39, 3) := by decide +kernel
theorem dX10_word_208 : decode cX10_word 208 = .ok (.aload_n 0, 1) := by decide +kernel
theorem dX10_word_209 : decode cX10_word 209 = .ok (.bipush 105, 2) := by decide +kernel
theorem dX10_word_211 : decode cX10_word 211 = .ok (.bipush 110, 2) := by decide +kernel
theorem dX10_word_213 : decode cX10_word 213 = .ok (.bipush 100, 2) := by decide +kernel
theorem dX10_word_215 : decode cX10_word 215 = .ok (.invokevirtual 195, 3) := by decide +kernel
theorem dX10_word_218 : decode cX10_word 218 = .ok (.goto 26, 3) := by decide +kernel
theorem dX10_word_221 : decode cX10_word 221 = .ok (.aload_n 0, 1) := by decide +kernel
theorem dX10_word_222 : decode cX10_word 222 = .ok (.bipush 97, 2) := by decide +kernel
theorem dX10_word_224 : decode cX10_word 224 = .ok (.bipush 105, 2) := by decide +kernel
theorem dX10_word_226 : decode cX10_word 226 = .ok (.bipush 108, 2) := by decide +kernel
theorem dX10_word_228 : decode cX10_word 228 = .ok (.invokevirtual 195, 3) := by decide +kernel
theorem dX10_word_231 : decode cX10_word 231 = .ok (.goto 13, 3) := by decide +kernel
theorem dX10_word_234 : decode cX10_word 234 = .ok (.aload_n 0, 1) := by decide +kernel
theorem dX10_word_235 : decode cX10_word 235 = .ok (.bipush 97, 2) := by decide +kernel
theorem dX10_word_237 : decode cX10_word 237 = .ok (.bipush 119, 2) := by decide +kernel
theorem dX10_word_239 : decode cX10_word 239 = .ok (.bipush 110, 2) := by decide +kernel
theorem dX10_word_241 : decode cX10_word 241 = .ok (.invokevirtual 195, 3) := by decide +kernel
theorem dX10_word_244 : decode cX10_word 244 = .ok (.return_, 1) := by decide +kernel
theorem dX10_windNow_0 : decode cX10_windNow 0 = .ok (.aload_n 0, 1) := by decide +kernel
theorem dX10_windNow_1 : decode cX10_windNow 1 = .ok (.bipush 32, 2) := by decide +kernel
theorem dX10_windNow_3 : decode cX10_windNow 3 = .ok (.invokevirtual 189, 3) := by decide +kernel
theorem dX10_windNow_6 : decode cX10_windNow 6 = .ok (.aload_n 0, 1) := by decide +kernel
theorem dX10_windNow_7 : decode cX10_windNow 7 = .ok (.getfield 183, 3) := by decide +kernel
theorem dX10_windNow_10 : decode cX10_windNow 10 = .ok (.ifCond .ge 29, 3) := by decide +kernel
theorem dX10_windNow_13 : decode cX10_windNow 13 = .ok (.aload_n 0, 1) := by decide +kernel
theorem dX10_windNow_14 : decode cX10_windNow 14 = .ok (.invokevirtual 186, 3) := by decide +kernel
theorem dX10_windNow_17 : decode cX10_windNow 17 = .ok (.bipush 45, 2) := by decide +kernel
theorem dX10_windNow_19 : decode cX10_windNow 19 = .ok (.if_icmp .ne 20, 3) := by decide +kernel
theorem dX10_windNow_22 : decode cX10_windNow 22 = .ok (.aload_n 0, 1) := by decide +kernel
theorem dX10_windNow_23 : decode cX10_windNow 23 = .ok (.dup, 1) := by decide +kernel
theorem dX10_windNow_24 : decode cX10_windNow 24 = .ok (.getfield 180, 3) := by decide +kernel
theorem dX10_windNow_27 : decode cX10_windNow 27 = .ok (.iconst 1, 1) := by decide +kernel
theorem dX10_windNow_28 : decode cX10_windNow 28 = .ok (.iadd, 1) := by decide +kernel
theorem dX10_windNow_29 : decode cX10_windNow 29 = .ok (.putfield 180, 3) := by decide +kernel
theorem dX10_windNow_32 : decode cX10_windNow 32 = .ok (.aload_n 0, 1) := by decide +kernel
theorem dX10_windNow_33 : decode cX10_windNow 33 = .ok (.iconst 1, 1) := by decide +kernel
theorem dX10_windNow_34 : decode cX10_windNow 34 = .ok (.invokevirtual 192, 3) := by decide +kernel
theorem dX10_windNow_37 : decode cX10_windNow 37 = .ok (.ineg, 1) := by decide +kernel
theorem dX10_windNow_38 : decode cX10_windNow 38 = .ok (.ireturn, 1) := by decide +kernel
theorem dX10_windNow_39 : decode cX10_windNow 39 = .ok (.aload_n 0, 1) := by decide +kernel
theorem dX10_windNow_40 : decode cX10_windNow 40 = .ok (.iconst 1, 1) := by decide +kernel
theorem dX10_windNow_41 : decode cX10_windNow 41 = .ok (.invokevirtual 192, 3) := by decide +kernel
theorem dX10_windNow_44 : decode cX10_windNow 44 = .ok (.ireturn, 1) := by decide +kernel
theorem dX10_vineOwner_0 : decode cX10_vineOwner 0 = .ok (.aload_n 0, 1) := by decide +kernel
theorem dX10_vineOwner_1 : decode cX10_vineOwner 1 = .ok (.getfield 183, 3) := by decide +kernel
theorem dX10_vineOwner_4 : decode cX10_vineOwner 4 = .ok (.ifCond .ge 24, 3) := by decide +kernel
theorem dX10_vineOwner_7 : decode cX10_vineOwner 7 = .ok (.aload_n 0, 1) := by decide +kernel
theorem dX10_vineOwner_8 : decode cX10_vineOwner 8 = .ok (.invokevirtual 186, 3) := by decide +kernel
theorem dX10_vineOwner_11 : decode cX10_vineOwner 11 = .ok (.bipush 45, 2) := by decide +kernel
theorem dX10_vineOwner_13 : decode cX10_vineOwner 13 = .ok (.if_icmp .ne 15, 3) := by decide +kernel
theorem dX10_vineOwner_16 : decode cX10_vineOwner 16 = .ok (.aload_n 0, 1) := by decide +kernel
theorem dX10_vineOwner_17 : decode cX10_vineOwner 17 = .ok (.dup, 1) := by decide +kernel
theorem dX10_vineOwner_18 : decode cX10_vineOwner 18 = .ok (.getfield 180, 3) := by decide +kernel
theorem dX10_vineOwner_21 : decode cX10_vineOwner 21 = .ok (.iconst 1, 1) := by decide +kernel
theorem dX10_vineOwner_22 : decode cX10_vineOwner 22 = .ok (.iadd, 1) := by decide +kernel
theorem dX10_vineOwner_23 : decode cX10_vineOwner 23 = .ok (.putfield 180, 3) := by decide +kernel
theorem dX10_vineOwner_26 : decode cX10_vineOwner 26 = .ok (.iconst (-1), 1) := by decide +kernel
theorem dX10_vineOwner_27 : decode cX10_vineOwner 27 = .ok (.ireturn, 1) := by decide +kernel
theorem dX10_vineOwner_28 : decode cX10_vineOwner 28 = .ok (.aload_n 0, 1) := by decide +kernel
theorem dX10_vineOwner_29 : decode cX10_vineOwner 29 = .ok (.bipush 62, 2) := by decide +kernel
theorem dX10_vineOwner_31 : decode cX10_vineOwner 31 = .ok (.iconst 1, 1) := by decide +kernel
theorem dX10_vineOwner_32 : decode cX10_vineOwner 32 = .ok (.invokevirtual 198, 3) := by decide +kernel
theorem dX10_vineOwner_35 : decode cX10_vineOwner 35 = .ok (.ireturn, 1) := by decide +kernel
theorem dX10_order_0 : decode cX10_order 0 = .ok (.iconst 4, 1) := by decide +kernel
theorem dX10_order_1 : decode cX10_order 1 = .ok (.aload_n 0, 1) := by decide +kernel
theorem dX10_order_2 : decode cX10_order 2 = .ok (.getfield 201, 3) := by decide +kernel
theorem dX10_order_5 : decode cX10_order 5 = .ok (.imul, 1) := by decide +kernel
theorem dX10_order_6 : decode cX10_order 6 = .ok (.istore_n 1, 1) := by decide +kernel
theorem dX10_order_7 : decode cX10_order 7 = .ok (.aload_n 0, 1) := by decide +kernel
theorem dX10_order_8 : decode cX10_order 8 = .ok (.dup, 1) := by decide +kernel
theorem dX10_order_9 : decode cX10_order 9 = .ok (.getfield 201, 3) := by decide +kernel
theorem dX10_order_12 : decode cX10_order 12 = .ok (.iconst 1, 1) := by decide +kernel
theorem dX10_order_13 : decode cX10_order 13 = .ok (.iadd, 1) := by decide +kernel
theorem dX10_order_14 : decode cX10_order 14 = .ok (.putfield 201, 3) := by decide +kernel
theorem dX10_order_17 : decode cX10_order 17 = .ok (.aload_n 0, 1) := by decide +kernel
theorem dX10_order_18 : decode cX10_order 18 = .ok (.invokevirtual 186, 3) := by decide +kernel
theorem dX10_order_21 : decode cX10_order 21 = .ok (.istore_n 2, 1) := by decide +kernel
theorem dX10_order_22 : decode cX10_order 22 = .ok (.iconst 0, 1) := by decide +kernel
theorem dX10_order_23 : decode cX10_order 23 = .ok (.istore_n 3, 1) := by decide +kernel
theorem dX10_order_24 : decode cX10_order 24 = .ok (.iload_n 3, 1) := by decide +kernel
theorem dX10_order_25 : decode cX10_order 25 = .ok (.iconst 4, 1) := by decide +kernel
theorem dX10_order_26 : decode cX10_order 26 = .ok (.if_icmp .ge 18, 3) := by decide +kernel
theorem dX10_order_29 : decode cX10_order 29 = .ok (.aload_n 0, 1) := by decide +kernel
theorem dX10_order_30 : decode cX10_order 30 = .ok (.getfield 21, 3) := by decide +kernel
theorem dX10_order_33 : decode cX10_order 33 = .ok (.iload_n 1, 1) := by decide +kernel
theorem dX10_order_34 : decode cX10_order 34 = .ok (.iload_n 3, 1) := by decide +kernel
theorem dX10_order_35 : decode cX10_order 35 = .ok (.iadd, 1) := by decide +kernel
theorem dX10_order_36 : decode cX10_order 36 = .ok (.iconst 0, 1) := by decide +kernel
theorem dX10_order_37 : decode cX10_order 37 = .ok (.iastore, 1) := by decide +kernel
theorem dX10_order_38 : decode cX10_order 38 = .ok (.iinc 3 1, 3) := by decide +kernel
theorem dX10_order_41 : decode cX10_order 41 = .ok (.goto (-17), 3) := by decide +kernel
theorem dX10_order_44 : decode cX10_order 44 = .ok (.iload_n 2, 1) := by decide +kernel
theorem dX10_order_45 : decode cX10_order 45 = .ok (.invokestatic 204, 3) := by decide +kernel
theorem dX10_order_48 : decode cX10_order 48 = .ok (.ifCond .ne 12, 3) := by decide +kernel
theorem dX10_order_51 : decode cX10_order 51 = .ok (.aload_n 0, 1) := by decide +kernel
theorem dX10_order_52 : decode cX10_order 52 = .ok (.aload_n 0, 1) := by decide +kernel
theorem dX10_order_53 : decode cX10_order 53 = .ok (.getfield 180, 3) := by decide +kernel
theorem dX10_order_56 : decode cX10_order 56 = .ok (.putfield 183, 3) := by decide +kernel
theorem dX10_order_59 : decode cX10_order 59 = .ok (.return_, 1) := by decide +kernel
theorem dX10_order_60 : decode cX10_order 60 = .ok (.aload_n 0, 1) := by decide +kernel
theorem dX10_order_61 : decode cX10_order 61 = .ok (.dup, 1) := by decide +kernel
theorem dX10_order_62 : decode cX10_order 62 = .ok (.getfield 180, 3) := by decide +kernel
theorem dX10_order_65 : decode cX10_order 65 = .ok (.iconst 1, 1) := by decide +kernel
theorem dX10_order_66 : decode cX10_order 66 = .ok (.iadd, 1) := by decide +kernel
theorem dX10_order_67 : decode cX10_order 67 = .ok (.putfield 180, 3) := by decide +kernel
theorem dX10_order_70 : decode cX10_order 70 = .ok (.aload_n 0, 1) := by decide +kernel
theorem dX10_order_71 : decode cX10_order 71 = .ok (.iload_n 2, 1) := by decide +kernel
theorem dX10_order_72 : decode cX10_order 72 = .ok (.invokevirtual 207, 3) := by decide +kernel
theorem dX10_order_75 : decode cX10_order 75 = .ok (.aload_n 0, 1) := by decide +kernel
theorem dX10_order_76 : decode cX10_order 76 = .ok (.getfield 21, 3) := by decide +kernel
theorem dX10_order_79 : decode cX10_order 79 = .ok (.iload_n 1, 1) := by decide +kernel
theorem dX10_order_80 : decode cX10_order 80 = .ok (.iload_n 2, 1) := by decide +kernel
theorem dX10_order_81 : decode cX10_order 81 = .ok (.iastore, 1) := by decide +kernel
theorem dX10_order_82 : decode cX10_order 82 = .ok (.iload_n 2, 1) := by decide +kernel
theorem dX10_order_83 : decode cX10_order 83 = .ok (.bipush 100, 2) := by decide +kernel
theorem dX10_order_85 : decode cX10_order 85 = .ok (.if_icmp .ne 4, 3) := by decide +kernel
theorem dX10_order_88 : decode cX10_order 88 = .ok (.return_, 1) := by decide +kernel
theorem dX10_order_89 : decode cX10_order 89 = .ok (.aload_n 0, 1) := by decide +kernel
theorem dX10_order_90 : decode cX10_order 90 = .ok (.getfield 21, 3) := by decide +kernel
theorem dX10_order_93 : decode cX10_order 93 = .ok (.iload_n 1, 1) := by decide +kernel
theorem dX10_order_94 : decode cX10_order 94 = .ok (.iconst 1, 1) := by decide +kernel
theorem dX10_order_95 : decode cX10_order 95 = .ok (.iadd, 1) := by decide +kernel
theorem dX10_order_96 : decode cX10_order 96 = .ok (.iload_n 2, 1) := by decide +kernel
theorem dX10_order_97 : decode cX10_order 97 = .ok (.bipush 119, 2) := by decide +kernel
theorem dX10_order_99 : decode cX10_order 99 = .ok (.if_icmp .ne 10, 3) := by decide +kernel
theorem dX10_order_102 : decode cX10_order 102 = .ok (.aload_n 0, 1) := by decide +kernel
theorem dX10_order_103 : decode cX10_order 103 = .ok (.invokevirtual 210, 3) := by decide +kernel
theorem dX10_order_106 : decode cX10_order 106 = .ok (.goto 10, 3) := by decide +kernel
theorem dX10_order_109 : decode cX10_order 109 = .ok (.aload_n 0, 1) := by decide +kernel
theorem dX10_order_110 : decode cX10_order 110 = .ok (.bipush 32, 2) := by decide +kernel
theorem dX10_order_112 : decode cX10_order 112 = .ok (.iconst 1, 1) := by decide +kernel
theorem dX10_order_113 : decode cX10_order 113 = .ok (.invokevirtual 198, 3) := by decide +kernel
theorem dX10_order_116 : decode cX10_order 116 = .ok (.iastore, 1) := by decide +kernel
theorem dX10_order_117 : decode cX10_order 117 = .ok (.iload_n 2, 1) := by decide +kernel
theorem dX10_order_118 : decode cX10_order 118 = .ok (.lookupswitch 149 #[(99, 50), (112, 98), (115, 116), (116, 98), (118, 83)], 50) := by decide +kernel
theorem dX10_order_168 : decode cX10_order 168 = .ok (.aload_n 0, 1) := by decide +kernel
theorem dX10_order_169 : decode cX10_order 169 = .ok (.getfield 21, 3) := by decide +kernel
theorem dX10_order_172 : decode cX10_order 172 = .ok (.iload_n 1, 1) := by decide +kernel
theorem dX10_order_173 : decode cX10_order 173 = .ok (.iconst 2, 1) := by decide +kernel
theorem dX10_order_174 : decode cX10_order 174 = .ok (.iadd, 1) := by decide +kernel
theorem dX10_order_175 : decode cX10_order 175 = .ok (.aload_n 0, 1) := by decide +kernel
theorem dX10_order_176 : decode cX10_order 176 = .ok (.bipush 32, 2) := by decide +kernel
theorem dX10_order_178 : decode cX10_order 178 = .ok (.iconst 1, 1) := by decide +kernel
theorem dX10_order_179 : decode cX10_order 179 = .ok (.invokevirtual 198, 3) := by decide +kernel
theorem dX10_order_182 : decode cX10_order 182 = .ok (.iastore, 1) := by decide +kernel
theorem dX10_order_183 : decode cX10_order 183 = .ok (.aload_n 0, 1) := by decide +kernel
theorem dX10_order_184 : decode cX10_order 184 = .ok (.getfield 21, 3) := by decide +kernel
theorem dX10_order_187 : decode cX10_order 187 = .ok (.iload_n 1, 1) := by decide +kernel
theorem dX10_order_188 : decode cX10_order 188 = .ok (.iconst 3, 1) := by decide +kernel
theorem dX10_order_189 : decode cX10_order 189 = .ok (.iadd, 1) := by decide +kernel
theorem dX10_order_190 : decode cX10_order 190 = .ok (.aload_n 0, 1) := by decide +kernel
theorem dX10_order_191 : decode cX10_order 191 = .ok (.bipush 32, 2) := by decide +kernel
theorem dX10_order_193 : decode cX10_order 193 = .ok (.iconst 1, 1) := by decide +kernel
theorem dX10_order_194 : decode cX10_order 194 = .ok (.invokevirtual 198, 3) := by decide +kernel
theorem dX10_order_197 : decode cX10_order 197 = .ok (.iastore, 1) := by decide +kernel
theorem dX10_order_198 : decode cX10_order 198 = .ok (.goto 69, 3) := by decide +kernel
theorem dX10_order_201 : decode cX10_order 201 = .ok (.aload_n 0, 1) := by decide +kernel
theorem dX10_order_202 : decode cX10_order 202 = .ok (.getfield 21, 3) := by decide +kernel
theorem dX10_order_205 : decode cX10_order 205 = .ok (.iload_n 1, 1) := by decide +kernel
theorem dX10_order_206 : decode cX10_order 206 = .ok (.iconst 2, 1) := by decide +kernel
theorem dX10_order_207 : decode cX10_order 207 = .ok (.iadd, 1) := by decide +kernel
theorem dX10_order_208 : decode cX10_order 208 = .ok (.aload_n 0, 1) := by decide +kernel
theorem dX10_order_209 : decode cX10_order 209 = .ok (.invokevirtual 213, 3) := by decide +kernel
theorem dX10_order_212 : decode cX10_order 212 = .ok (.iastore, 1) := by decide +kernel
theorem dX10_order_213 : decode cX10_order 213 = .ok (.goto 54, 3) := by decide +kernel
theorem dX10_order_216 : decode cX10_order 216 = .ok (.aload_n 0, 1) := by decide +kernel
theorem dX10_order_217 : decode cX10_order 217 = .ok (.getfield 21, 3) := by decide +kernel
theorem dX10_order_220 : decode cX10_order 220 = .ok (.iload_n 1, 1) := by decide +kernel
theorem dX10_order_221 : decode cX10_order 221 = .ok (.iconst 2, 1) := by decide +kernel
theorem dX10_order_222 : decode cX10_order 222 = .ok (.iadd, 1) := by decide +kernel
theorem dX10_order_223 : decode cX10_order 223 = .ok (.aload_n 0, 1) := by decide +kernel
theorem dX10_order_224 : decode cX10_order 224 = .ok (.bipush 62, 2) := by decide +kernel
theorem dX10_order_226 : decode cX10_order 226 = .ok (.iconst 1, 1) := by decide +kernel
theorem dX10_order_227 : decode cX10_order 227 = .ok (.invokevirtual 198, 3) := by decide +kernel
theorem dX10_order_230 : decode cX10_order 230 = .ok (.iastore, 1) := by decide +kernel
theorem dX10_order_231 : decode cX10_order 231 = .ok (.goto 36, 3) := by decide +kernel
theorem dX10_order_234 : decode cX10_order 234 = .ok (.aload_n 0, 1) := by decide +kernel
theorem dX10_order_235 : decode cX10_order 235 = .ok (.getfield 21, 3) := by decide +kernel
theorem dX10_order_238 : decode cX10_order 238 = .ok (.iload_n 1, 1) := by decide +kernel
theorem dX10_order_239 : decode cX10_order 239 = .ok (.iconst 2, 1) := by decide +kernel
theorem dX10_order_240 : decode cX10_order 240 = .ok (.iadd, 1) := by decide +kernel
theorem dX10_order_241 : decode cX10_order 241 = .ok (.aload_n 0, 1) := by decide +kernel
theorem dX10_order_242 : decode cX10_order 242 = .ok (.bipush 62, 2) := by decide +kernel
theorem dX10_order_244 : decode cX10_order 244 = .ok (.iconst 1, 1) := by decide +kernel
theorem dX10_order_245 : decode cX10_order 245 = .ok (.invokevirtual 198, 3) := by decide +kernel
theorem dX10_order_248 : decode cX10_order 248 = .ok (.iastore, 1) := by decide +kernel
theorem dX10_order_249 : decode cX10_order 249 = .ok (.aload_n 0, 1) := by decide +kernel
theorem dX10_order_250 : decode cX10_order 250 = .ok (.getfield 21, 3) := by decide +kernel
theorem dX10_order_253 : decode cX10_order 253 = .ok (.iload_n 1, 1) := by decide +kernel
theorem dX10_order_254 : decode cX10_order 254 = .ok (.iconst 3, 1) := by decide +kernel
theorem dX10_order_255 : decode cX10_order 255 = .ok (.iadd, 1) := by decide +kernel
theorem dX10_order_256 : decode cX10_order 256 = .ok (.aload_n 0, 1) := by decide +kernel
theorem dX10_order_257 : decode cX10_order 257 = .ok (.bipush 61, 2) := by decide +kernel
theorem dX10_order_259 : decode cX10_order 259 = .ok (.iconst 2, 1) := by decide +kernel
theorem dX10_order_260 : decode cX10_order 260 = .ok (.invokevirtual 198, 3) := by decide +kernel
theorem dX10_order_263 : decode cX10_order 263 = .ok (.iastore, 1) := by decide +kernel
theorem dX10_order_264 : decode cX10_order 264 = .ok (.goto 3, 3) := by decide +kernel
theorem dX10_order_267 : decode cX10_order 267 = .ok (.return_, 1) := by decide +kernel
theorem dX10_parse_0 : decode cX10_parse 0 = .ok (.aload_n 0, 1) := by decide +kernel
theorem dX10_parse_1 : decode cX10_parse 1 = .ok (.iconst 0, 1) := by decide +kernel
theorem dX10_parse_2 : decode cX10_parse 2 = .ok (.putfield 180, 3) := by decide +kernel
theorem dX10_parse_5 : decode cX10_parse 5 = .ok (.aload_n 0, 1) := by decide +kernel
theorem dX10_parse_6 : decode cX10_parse 6 = .ok (.iconst (-1), 1) := by decide +kernel
theorem dX10_parse_7 : decode cX10_parse 7 = .ok (.putfield 183, 3) := by decide +kernel
theorem dX10_parse_10 : decode cX10_parse 10 = .ok (.aload_n 0, 1) := by decide +kernel
theorem dX10_parse_11 : decode cX10_parse 11 = .ok (.iconst 0, 1) := by decide +kernel
theorem dX10_parse_12 : decode cX10_parse 12 = .ok (.putfield 201, 3) := by decide +kernel
theorem dX10_parse_15 : decode cX10_parse 15 = .ok (.aload_n 0, 1) := by decide +kernel
theorem dX10_parse_16 : decode cX10_parse 16 = .ok (.invokevirtual 216, 3) := by decide +kernel
theorem dX10_parse_19 : decode cX10_parse 19 = .ok (.aload_n 0, 1) := by decide +kernel
theorem dX10_parse_20 : decode cX10_parse 20 = .ok (.getfield 183, 3) := by decide +kernel
theorem dX10_parse_23 : decode cX10_parse 23 = .ok (.ifCond .ge 29, 3) := by decide +kernel
theorem dX10_parse_26 : decode cX10_parse 26 = .ok (.aload_n 0, 1) := by decide +kernel
theorem dX10_parse_27 : decode cX10_parse 27 = .ok (.invokevirtual 186, 3) := by decide +kernel
theorem dX10_parse_30 : decode cX10_parse 30 = .ok (.bipush 59, 2) := by decide +kernel
theorem dX10_parse_32 : decode cX10_parse 32 = .ok (.if_icmp .ne 20, 3) := by decide +kernel
theorem dX10_parse_35 : decode cX10_parse 35 = .ok (.aload_n 0, 1) := by decide +kernel
theorem dX10_parse_36 : decode cX10_parse 36 = .ok (.dup, 1) := by decide +kernel
theorem dX10_parse_37 : decode cX10_parse 37 = .ok (.getfield 180, 3) := by decide +kernel
theorem dX10_parse_40 : decode cX10_parse 40 = .ok (.iconst 1, 1) := by decide +kernel
theorem dX10_parse_41 : decode cX10_parse 41 = .ok (.iadd, 1) := by decide +kernel
theorem dX10_parse_42 : decode cX10_parse 42 = .ok (.putfield 180, 3) := by decide +kernel
theorem dX10_parse_45 : decode cX10_parse 45 = .ok (.aload_n 0, 1) := by decide +kernel
theorem dX10_parse_46 : decode cX10_parse 46 = .ok (.invokevirtual 216, 3) := by decide +kernel
theorem dX10_parse_49 : decode cX10_parse 49 = .ok (.goto (-30), 3) := by decide +kernel
theorem dX10_parse_52 : decode cX10_parse 52 = .ok (.aload_n 0, 1) := by decide +kernel
theorem dX10_parse_53 : decode cX10_parse 53 = .ok (.getfield 183, 3) := by decide +kernel
theorem dX10_parse_56 : decode cX10_parse 56 = .ok (.ifCond .ge 22, 3) := by decide +kernel
theorem dX10_parse_59 : decode cX10_parse 59 = .ok (.aload_n 0, 1) := by decide +kernel
theorem dX10_parse_60 : decode cX10_parse 60 = .ok (.getfield 180, 3) := by decide +kernel
theorem dX10_parse_63 : decode cX10_parse 63 = .ok (.aload_n 0, 1) := by decide +kernel
theorem dX10_parse_64 : decode cX10_parse 64 = .ok (.getfield 177, 3) := by decide +kernel
theorem dX10_parse_67 : decode cX10_parse 67 = .ok (.if_icmp .ge 11, 3) := by decide +kernel
theorem dX10_parse_70 : decode cX10_parse 70 = .ok (.aload_n 0, 1) := by decide +kernel
theorem dX10_parse_71 : decode cX10_parse 71 = .ok (.aload_n 0, 1) := by decide +kernel
theorem dX10_parse_72 : decode cX10_parse 72 = .ok (.getfield 180, 3) := by decide +kernel
theorem dX10_parse_75 : decode cX10_parse 75 = .ok (.putfield 183, 3) := by decide +kernel
theorem dX10_parse_78 : decode cX10_parse 78 = .ok (.return_, 1) := by decide +kernel
theorem dX10_does_0 : decode cX10_does 0 = .ok (.aload_n 0, 1) := by decide +kernel
theorem dX10_does_1 : decode cX10_does 1 = .ok (.getfield 21, 3) := by decide +kernel
theorem dX10_does_4 : decode cX10_does 4 = .ok (.iload_n 1, 1) := by decide +kernel
theorem dX10_does_5 : decode cX10_does 5 = .ok (.iconst 1, 1) := by decide +kernel
theorem dX10_does_6 : decode cX10_does 6 = .ok (.iadd, 1) := by decide +kernel
theorem dX10_does_7 : decode cX10_does 7 = .ok (.iaload, 1) := by decide +kernel
theorem dX10_does_8 : decode cX10_does 8 = .ok (.istore_n 2, 1) := by decide +kernel
theorem dX10_does_9 : decode cX10_does 9 = .ok (.aload_n 0, 1) := by decide +kernel
theorem dX10_does_10 : decode cX10_does 10 = .ok (.getfield 21, 3) := by decide +kernel
theorem dX10_does_13 : decode cX10_does 13 = .ok (.iload_n 1, 1) := by decide +kernel
theorem dX10_does_14 : decode cX10_does 14 = .ok (.iconst 2, 1) := by decide +kernel
theorem dX10_does_15 : decode cX10_does 15 = .ok (.iadd, 1) := by decide +kernel
theorem dX10_does_16 : decode cX10_does 16 = .ok (.iaload, 1) := by decide +kernel
theorem dX10_does_17 : decode cX10_does 17 = .ok (.istore_n 3, 1) := by decide +kernel
theorem dX10_does_18 : decode cX10_does 18 = .ok (.aload_n 0, 1) := by decide +kernel
theorem dX10_does_19 : decode cX10_does 19 = .ok (.getfield 21, 3) := by decide +kernel
theorem dX10_does_22 : decode cX10_does 22 = .ok (.iload_n 1, 1) := by decide +kernel
theorem dX10_does_23 : decode cX10_does 23 = .ok (.iconst 3, 1) := by decide +kernel
theorem dX10_does_24 : decode cX10_does 24 = .ok (.iadd, 1) := by decide +kernel
theorem dX10_does_25 : decode cX10_does 25 = .ok (.iaload, 1) := by decide +kernel
theorem dX10_does_26 : decode cX10_does 26 = .ok (.istore 4, 2) := by decide +kernel
theorem dX10_does_28 : decode cX10_does 28 = .ok (.aload_n 0, 1) := by decide +kernel
theorem dX10_does_29 : decode cX10_does 29 = .ok (.getfield 21, 3) := by decide +kernel
theorem dX10_does_32 : decode cX10_does 32 = .ok (.iload_n 1, 1) := by decide +kernel
theorem dX10_does_33 : decode cX10_does 33 = .ok (.iaload, 1) := by decide +kernel
theorem dX10_does_34 : decode cX10_does 34 = .ok (.tableswitch 155 99 119 #[98, 155, 155, 155, 155, 149, 155, 155, 155, 155, 155, 155, 155, 130, 155, 137, 121, 114, 155, 107, 143], 98) := by decide +kernel
theorem dX10_does_132 : decode cX10_does 132 = .ok (.aload_n 0, 1) := by decide +kernel
theorem dX10_does_133 : decode cX10_does 133 = .ok (.iload_n 2, 1) := by decide +kernel
theorem dX10_does_134 : decode cX10_does 134 = .ok (.iload_n 3, 1) := by decide +kernel
theorem dX10_does_135 : decode cX10_does 135 = .ok (.iload 4, 2) := by decide +kernel
theorem dX10_does_137 : decode cX10_does 137 = .ok (.invokevirtual 79, 3) := by decide +kernel
theorem dX10_does_140 : decode cX10_does 140 = .ok (.ireturn, 1) := by decide +kernel
theorem dX10_does_141 : decode cX10_does 141 = .ok (.aload_n 0, 1) := by decide +kernel
theorem dX10_does_142 : decode cX10_does 142 = .ok (.iload_n 2, 1) := by decide +kernel
theorem dX10_does_143 : decode cX10_does 143 = .ok (.iload_n 3, 1) := by decide +kernel
theorem dX10_does_144 : decode cX10_does 144 = .ok (.invokevirtual 90, 3) := by decide +kernel
theorem dX10_does_147 : decode cX10_does 147 = .ok (.ireturn, 1) := by decide +kernel
theorem dX10_does_148 : decode cX10_does 148 = .ok (.aload_n 0, 1) := by decide +kernel
theorem dX10_does_149 : decode cX10_does 149 = .ok (.iload_n 2, 1) := by decide +kernel
theorem dX10_does_150 : decode cX10_does 150 = .ok (.iload_n 3, 1) := by decide +kernel
theorem dX10_does_151 : decode cX10_does 151 = .ok (.invokevirtual 113, 3) := by decide +kernel
theorem dX10_does_154 : decode cX10_does 154 = .ok (.ireturn, 1) := by decide +kernel
theorem dX10_does_155 : decode cX10_does 155 = .ok (.aload_n 0, 1) := by decide +kernel
theorem dX10_does_156 : decode cX10_does 156 = .ok (.iload_n 2, 1) := by decide +kernel
theorem dX10_does_157 : decode cX10_does 157 = .ok (.iload_n 3, 1) := by decide +kernel
theorem dX10_does_158 : decode cX10_does 158 = .ok (.iload 4, 2) := by decide +kernel
theorem dX10_does_160 : decode cX10_does 160 = .ok (.invokevirtual 122, 3) := by decide +kernel
theorem dX10_does_163 : decode cX10_does 163 = .ok (.ireturn, 1) := by decide +kernel
theorem dX10_does_164 : decode cX10_does 164 = .ok (.aload_n 0, 1) := by decide +kernel
theorem dX10_does_165 : decode cX10_does 165 = .ok (.iload_n 2, 1) := by decide +kernel
theorem dX10_does_166 : decode cX10_does 166 = .ok (.iload_n 3, 1) := by decide +kernel
theorem dX10_does_167 : decode cX10_does 167 = .ok (.invokevirtual 125, 3) := by decide +kernel
theorem dX10_does_170 : decode cX10_does 170 = .ok (.ireturn, 1) := by decide +kernel
theorem dX10_does_171 : decode cX10_does 171 = .ok (.aload_n 0, 1) := by decide +kernel
theorem dX10_does_172 : decode cX10_does 172 = .ok (.iload_n 2, 1) := by decide +kernel
theorem dX10_does_173 : decode cX10_does 173 = .ok (.invokevirtual 135, 3) := by decide +kernel
theorem dX10_does_176 : decode cX10_does 176 = .ok (.ireturn, 1) := by decide +kernel
theorem dX10_does_177 : decode cX10_does 177 = .ok (.aload_n 0, 1) := by decide +kernel
theorem dX10_does_178 : decode cX10_does 178 = .ok (.iload_n 2, 1) := by decide +kernel
theorem dX10_does_179 : decode cX10_does 179 = .ok (.invokevirtual 144, 3) := by decide +kernel
theorem dX10_does_182 : decode cX10_does 182 = .ok (.ireturn, 1) := by decide +kernel
theorem dX10_does_183 : decode cX10_does 183 = .ok (.aload_n 0, 1) := by decide +kernel
theorem dX10_does_184 : decode cX10_does 184 = .ok (.iload_n 2, 1) := by decide +kernel
theorem dX10_does_185 : decode cX10_does 185 = .ok (.invokevirtual 150, 3) := by decide +kernel
theorem dX10_does_188 : decode cX10_does 188 = .ok (.ireturn, 1) := by decide +kernel
theorem dX10_does_189 : decode cX10_does 189 = .ok (.aload_n 0, 1) := by decide +kernel
theorem dX10_does_190 : decode cX10_does 190 = .ok (.invokevirtual 156, 3) := by decide +kernel
theorem dX10_does_193 : decode cX10_does 193 = .ok (.istore 5, 2) := by decide +kernel
theorem dX10_does_195 : decode cX10_does 195 = .ok (.iconst 1, 1) := by decide +kernel
theorem dX10_does_196 : decode cX10_does 196 = .ok (.ireturn, 1) := by decide +kernel
theorem dX10_run_0 : decode cX10_run 0 = .ok (.aload_n 0, 1) := by decide +kernel
theorem dX10_run_1 : decode cX10_run 1 = .ok (.invokevirtual 219, 3) := by decide +kernel
theorem dX10_run_4 : decode cX10_run 4 = .ok (.aload_n 0, 1) := by decide +kernel
theorem dX10_run_5 : decode cX10_run 5 = .ok (.iconst 0, 1) := by decide +kernel
theorem dX10_run_6 : decode cX10_run 6 = .ok (.putfield 177, 3) := by decide +kernel
theorem dX10_run_9 : decode cX10_run 9 = .ok (.aload_n 0, 1) := by decide +kernel
theorem dX10_run_10 : decode cX10_run 10 = .ok (.getfield 183, 3) := by decide +kernel
theorem dX10_run_13 : decode cX10_run 13 = .ok (.ifCond .lt 18, 3) := by decide +kernel
theorem dX10_run_16 : decode cX10_run 16 = .ok (.aload_n 0, 1) := by decide +kernel
theorem dX10_run_17 : decode cX10_run 17 = .ok (.aload_n 0, 1) := by decide +kernel
theorem dX10_run_18 : decode cX10_run 18 = .ok (.getfield 183, 3) := by decide +kernel
theorem dX10_run_21 : decode cX10_run 21 = .ok (.putfield 17, 3) := by decide +kernel
theorem dX10_run_24 : decode cX10_run 24 = .ok (.aload_n 0, 1) := by decide +kernel
theorem dX10_run_25 : decode cX10_run 25 = .ok (.iconst 1, 1) := by decide +kernel
theorem dX10_run_26 : decode cX10_run 26 = .ok (.putfield 27, 3) := by decide +kernel
theorem dX10_run_29 : decode cX10_run 29 = .ok (.iconst 0, 1) := by decide +kernel
theorem dX10_run_30 : decode cX10_run 30 = .ok (.ireturn, 1) := by decide +kernel
theorem dX10_run_31 : decode cX10_run 31 = .ok (.aload_n 0, 1) := by decide +kernel
theorem dX10_run_32 : decode cX10_run 32 = .ok (.invokevirtual 76, 3) := by decide +kernel
theorem dX10_run_35 : decode cX10_run 35 = .ok (.iconst 0, 1) := by decide +kernel
theorem dX10_run_36 : decode cX10_run 36 = .ok (.istore_n 1, 1) := by decide +kernel
theorem dX10_run_37 : decode cX10_run 37 = .ok (.iload_n 1, 1) := by decide +kernel
theorem dX10_run_38 : decode cX10_run 38 = .ok (.aload_n 0, 1) := by decide +kernel
theorem dX10_run_39 : decode cX10_run 39 = .ok (.getfield 201, 3) := by decide +kernel
theorem dX10_run_42 : decode cX10_run 42 = .ok (.if_icmp .ge 19, 3) := by decide +kernel
theorem dX10_run_45 : decode cX10_run 45 = .ok (.aload_n 0, 1) := by decide +kernel
theorem dX10_run_46 : decode cX10_run 46 = .ok (.iconst 4, 1) := by decide +kernel
theorem dX10_run_47 : decode cX10_run 47 = .ok (.iload_n 1, 1) := by decide +kernel
theorem dX10_run_48 : decode cX10_run 48 = .ok (.imul, 1) := by decide +kernel
theorem dX10_run_49 : decode cX10_run 49 = .ok (.invokevirtual 222, 3) := by decide +kernel
theorem dX10_run_52 : decode cX10_run 52 = .ok (.ifCond .eq 9, 3) := by decide +kernel
theorem dX10_run_55 : decode cX10_run 55 = .ok (.iinc 1 1, 3) := by decide +kernel
theorem dX10_run_58 : decode cX10_run 58 = .ok (.goto (-21), 3) := by decide +kernel
theorem dX10_run_61 : decode cX10_run 61 = .ok (.iload_n 1, 1) := by decide +kernel
theorem dX10_run_62 : decode cX10_run 62 = .ok (.aload_n 0, 1) := by decide +kernel
theorem dX10_run_63 : decode cX10_run 63 = .ok (.getfield 201, 3) := by decide +kernel
theorem dX10_run_66 : decode cX10_run 66 = .ok (.if_icmp .ne 7, 3) := by decide +kernel
theorem dX10_run_69 : decode cX10_run 69 = .ok (.iconst 1, 1) := by decide +kernel
theorem dX10_run_70 : decode cX10_run 70 = .ok (.goto 4, 3) := by decide +kernel
theorem dX10_run_73 : decode cX10_run 73 = .ok (.iconst 0, 1) := by decide +kernel
theorem dX10_run_74 : decode cX10_run 74 = .ok (.istore_n 2, 1) := by decide +kernel
theorem dX10_run_75 : decode cX10_run 75 = .ok (.iload_n 2, 1) := by decide +kernel
theorem dX10_run_76 : decode cX10_run 76 = .ok (.ifCond .ne 30, 3) := by decide +kernel
theorem dX10_run_79 : decode cX10_run 79 = .ok (.aload_n 0, 1) := by decide +kernel
theorem dX10_run_80 : decode cX10_run 80 = .ok (.aload_n 0, 1) := by decide +kernel
theorem dX10_run_81 : decode cX10_run 81 = .ok (.getfield 40, 3) := by decide +kernel
theorem dX10_run_84 : decode cX10_run 84 = .ok (.putfield 46, 3) := by decide +kernel
theorem dX10_run_87 : decode cX10_run 87 = .ok (.aload_n 0, 1) := by decide +kernel
theorem dX10_run_88 : decode cX10_run 88 = .ok (.aload_n 0, 1) := by decide +kernel
theorem dX10_run_89 : decode cX10_run 89 = .ok (.getfield 43, 3) := by decide +kernel
theorem dX10_run_92 : decode cX10_run 92 = .ok (.putfield 53, 3) := by decide +kernel
theorem dX10_run_95 : decode cX10_run 95 = .ok (.aload_n 0, 1) := by decide +kernel
theorem dX10_run_96 : decode cX10_run 96 = .ok (.bipush 10, 2) := by decide +kernel
theorem dX10_run_98 : decode cX10_run 98 = .ok (.putfield 40, 3) := by decide +kernel
theorem dX10_run_101 : decode cX10_run 101 = .ok (.aload_n 0, 1) := by decide +kernel
theorem dX10_run_102 : decode cX10_run 102 = .ok (.iload_n 1, 1) := by decide +kernel
theorem dX10_run_103 : decode cX10_run 103 = .ok (.putfield 43, 3) := by decide +kernel
theorem dX10_run_106 : decode cX10_run 106 = .ok (.aload_n 0, 1) := by decide +kernel
theorem dX10_run_107 : decode cX10_run 107 = .ok (.aload_n 0, 1) := by decide +kernel
theorem dX10_run_108 : decode cX10_run 108 = .ok (.getfield 201, 3) := by decide +kernel
theorem dX10_run_111 : decode cX10_run 111 = .ok (.putfield 37, 3) := by decide +kernel
theorem dX10_run_114 : decode cX10_run 114 = .ok (.aload_n 0, 1) := by decide +kernel
theorem dX10_run_115 : decode cX10_run 115 = .ok (.iload_n 2, 1) := by decide +kernel
theorem dX10_run_116 : decode cX10_run 116 = .ok (.invokevirtual 82, 3) := by decide +kernel
theorem dX10_run_119 : decode cX10_run 119 = .ok (.istore_n 3, 1) := by decide +kernel
theorem dX10_run_120 : decode cX10_run 120 = .ok (.aload_n 0, 1) := by decide +kernel
theorem dX10_run_121 : decode cX10_run 121 = .ok (.iload_n 2, 1) := by decide +kernel
theorem dX10_run_122 : decode cX10_run 122 = .ok (.ifCond .eq 7, 3) := by decide +kernel
theorem dX10_run_125 : decode cX10_run 125 = .ok (.iconst 0, 1) := by decide +kernel
theorem dX10_run_126 : decode cX10_run 126 = .ok (.goto 4, 3) := by decide +kernel
theorem dX10_run_129 : decode cX10_run 129 = .ok (.iconst 2, 1) := by decide +kernel
theorem dX10_run_130 : decode cX10_run 130 = .ok (.putfield 27, 3) := by decide +kernel
theorem dX10_run_133 : decode cX10_run 133 = .ok (.iload_n 3, 1) := by decide +kernel
theorem dX10_run_134 : decode cX10_run 134 = .ok (.ireturn, 1) := by decide +kernel
theorem dX10_faultPosition_0 : decode cX10_faultPosition 0 = .ok (.aload_n 0, 1) := by decide +kernel
theorem dX10_faultPosition_1 : decode cX10_faultPosition 1 = .ok (.aload_n 0, 1) := by decide +kernel
theorem dX10_faultPosition_2 : decode cX10_faultPosition 2 = .ok (.getfield 17, 3) := by decide +kernel
theorem dX10_faultPosition_5 : decode cX10_faultPosition 5 = .ok (.iconst (-1), 1) := by decide +kernel
theorem dX10_faultPosition_6 : decode cX10_faultPosition 6 = .ok (.if_icmp .eq 7, 3) := by decide +kernel
theorem dX10_faultPosition_9 : decode cX10_faultPosition 9 = .ok (.iconst 1, 1) := by decide +kernel
theorem dX10_faultPosition_10 : decode cX10_faultPosition 10 = .ok (.goto 4, 3) := by decide +kernel
theorem dX10_faultPosition_13 : decode cX10_faultPosition 13 = .ok (.iconst 0, 1) := by decide +kernel
theorem dX10_faultPosition_14 : decode cX10_faultPosition 14 = .ok (.invokevirtual 49, 3) := by decide +kernel
theorem dX10_faultPosition_17 : decode cX10_faultPosition 17 = .ok (.ifCond .eq 10, 3) := by decide +kernel
theorem dX10_faultPosition_20 : decode cX10_faultPosition 20 = .ok (.aload_n 0, 1) := by decide +kernel
theorem dX10_faultPosition_21 : decode cX10_faultPosition 21 = .ok (.getfield 17, 3) := by decide +kernel
theorem dX10_faultPosition_24 : decode cX10_faultPosition 24 = .ok (.goto 4, 3) := by decide +kernel
theorem dX10_faultPosition_27 : decode cX10_faultPosition 27 = .ok (.iconst 0, 1) := by decide +kernel
theorem dX10_faultPosition_28 : decode cX10_faultPosition 28 = .ok (.ireturn, 1) := by decide +kernel
theorem dX10_writes_0 : decode cX10_writes 0 = .ok (.aload_n 0, 1) := by decide +kernel
theorem dX10_writes_1 : decode cX10_writes 1 = .ok (.getfield 24, 3) := by decide +kernel
theorem dX10_writes_4 : decode cX10_writes 4 = .ok (.aload_n 0, 1) := by decide +kernel
theorem dX10_writes_5 : decode cX10_writes 5 = .ok (.getfield 225, 3) := by decide +kernel
theorem dX10_writes_8 : decode cX10_writes 8 = .ok (.iload_n 1, 1) := by decide +kernel
theorem dX10_writes_9 : decode cX10_writes 9 = .ok (.i2c, 1) := by decide +kernel
theorem dX10_writes_10 : decode cX10_writes 10 = .ok (.castore, 1) := by decide +kernel
theorem dX10_writes_11 : decode cX10_writes 11 = .ok (.aload_n 0, 1) := by decide +kernel
theorem dX10_writes_12 : decode cX10_writes 12 = .ok (.dup, 1) := by decide +kernel
theorem dX10_writes_13 : decode cX10_writes 13 = .ok (.getfield 225, 3) := by decide +kernel
theorem dX10_writes_16 : decode cX10_writes 16 = .ok (.iconst 1, 1) := by decide +kernel
theorem dX10_writes_17 : decode cX10_writes 17 = .ok (.iadd, 1) := by decide +kernel
theorem dX10_writes_18 : decode cX10_writes 18 = .ok (.putfield 225, 3) := by decide +kernel
theorem dX10_writes_21 : decode cX10_writes 21 = .ok (.return_, 1) := by decide +kernel
theorem dX10_both_0 : decode cX10_both 0 = .ok (.aload_n 0, 1) := by decide +kernel
theorem dX10_both_1 : decode cX10_both 1 = .ok (.iload_n 1, 1) := by decide +kernel
theorem dX10_both_2 : decode cX10_both 2 = .ok (.invokevirtual 228, 3) := by decide +kernel
theorem dX10_both_5 : decode cX10_both 5 = .ok (.aload_n 0, 1) := by decide +kernel
theorem dX10_both_6 : decode cX10_both 6 = .ok (.bipush 48, 2) := by decide +kernel
theorem dX10_both_8 : decode cX10_both 8 = .ok (.iload_n 2, 1) := by decide +kernel
theorem dX10_both_9 : decode cX10_both 9 = .ok (.iadd, 1) := by decide +kernel
theorem dX10_both_10 : decode cX10_both 10 = .ok (.invokevirtual 228, 3) := by decide +kernel
theorem dX10_both_13 : decode cX10_both 13 = .ok (.return_, 1) := by decide +kernel
theorem dX10_line_0 : decode cX10_line 0 = .ok (.aload_n 0, 1) := by decide +kernel
theorem dX10_line_1 : decode cX10_line 1 = .ok (.aload_n 0, 1) := by decide +kernel
theorem dX10_line_2 : decode cX10_line 2 = .ok (.iload_n 1, 1) := by decide +kernel
theorem dX10_line_3 : decode cX10_line 3 = .ok (.invokevirtual 94, 3) := by decide +kernel
theorem dX10_line_6 : decode cX10_line 6 = .ok (.invokevirtual 49, 3) := by decide +kernel
theorem dX10_line_9 : decode cX10_line 9 = .ok (.ifCond .ne 5, 3) := by decide +kernel
theorem dX10_line_12 : decode cX10_line 12 = .ok (.iconst 0, 1) := by decide +kernel
theorem dX10_line_13 : decode cX10_line 13 = .ok (.ireturn, 1) := by decide +kernel
theorem dX10_line_14 : decode cX10_line 14 = .ok (.aload_n 0, 1) := by decide +kernel
theorem dX10_line_15 : decode cX10_line 15 = .ok (.iconst 0, 1) := by decide +kernel
theorem dX10_line_16 : decode cX10_line 16 = .ok (.putfield 225, 3) := by decide +kernel
theorem dX10_line_19 : decode cX10_line 19 = .ok (.aload_n 0, 1) := by decide +kernel
theorem dX10_line_20 : decode cX10_line 20 = .ok (.bipush 48, 2) := by decide +kernel
theorem dX10_line_22 : decode cX10_line 22 = .ok (.iload_n 1, 1) := by decide +kernel
theorem dX10_line_23 : decode cX10_line 23 = .ok (.iadd, 1) := by decide +kernel
theorem dX10_line_24 : decode cX10_line 24 = .ok (.invokevirtual 228, 3) := by decide +kernel
theorem dX10_line_27 : decode cX10_line 27 = .ok (.aload_n 0, 1) := by decide +kernel
theorem dX10_line_28 : decode cX10_line 28 = .ok (.bipush 64, 2) := by decide +kernel
theorem dX10_line_30 : decode cX10_line 30 = .ok (.aload_n 0, 1) := by decide +kernel
theorem dX10_line_31 : decode cX10_line 31 = .ok (.iload_n 1, 1) := by decide +kernel
theorem dX10_line_32 : decode cX10_line 32 = .ok (.iconst 0, 1) := by decide +kernel
theorem dX10_line_33 : decode cX10_line 33 = .ok (.invokevirtual 60, 3) := by decide +kernel
theorem dX10_line_36 : decode cX10_line 36 = .ok (.invokevirtual 231, 3) := by decide +kernel
theorem dX10_line_39 : decode cX10_line 39 = .ok (.aload_n 0, 1) := by decide +kernel
theorem dX10_line_40 : decode cX10_line 40 = .ok (.bipush 58, 2) := by decide +kernel
theorem dX10_line_42 : decode cX10_line 42 = .ok (.aload_n 0, 1) := by decide +kernel
theorem dX10_line_43 : decode cX10_line 43 = .ok (.iload_n 1, 1) := by decide +kernel
theorem dX10_line_44 : decode cX10_line 44 = .ok (.iconst 1, 1) := by decide +kernel
theorem dX10_line_45 : decode cX10_line 45 = .ok (.invokevirtual 60, 3) := by decide +kernel
theorem dX10_line_48 : decode cX10_line 48 = .ok (.invokevirtual 231, 3) := by decide +kernel
theorem dX10_line_51 : decode cX10_line 51 = .ok (.aload_n 0, 1) := by decide +kernel
theorem dX10_line_52 : decode cX10_line 52 = .ok (.bipush 47, 2) := by decide +kernel
theorem dX10_line_54 : decode cX10_line 54 = .ok (.aload_n 0, 1) := by decide +kernel
theorem dX10_line_55 : decode cX10_line 55 = .ok (.iload_n 1, 1) := by decide +kernel
theorem dX10_line_56 : decode cX10_line 56 = .ok (.iconst 2, 1) := by decide +kernel
theorem dX10_line_57 : decode cX10_line 57 = .ok (.invokevirtual 60, 3) := by decide +kernel
theorem dX10_line_60 : decode cX10_line 60 = .ok (.invokevirtual 231, 3) := by decide +kernel
theorem dX10_line_63 : decode cX10_line 63 = .ok (.aload_n 0, 1) := by decide +kernel
theorem dX10_line_64 : decode cX10_line 64 = .ok (.iload_n 1, 1) := by decide +kernel
theorem dX10_line_65 : decode cX10_line 65 = .ok (.invokevirtual 100, 3) := by decide +kernel
theorem dX10_line_68 : decode cX10_line 68 = .ok (.ifCond .lt 14, 3) := by decide +kernel
theorem dX10_line_71 : decode cX10_line 71 = .ok (.aload_n 0, 1) := by decide +kernel
theorem dX10_line_72 : decode cX10_line 72 = .ok (.bipush 61, 2) := by decide +kernel
theorem dX10_line_74 : decode cX10_line 74 = .ok (.aload_n 0, 1) := by decide +kernel
theorem dX10_line_75 : decode cX10_line 75 = .ok (.iload_n 1, 1) := by decide +kernel
theorem dX10_line_76 : decode cX10_line 76 = .ok (.invokevirtual 100, 3) := by decide +kernel
theorem dX10_line_79 : decode cX10_line 79 = .ok (.invokevirtual 231, 3) := by decide +kernel
theorem dX10_line_82 : decode cX10_line 82 = .ok (.aload_n 0, 1) := by decide +kernel
theorem dX10_line_83 : decode cX10_line 83 = .ok (.iload_n 1, 1) := by decide +kernel
theorem dX10_line_84 : decode cX10_line 84 = .ok (.invokevirtual 141, 3) := by decide +kernel
theorem dX10_line_87 : decode cX10_line 87 = .ok (.ifCond .eq 9, 3) := by decide +kernel
theorem dX10_line_90 : decode cX10_line 90 = .ok (.aload_n 0, 1) := by decide +kernel
theorem dX10_line_91 : decode cX10_line 91 = .ok (.bipush 63, 2) := by decide +kernel
theorem dX10_line_93 : decode cX10_line 93 = .ok (.invokevirtual 228, 3) := by decide +kernel
theorem dX10_line_96 : decode cX10_line 96 = .ok (.aload_n 0, 1) := by decide +kernel
theorem dX10_line_97 : decode cX10_line 97 = .ok (.iload_n 1, 1) := by decide +kernel
theorem dX10_line_98 : decode cX10_line 98 = .ok (.invokevirtual 116, 3) := by decide +kernel
theorem dX10_line_101 : decode cX10_line 101 = .ok (.ifCond .lt 14, 3) := by decide +kernel
theorem dX10_line_104 : decode cX10_line 104 = .ok (.aload_n 0, 1) := by decide +kernel
theorem dX10_line_105 : decode cX10_line 105 = .ok (.bipush 42, 2) := by decide +kernel
theorem dX10_line_107 : decode cX10_line 107 = .ok (.aload_n 0, 1) := by decide +kernel
theorem dX10_line_108 : decode cX10_line 108 = .ok (.iload_n 1, 1) := by decide +kernel
theorem dX10_line_109 : decode cX10_line 109 = .ok (.invokevirtual 116, 3) := by decide +kernel
theorem dX10_line_112 : decode cX10_line 112 = .ok (.invokevirtual 231, 3) := by decide +kernel
theorem dX10_line_115 : decode cX10_line 115 = .ok (.aload_n 0, 1) := by decide +kernel
theorem dX10_line_116 : decode cX10_line 116 = .ok (.getfield 225, 3) := by decide +kernel
theorem dX10_line_119 : decode cX10_line 119 = .ok (.ireturn, 1) := by decide +kernel
theorem dX10_dawnLine_0 : decode cX10_dawnLine 0 = .ok (.aload_n 0, 1) := by decide +kernel
theorem dX10_dawnLine_1 : decode cX10_dawnLine 1 = .ok (.iload_n 1, 1) := by decide +kernel
theorem dX10_dawnLine_2 : decode cX10_dawnLine 2 = .ok (.iconst 0, 1) := by decide +kernel
theorem dX10_dawnLine_3 : decode cX10_dawnLine 3 = .ok (.aload_n 0, 1) := by decide +kernel
theorem dX10_dawnLine_4 : decode cX10_dawnLine 4 = .ok (.getfield 9, 3) := by decide +kernel
theorem dX10_dawnLine_7 : decode cX10_dawnLine 7 = .ok (.bipush 8, 2) := by decide +kernel
theorem dX10_dawnLine_9 : decode cX10_dawnLine 9 = .ok (.iaload, 1) := by decide +kernel
theorem dX10_dawnLine_10 : decode cX10_dawnLine 10 = .ok (.iconst 1, 1) := by decide +kernel
theorem dX10_dawnLine_11 : decode cX10_dawnLine 11 = .ok (.isub, 1) := by decide +kernel
theorem dX10_dawnLine_12 : decode cX10_dawnLine 12 = .ok (.invokestatic 56, 3) := by decide +kernel
theorem dX10_dawnLine_15 : decode cX10_dawnLine 15 = .ok (.invokevirtual 49, 3) := by decide +kernel
theorem dX10_dawnLine_18 : decode cX10_dawnLine 18 = .ok (.ifCond .ne 5, 3) := by decide +kernel
theorem dX10_dawnLine_21 : decode cX10_dawnLine 21 = .ok (.iconst 0, 1) := by decide +kernel
theorem dX10_dawnLine_22 : decode cX10_dawnLine 22 = .ok (.ireturn, 1) := by decide +kernel
theorem dX10_dawnLine_23 : decode cX10_dawnLine 23 = .ok (.aload_n 0, 1) := by decide +kernel
theorem dX10_dawnLine_24 : decode cX10_dawnLine 24 = .ok (.iconst 0, 1) := by decide +kernel
theorem dX10_dawnLine_25 : decode cX10_dawnLine 25 = .ok (.putfield 225, 3) := by decide +kernel
theorem dX10_dawnLine_28 : decode cX10_dawnLine 28 = .ok (.iconst 0, 1) := by decide +kernel
theorem dX10_dawnLine_29 : decode cX10_dawnLine 29 = .ok (.istore_n 2, 1) := by decide +kernel
theorem dX10_dawnLine_30 : decode cX10_dawnLine 30 = .ok (.iload_n 2, 1) := by decide +kernel
theorem dX10_dawnLine_31 : decode cX10_dawnLine 31 = .ok (.aload_n 0, 1) := by decide +kernel
theorem dX10_dawnLine_32 : decode cX10_dawnLine 32 = .ok (.getfield 9, 3) := by decide +kernel
theorem dX10_dawnLine_35 : decode cX10_dawnLine 35 = .ok (.bipush 61, 2) := by decide +kernel
theorem dX10_dawnLine_37 : decode cX10_dawnLine 37 = .ok (.bipush 7, 2) := by decide +kernel
theorem dX10_dawnLine_39 : decode cX10_dawnLine 39 = .ok (.iload_n 1, 1) := by decide +kernel
theorem dX10_dawnLine_40 : decode cX10_dawnLine 40 = .ok (.imul, 1) := by decide +kernel
theorem dX10_dawnLine_41 : decode cX10_dawnLine 41 = .ok (.iadd, 1) := by decide +kernel
theorem dX10_dawnLine_42 : decode cX10_dawnLine 42 = .ok (.iaload, 1) := by decide +kernel
theorem dX10_dawnLine_43 : decode cX10_dawnLine 43 = .ok (.if_icmp .ge 45, 3) := by decide +kernel
theorem dX10_dawnLine_46 : decode cX10_dawnLine 46 = .ok (.aload_n 0, 1) := by decide +kernel
theorem dX10_dawnLine_47 : decode cX10_dawnLine 47 = .ok (.getfield 9, 3) := by decide +kernel
theorem dX10_dawnLine_50 : decode cX10_dawnLine 50 = .ok (.bipush 61, 2) := by decide +kernel
theorem dX10_dawnLine_52 : decode cX10_dawnLine 52 = .ok (.bipush 7, 2) := by decide +kernel
theorem dX10_dawnLine_54 : decode cX10_dawnLine 54 = .ok (.iload_n 1, 1) := by decide +kernel
theorem dX10_dawnLine_55 : decode cX10_dawnLine 55 = .ok (.imul, 1) := by decide +kernel
theorem dX10_dawnLine_56 : decode cX10_dawnLine 56 = .ok (.iadd, 1) := by decide +kernel
theorem dX10_dawnLine_57 : decode cX10_dawnLine 57 = .ok (.iconst 1, 1) := by decide +kernel
theorem dX10_dawnLine_58 : decode cX10_dawnLine 58 = .ok (.iadd, 1) := by decide +kernel
theorem dX10_dawnLine_59 : decode cX10_dawnLine 59 = .ok (.iload_n 2, 1) := by decide +kernel
theorem dX10_dawnLine_60 : decode cX10_dawnLine 60 = .ok (.iadd, 1) := by decide +kernel
theorem dX10_dawnLine_61 : decode cX10_dawnLine 61 = .ok (.iaload, 1) := by decide +kernel
theorem dX10_dawnLine_62 : decode cX10_dawnLine 62 = .ok (.iconst 1, 1) := by decide +kernel
theorem dX10_dawnLine_63 : decode cX10_dawnLine 63 = .ok (.isub, 1) := by decide +kernel
theorem dX10_dawnLine_64 : decode cX10_dawnLine 64 = .ok (.istore_n 3, 1) := by decide +kernel
theorem dX10_dawnLine_65 : decode cX10_dawnLine 65 = .ok (.aload_n 0, 1) := by decide +kernel
theorem dX10_dawnLine_66 : decode cX10_dawnLine 66 = .ok (.iload_n 3, 1) := by decide +kernel
theorem dX10_dawnLine_67 : decode cX10_dawnLine 67 = .ok (.ifCond .ge 8, 3) := by decide +kernel
theorem dX10_dawnLine_70 : decode cX10_dawnLine 70 = .ok (.bipush 45, 2) := by decide +kernel
theorem dX10_dawnLine_72 : decode cX10_dawnLine 72 = .ok (.goto 7, 3) := by decide +kernel
theorem dX10_dawnLine_75 : decode cX10_dawnLine 75 = .ok (.bipush 48, 2) := by decide +kernel
theorem dX10_dawnLine_77 : decode cX10_dawnLine 77 = .ok (.iload_n 3, 1) := by decide +kernel
theorem dX10_dawnLine_78 : decode cX10_dawnLine 78 = .ok (.iadd, 1) := by decide +kernel
theorem dX10_dawnLine_79 : decode cX10_dawnLine 79 = .ok (.invokevirtual 228, 3) := by decide +kernel
theorem dX10_dawnLine_82 : decode cX10_dawnLine 82 = .ok (.iinc 2 1, 3) := by decide +kernel
theorem dX10_dawnLine_85 : decode cX10_dawnLine 85 = .ok (.goto (-55), 3) := by decide +kernel
theorem dX10_dawnLine_88 : decode cX10_dawnLine 88 = .ok (.aload_n 0, 1) := by decide +kernel
theorem dX10_dawnLine_89 : decode cX10_dawnLine 89 = .ok (.getfield 225, 3) := by decide +kernel
theorem dX10_dawnLine_92 : decode cX10_dawnLine 92 = .ok (.ireturn, 1) := by decide +kernel
theorem dX10_character_0 : decode cX10_character 0 = .ok (.aload_n 0, 1) := by decide +kernel
theorem dX10_character_1 : decode cX10_character 1 = .ok (.iload_n 1, 1) := by decide +kernel
theorem dX10_character_2 : decode cX10_character 2 = .ok (.iconst 0, 1) := by decide +kernel
theorem dX10_character_3 : decode cX10_character 3 = .ok (.aload_n 0, 1) := by decide +kernel
theorem dX10_character_4 : decode cX10_character 4 = .ok (.getfield 225, 3) := by decide +kernel
theorem dX10_character_7 : decode cX10_character 7 = .ok (.iconst 1, 1) := by decide +kernel
theorem dX10_character_8 : decode cX10_character 8 = .ok (.isub, 1) := by decide +kernel
theorem dX10_character_9 : decode cX10_character 9 = .ok (.invokestatic 56, 3) := by decide +kernel
theorem dX10_character_12 : decode cX10_character 12 = .ok (.invokevirtual 49, 3) := by decide +kernel
theorem dX10_character_15 : decode cX10_character 15 = .ok (.ifCond .eq 12, 3) := by decide +kernel
theorem dX10_character_18 : decode cX10_character 18 = .ok (.aload_n 0, 1) := by decide +kernel
theorem dX10_character_19 : decode cX10_character 19 = .ok (.getfield 24, 3) := by decide +kernel
theorem dX10_character_22 : decode cX10_character 22 = .ok (.iload_n 1, 1) := by decide +kernel
theorem dX10_character_23 : decode cX10_character 23 = .ok (.caload, 1) := by decide +kernel
theorem dX10_character_24 : decode cX10_character 24 = .ok (.goto 4, 3) := by decide +kernel
theorem dX10_character_27 : decode cX10_character 27 = .ok (.iconst 0, 1) := by decide +kernel
theorem dX10_character_28 : decode cX10_character 28 = .ok (.ireturn, 1) := by decide +kernel
theorem dX10_ofClouds_0 : decode cX10_ofClouds 0 = .ok (.iconst 0, 1) := by decide +kernel
theorem dX10_ofClouds_1 : decode cX10_ofClouds 1 = .ok (.istore_n 2, 1) := by decide +kernel
theorem dX10_ofClouds_2 : decode cX10_ofClouds 2 = .ok (.iconst 0, 1) := by decide +kernel
theorem dX10_ofClouds_3 : decode cX10_ofClouds 3 = .ok (.istore_n 3, 1) := by decide +kernel
theorem dX10_ofClouds_4 : decode cX10_ofClouds 4 = .ok (.iload_n 3, 1) := by decide +kernel
theorem dX10_ofClouds_5 : decode cX10_ofClouds 5 = .ok (.aload_n 0, 1) := by decide +kernel
theorem dX10_ofClouds_6 : decode cX10_ofClouds 6 = .ok (.getfield 9, 3) := by decide +kernel
theorem dX10_ofClouds_9 : decode cX10_ofClouds 9 = .ok (.iconst 0, 1) := by decide +kernel
theorem dX10_ofClouds_10 : decode cX10_ofClouds 10 = .ok (.iaload, 1) := by decide +kernel
theorem dX10_ofClouds_11 : decode cX10_ofClouds 11 = .ok (.if_icmp .ge 51, 3) := by decide +kernel
theorem dX10_ofClouds_14 : decode cX10_ofClouds 14 = .ok (.iload_n 2, 1) := by decide +kernel
theorem dX10_ofClouds_15 : decode cX10_ofClouds 15 = .ok (.iload_n 1, 1) := by decide +kernel
theorem dX10_ofClouds_16 : decode cX10_ofClouds 16 = .ok (.ifCond .ne 12, 3) := by decide +kernel
theorem dX10_ofClouds_19 : decode cX10_ofClouds 19 = .ok (.aload_n 0, 1) := by decide +kernel
theorem dX10_ofClouds_20 : decode cX10_ofClouds 20 = .ok (.iload_n 3, 1) := by decide +kernel
theorem dX10_ofClouds_21 : decode cX10_ofClouds 21 = .ok (.iconst 2, 1) := by decide +kernel
theorem dX10_ofClouds_22 : decode cX10_ofClouds 22 = .ok (.invokevirtual 60, 3) := by decide +kernel
theorem dX10_ofClouds_25 : decode cX10_ofClouds 25 = .ok (.goto 29, 3) := by decide +kernel
theorem dX10_ofClouds_28 : decode cX10_ofClouds 28 = .ok (.iload_n 1, 1) := by decide +kernel
theorem dX10_ofClouds_29 : decode cX10_ofClouds 29 = .ok (.iconst 1, 1) := by decide +kernel
theorem dX10_ofClouds_30 : decode cX10_ofClouds 30 = .ok (.if_icmp .ne 11, 3) := by decide +kernel
theorem dX10_ofClouds_33 : decode cX10_ofClouds 33 = .ok (.aload_n 0, 1) := by decide +kernel
theorem dX10_ofClouds_34 : decode cX10_ofClouds 34 = .ok (.iload_n 3, 1) := by decide +kernel
theorem dX10_ofClouds_35 : decode cX10_ofClouds 35 = .ok (.invokevirtual 100, 3) := by decide +kernel
theorem dX10_ofClouds_38 : decode cX10_ofClouds 38 = .ok (.goto 8, 3) := by decide +kernel
theorem dX10_ofClouds_41 : decode cX10_ofClouds 41 = .ok (.aload_n 0, 1) := by decide +kernel
theorem dX10_ofClouds_42 : decode cX10_ofClouds 42 = .ok (.iload_n 3, 1) := by decide +kernel
theorem dX10_ofClouds_43 : decode cX10_ofClouds 43 = .ok (.invokevirtual 116, 3) := by decide +kernel
theorem dX10_ofClouds_46 : decode cX10_ofClouds 46 = .ok (.ifCond .lt 7, 3) := by decide +kernel
theorem dX10_ofClouds_49 : decode cX10_ofClouds 49 = .ok (.iconst 1, 1) := by decide +kernel
theorem dX10_ofClouds_50 : decode cX10_ofClouds 50 = .ok (.goto 4, 3) := by decide +kernel
theorem dX10_ofClouds_53 : decode cX10_ofClouds 53 = .ok (.iconst 0, 1) := by decide +kernel
theorem dX10_ofClouds_54 : decode cX10_ofClouds 54 = .ok (.iadd, 1) := by decide +kernel
theorem dX10_ofClouds_55 : decode cX10_ofClouds 55 = .ok (.istore_n 2, 1) := by decide +kernel
theorem dX10_ofClouds_56 : decode cX10_ofClouds 56 = .ok (.iinc 3 1, 3) := by decide +kernel
theorem dX10_ofClouds_59 : decode cX10_ofClouds 59 = .ok (.goto (-55), 3) := by decide +kernel
theorem dX10_ofClouds_62 : decode cX10_ofClouds 62 = .ok (.iload_n 2, 1) := by decide +kernel
theorem dX10_ofClouds_63 : decode cX10_ofClouds 63 = .ok (.ireturn, 1) := by decide +kernel
theorem dX10_meanSize_0 : decode cX10_meanSize 0 = .ok (.aload_n 0, 1) := by decide +kernel
theorem dX10_meanSize_1 : decode cX10_meanSize 1 = .ok (.getfield 9, 3) := by decide +kernel
theorem dX10_meanSize_4 : decode cX10_meanSize 4 = .ok (.iconst 0, 1) := by decide +kernel
theorem dX10_meanSize_5 : decode cX10_meanSize 5 = .ok (.iaload, 1) := by decide +kernel
theorem dX10_meanSize_6 : decode cX10_meanSize 6 = .ok (.istore_n 1, 1) := by decide +kernel
theorem dX10_meanSize_7 : decode cX10_meanSize 7 = .ok (.aload_n 0, 1) := by decide +kernel
theorem dX10_meanSize_8 : decode cX10_meanSize 8 = .ok (.iload_n 1, 1) := by decide +kernel
theorem dX10_meanSize_9 : decode cX10_meanSize 9 = .ok (.ifCond .le 7, 3) := by decide +kernel
theorem dX10_meanSize_12 : decode cX10_meanSize 12 = .ok (.iconst 1, 1) := by decide +kernel
theorem dX10_meanSize_13 : decode cX10_meanSize 13 = .ok (.goto 4, 3) := by decide +kernel
theorem dX10_meanSize_16 : decode cX10_meanSize 16 = .ok (.iconst 0, 1) := by decide +kernel
theorem dX10_meanSize_17 : decode cX10_meanSize 17 = .ok (.invokevirtual 49, 3) := by decide +kernel
theorem dX10_meanSize_20 : decode cX10_meanSize 20 = .ok (.ifCond .eq 15, 3) := by decide +kernel
theorem dX10_meanSize_23 : decode cX10_meanSize 23 = .ok (.aload_n 0, 1) := by decide +kernel
theorem dX10_meanSize_24 : decode cX10_meanSize 24 = .ok (.iconst 0, 1) := by decide +kernel
theorem dX10_meanSize_25 : decode cX10_meanSize 25 = .ok (.invokevirtual 234, 3) := by decide +kernel
theorem dX10_meanSize_28 : decode cX10_meanSize 28 = .ok (.i2d, 1) := by decide +kernel
theorem dX10_meanSize_29 : decode cX10_meanSize 29 = .ok (.iload_n 1, 1) := by decide +kernel
theorem dX10_meanSize_30 : decode cX10_meanSize 30 = .ok (.i2d, 1) := by decide +kernel
theorem dX10_meanSize_31 : decode cX10_meanSize 31 = .ok (.ddiv, 1) := by decide +kernel
theorem dX10_meanSize_32 : decode cX10_meanSize 32 = .ok (.goto 4, 3) := by decide +kernel
theorem dX10_meanSize_35 : decode cX10_meanSize 35 = .ok (.dconst 0, 1) := by decide +kernel
theorem dX10_meanSize_36 : decode cX10_meanSize 36 = .ok (.dreturn, 1) := by decide +kernel
theorem dX10_titledShare_0 : decode cX10_titledShare 0 = .ok (.aload_n 0, 1) := by decide +kernel
theorem dX10_titledShare_1 : decode cX10_titledShare 1 = .ok (.getfield 9, 3) := by decide +kernel
theorem dX10_titledShare_4 : decode cX10_titledShare 4 = .ok (.iconst 0, 1) := by decide +kernel
theorem dX10_titledShare_5 : decode cX10_titledShare 5 = .ok (.iaload, 1) := by decide +kernel
theorem dX10_titledShare_6 : decode cX10_titledShare 6 = .ok (.istore_n 1, 1) := by decide +kernel
theorem dX10_titledShare_7 : decode cX10_titledShare 7 = .ok (.aload_n 0, 1) := by decide +kernel
theorem dX10_titledShare_8 : decode cX10_titledShare 8 = .ok (.iload_n 1, 1) := by decide +kernel
theorem dX10_titledShare_9 : decode cX10_titledShare 9 = .ok (.ifCond .le 7, 3) := by decide +kernel
theorem dX10_titledShare_12 : decode cX10_titledShare 12 = .ok (.iconst 1, 1) := by decide +kernel
theorem dX10_titledShare_13 : decode cX10_titledShare 13 = .ok (.goto 4, 3) := by decide +kernel
theorem dX10_titledShare_16 : decode cX10_titledShare 16 = .ok (.iconst 0, 1) := by decide +kernel
theorem dX10_titledShare_17 : decode cX10_titledShare 17 = .ok (.invokevirtual 49, 3) := by decide +kernel
theorem dX10_titledShare_20 : decode cX10_titledShare 20 = .ok (.ifCond .eq 15, 3) := by decide +kernel
theorem dX10_titledShare_23 : decode cX10_titledShare 23 = .ok (.aload_n 0, 1) := by decide +kernel
theorem dX10_titledShare_24 : decode cX10_titledShare 24 = .ok (.iconst 1, 1) := by decide +kernel
theorem dX10_titledShare_25 : decode cX10_titledShare 25 = .ok (.invokevirtual 234, 3) := by decide +kernel
theorem dX10_titledShare_28 : decode cX10_titledShare 28 = .ok (.i2f, 1) := by decide +kernel
theorem dX10_titledShare_29 : decode cX10_titledShare 29 = .ok (.iload_n 1, 1) := by decide +kernel
theorem dX10_titledShare_30 : decode cX10_titledShare 30 = .ok (.i2f, 1) := by decide +kernel
theorem dX10_titledShare_31 : decode cX10_titledShare 31 = .ok (.fdiv, 1) := by decide +kernel
theorem dX10_titledShare_32 : decode cX10_titledShare 32 = .ok (.goto 4, 3) := by decide +kernel
theorem dX10_titledShare_35 : decode cX10_titledShare 35 = .ok (.fconst 0, 1) := by decide +kernel
theorem dX10_titledShare_36 : decode cX10_titledShare 36 = .ok (.freturn, 1) := by decide +kernel
theorem dX10_account_0 : decode cX10_account 0 = .ok (.aload_n 0, 1) := by decide +kernel
theorem dX10_account_1 : decode cX10_account 1 = .ok (.iload_n 1, 1) := by decide +kernel
theorem dX10_account_2 : decode cX10_account 2 = .ok (.iconst 0, 1) := by decide +kernel
theorem dX10_account_3 : decode cX10_account 3 = .ok (.bipush 12, 2) := by decide +kernel
theorem dX10_account_5 : decode cX10_account 5 = .ok (.invokestatic 56, 3) := by decide +kernel
theorem dX10_account_8 : decode cX10_account 8 = .ok (.invokevirtual 49, 3) := by decide +kernel
theorem dX10_account_11 : decode cX10_account 11 = .ok (.ifCond .ne 5, 3) := by decide +kernel
theorem dX10_account_14 : decode cX10_account 14 = .ok (.iconst 0, 1) := by decide +kernel
theorem dX10_account_15 : decode cX10_account 15 = .ok (.ireturn, 1) := by decide +kernel
theorem dX10_account_16 : decode cX10_account 16 = .ok (.iload_n 1, 1) := by decide +kernel
theorem dX10_account_17 : decode cX10_account 17 = .ok (.tableswitch 95 0 11 #[63, 70, 70, 76, 81, 81, 81, 81, 81, 81, 81, 90], 63) := by decide +kernel
theorem dX10_account_80 : decode cX10_account 80 = .ok (.aload_n 0, 1) := by decide +kernel
theorem dX10_account_81 : decode cX10_account 81 = .ok (.getfield 9, 3) := by decide +kernel
theorem dX10_account_84 : decode cX10_account 84 = .ok (.iconst 0, 1) := by decide +kernel
theorem dX10_account_85 : decode cX10_account 85 = .ok (.iaload, 1) := by decide +kernel
theorem dX10_account_86 : decode cX10_account 86 = .ok (.ireturn, 1) := by decide +kernel
theorem dX10_account_87 : decode cX10_account 87 = .ok (.aload_n 0, 1) := by decide +kernel
theorem dX10_account_88 : decode cX10_account 88 = .ok (.iload_n 1, 1) := by decide +kernel
theorem dX10_account_89 : decode cX10_account 89 = .ok (.invokevirtual 234, 3) := by decide +kernel
theorem dX10_account_92 : decode cX10_account 92 = .ok (.ireturn, 1) := by decide +kernel
theorem dX10_account_93 : decode cX10_account 93 = .ok (.aload_n 0, 1) := by decide +kernel
theorem dX10_account_94 : decode cX10_account 94 = .ok (.invokevirtual 86, 3) := by decide +kernel
theorem dX10_account_97 : decode cX10_account 97 = .ok (.ireturn, 1) := by decide +kernel
theorem dX10_account_98 : decode cX10_account 98 = .ok (.aload_n 0, 1) := by decide +kernel
theorem dX10_account_99 : decode cX10_account 99 = .ok (.getfield 9, 3) := by decide +kernel
theorem dX10_account_102 : decode cX10_account 102 = .ok (.iload_n 1, 1) := by decide +kernel
theorem dX10_account_103 : decode cX10_account 103 = .ok (.iconst 3, 1) := by decide +kernel
theorem dX10_account_104 : decode cX10_account 104 = .ok (.isub, 1) := by decide +kernel
theorem dX10_account_105 : decode cX10_account 105 = .ok (.iaload, 1) := by decide +kernel
theorem dX10_account_106 : decode cX10_account 106 = .ok (.ireturn, 1) := by decide +kernel
theorem dX10_account_107 : decode cX10_account 107 = .ok (.aload_n 0, 1) := by decide +kernel
theorem dX10_account_108 : decode cX10_account 108 = .ok (.getfield 177, 3) := by decide +kernel
theorem dX10_account_111 : decode cX10_account 111 = .ok (.ireturn, 1) := by decide +kernel
theorem dX10_account_112 : decode cX10_account 112 = .ok (.aload_n 0, 1) := by decide +kernel
theorem dX10_account_113 : decode cX10_account 113 = .ok (.getfield 34, 3) := by decide +kernel
theorem dX10_account_116 : decode cX10_account 116 = .ok (.ireturn, 1) := by decide +kernel
theorem dX10_isBalanced_0 : decode cX10_isBalanced 0 = .ok (.aload_n 0, 1) := by decide +kernel
theorem dX10_isBalanced_1 : decode cX10_isBalanced 1 = .ok (.iconst 0, 1) := by decide +kernel
theorem dX10_isBalanced_2 : decode cX10_isBalanced 2 = .ok (.putfield 27, 3) := by decide +kernel
theorem dX10_isBalanced_5 : decode cX10_isBalanced 5 = .ok (.iconst 1, 1) := by decide +kernel
theorem dX10_isBalanced_6 : decode cX10_isBalanced 6 = .ok (.ireturn, 1) := by decide +kernel
theorem dX10_undo_0 : decode cX10_undo 0 = .ok (.aload_n 0, 1) := by decide +kernel
theorem dX10_undo_1 : decode cX10_undo 1 = .ok (.aload_n 0, 1) := by decide +kernel
theorem dX10_undo_2 : decode cX10_undo 2 = .ok (.getfield 34, 3) := by decide +kernel
theorem dX10_undo_5 : decode cX10_undo 5 = .ok (.ifCond .le 7, 3) := by decide +kernel
theorem dX10_undo_8 : decode cX10_undo 8 = .ok (.iconst 1, 1) := by decide +kernel
theorem dX10_undo_9 : decode cX10_undo 9 = .ok (.goto 4, 3) := by decide +kernel
theorem dX10_undo_12 : decode cX10_undo 12 = .ok (.iconst 0, 1) := by decide +kernel
theorem dX10_undo_13 : decode cX10_undo 13 = .ok (.invokevirtual 49, 3) := by decide +kernel
theorem dX10_undo_16 : decode cX10_undo 16 = .ok (.ifCond .ne 5, 3) := by decide +kernel
theorem dX10_undo_19 : decode cX10_undo 19 = .ok (.iconst 0, 1) := by decide +kernel
theorem dX10_undo_20 : decode cX10_undo 20 = .ok (.ireturn, 1) := by decide +kernel
theorem dX10_undo_21 : decode cX10_undo 21 = .ok (.aload_n 0, 1) := by decide +kernel
theorem dX10_undo_22 : decode cX10_undo 22 = .ok (.aload_n 0, 1) := by decide +kernel
theorem dX10_undo_23 : decode cX10_undo 23 = .ok (.getfield 34, 3) := by decide +kernel
theorem dX10_undo_26 : decode cX10_undo 26 = .ok (.iconst 0, 1) := by decide +kernel
theorem dX10_undo_27 : decode cX10_undo 27 = .ok (.invokevirtual 30, 3) := by decide +kernel
theorem dX10_undo_30 : decode cX10_undo 30 = .ok (.aload_n 0, 1) := by decide +kernel
theorem dX10_undo_31 : decode cX10_undo 31 = .ok (.dup, 1) := by decide +kernel
theorem dX10_undo_32 : decode cX10_undo 32 = .ok (.getfield 34, 3) := by decide +kernel
theorem dX10_undo_35 : decode cX10_undo 35 = .ok (.iconst 1, 1) := by decide +kernel
theorem dX10_undo_36 : decode cX10_undo 36 = .ok (.isub, 1) := by decide +kernel
theorem dX10_undo_37 : decode cX10_undo 37 = .ok (.putfield 34, 3) := by decide +kernel
theorem dX10_undo_40 : decode cX10_undo 40 = .ok (.aload_n 0, 1) := by decide +kernel
theorem dX10_undo_41 : decode cX10_undo 41 = .ok (.getfield 34, 3) := by decide +kernel
theorem dX10_undo_44 : decode cX10_undo 44 = .ok (.ireturn, 1) := by decide +kernel
theorem dX10_save_0 : decode cX10_save 0 = .ok (.aload_n 0, 1) := by decide +kernel
theorem dX10_save_1 : decode cX10_save 1 = .ok (.iconst 0, 1) := by decide +kernel
theorem dX10_save_2 : decode cX10_save 2 = .ok (.putfield 27, 3) := by decide +kernel
theorem dX10_save_5 : decode cX10_save 5 = .ok (.aload_n 0, 1) := by decide +kernel
theorem dX10_save_6 : decode cX10_save 6 = .ok (.iconst 1, 1) := by decide +kernel
theorem dX10_save_7 : decode cX10_save 7 = .ok (.putfield 237, 3) := by decide +kernel
theorem dX10_save_10 : decode cX10_save 10 = .ok (.aload_n 0, 1) := by decide +kernel
theorem dX10_save_11 : decode cX10_save 11 = .ok (.iconst 0, 1) := by decide +kernel
theorem dX10_save_12 : decode cX10_save 12 = .ok (.bipush 9, 2) := by decide +kernel
theorem dX10_save_14 : decode cX10_save 14 = .ok (.invokevirtual 30, 3) := by decide +kernel
theorem dX10_save_17 : decode cX10_save 17 = .ok (.aload_n 0, 1) := by decide +kernel
theorem dX10_save_18 : decode cX10_save 18 = .ok (.getfield 9, 3) := by decide +kernel
theorem dX10_save_21 : decode cX10_save 21 = .ok (.iconst 0, 1) := by decide +kernel
theorem dX10_save_22 : decode cX10_save 22 = .ok (.iaload, 1) := by decide +kernel
theorem dX10_save_23 : decode cX10_save 23 = .ok (.ireturn, 1) := by decide +kernel
theorem dX10_restore_0 : decode cX10_restore 0 = .ok (.aload_n 0, 1) := by decide +kernel
theorem dX10_restore_1 : decode cX10_restore 1 = .ok (.aload_n 0, 1) := by decide +kernel
theorem dX10_restore_2 : decode cX10_restore 2 = .ok (.getfield 237, 3) := by decide +kernel
theorem dX10_restore_5 : decode cX10_restore 5 = .ok (.invokevirtual 49, 3) := by decide +kernel
theorem dX10_restore_8 : decode cX10_restore 8 = .ok (.ifCond .ne 5, 3) := by decide +kernel
theorem dX10_restore_11 : decode cX10_restore 11 = .ok (.iconst 0, 1) := by decide +kernel
theorem dX10_restore_12 : decode cX10_restore 12 = .ok (.ireturn, 1) := by decide +kernel
theorem dX10_restore_13 : decode cX10_restore 13 = .ok (.aload_n 0, 1) := by decide +kernel
theorem dX10_restore_14 : decode cX10_restore 14 = .ok (.bipush 9, 2) := by decide +kernel
theorem dX10_restore_16 : decode cX10_restore 16 = .ok (.iconst 0, 1) := by decide +kernel
theorem dX10_restore_17 : decode cX10_restore 17 = .ok (.invokevirtual 30, 3) := by decide +kernel
theorem dX10_restore_20 : decode cX10_restore 20 = .ok (.aload_n 0, 1) := by decide +kernel
theorem dX10_restore_21 : decode cX10_restore 21 = .ok (.iconst 0, 1) := by decide +kernel
theorem dX10_restore_22 : decode cX10_restore 22 = .ok (.putfield 34, 3) := by decide +kernel
theorem dX10_restore_25 : decode cX10_restore 25 = .ok (.aload_n 0, 1) := by decide +kernel
theorem dX10_restore_26 : decode cX10_restore 26 = .ok (.getfield 9, 3) := by decide +kernel
theorem dX10_restore_29 : decode cX10_restore 29 = .ok (.iconst 0, 1) := by decide +kernel
theorem dX10_restore_30 : decode cX10_restore 30 = .ok (.iaload, 1) := by decide +kernel
theorem dX10_restore_31 : decode cX10_restore 31 = .ok (.ireturn, 1) := by decide +kernel
