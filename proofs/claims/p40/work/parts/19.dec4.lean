theorem at_of {L : List Cond} (h1 : L.all (fun w => decide (w ∈ lw_tbl)) = true) (h2 : L.all (fun w => goodWord w || decide (w ∈ nwL)) = true) (h3 : L.all vx_ot = true) : ∀ w ∈ L, (w ∈ WA ∨ w ∈ nwL) ∧ vx_ot w = true := by
  intro w hw
  refine ⟨?_, List.all_eq_true.mp h3 w hw⟩
  have a := of_decide_eq_true (List.all_eq_true.mp h1 w hw)
  rcases (Bool.or_eq_true _ _).mp (List.all_eq_true.mp h2 w hw) with b | b
  · exact Or.inl (wa_in a b)
  · exact Or.inr (of_decide_eq_true b)
theorem at_108 : ∀ w ∈ vx_atS "CloudDeeds" 108 "java/lang/IndexOutOfBoundsException" exN, (w ∈ WA ∨ w ∈ nwL) ∧ vx_ot w = true := at_of (by decide +kernel) (by decide +kernel) (by decide +kernel)
theorem at_119 : ∀ w ∈ vx_atS "CloudDeeds" 119 "java/lang/IllegalArgumentException" exN, (w ∈ WA ∨ w ∈ nwL) ∧ vx_ot w = true := at_of (by decide +kernel) (by decide +kernel) (by decide +kernel)
theorem at_185 : ∀ w ∈ (at13 "CloudDeeds" 185).filter vx_no, (w ∈ WA ∨ w ∈ nwL) ∧ vx_ot w = true := at_of (by decide +kernel) (by decide +kernel) (by decide +kernel)
theorem at_251 : ∀ w ∈ vx_atS "CloudDeeds" 251 "java/lang/UnsupportedOperationException" exN, (w ∈ WA ∨ w ∈ nwL) ∧ vx_ot w = true := at_of (by decide +kernel) (by decide +kernel) (by decide +kernel)
theorem dX2_init_0 : decode cX2_init 0 = .ok (.aload_n 0, 1) := by decide +kernel
theorem dX2_init_1 : decode cX2_init 1 = .ok (.invokespecial 3, 3) := by decide +kernel
theorem dX2_init_4 : decode cX2_init 4 = .ok (.aload_n 0, 1) := by decide +kernel
theorem dX2_init_5 : decode cX2_init 5 = .ok (.bipush 8, 2) := by decide +kernel
theorem dX2_init_7 : decode cX2_init 7 = .ok (.anewarray 9, 3) := by decide +kernel
theorem dX2_init_10 : decode cX2_init 10 = .ok (.putfield 11, 3) := by decide +kernel
theorem dX2_init_13 : decode cX2_init 13 = .ok (.aload_n 0, 1) := by decide +kernel
theorem dX2_init_14 : decode cX2_init 14 = .ok (.iconst 0, 1) := by decide +kernel
theorem dX2_init_15 : decode cX2_init 15 = .ok (.putfield 17, 3) := by decide +kernel
theorem dX2_init_18 : decode cX2_init 18 = .ok (.aload_n 0, 1) := by decide +kernel
theorem dX2_init_19 : decode cX2_init 19 = .ok (.iconst 0, 1) := by decide +kernel
theorem dX2_init_20 : decode cX2_init 20 = .ok (.putfield 21, 3) := by decide +kernel
theorem dX2_init_23 : decode cX2_init 23 = .ok (.iconst 0, 1) := by decide +kernel
theorem dX2_init_24 : decode cX2_init 24 = .ok (.istore_n 1, 1) := by decide +kernel
theorem dX2_init_25 : decode cX2_init 25 = .ok (.iload_n 1, 1) := by decide +kernel
theorem dX2_init_26 : decode cX2_init 26 = .ok (.aload_n 0, 1) := by decide +kernel
theorem dX2_init_27 : decode cX2_init 27 = .ok (.getfield 11, 3) := by decide +kernel
theorem dX2_init_30 : decode cX2_init 30 = .ok (.arraylength, 1) := by decide +kernel
theorem dX2_init_31 : decode cX2_init 31 = .ok (.if_icmp .ge 22, 3) := by decide +kernel
theorem dX2_init_34 : decode cX2_init 34 = .ok (.aload_n 0, 1) := by decide +kernel
theorem dX2_init_35 : decode cX2_init 35 = .ok (.getfield 11, 3) := by decide +kernel
theorem dX2_init_38 : decode cX2_init 38 = .ok (.iload_n 1, 1) := by decide +kernel
theorem dX2_init_39 : decode cX2_init 39 = .ok (.new 9, 3) := by decide +kernel
theorem dX2_init_42 : decode cX2_init 42 = .ok (.dup, 1) := by decide +kernel
theorem dX2_init_43 : decode cX2_init 43 = .ok (.invokespecial 24, 3) := by decide +kernel
theorem dX2_init_46 : decode cX2_init 46 = .ok (.aastore, 1) := by decide +kernel
theorem dX2_init_47 : decode cX2_init 47 = .ok (.iinc 1 1, 3) := by decide +kernel
theorem dX2_init_50 : decode cX2_init 50 = .ok (.goto (-25), 3) := by decide +kernel
theorem dX2_init_53 : decode cX2_init 53 = .ok (.return_, 1) := by decide +kernel
theorem dX2_push_0 : decode cX2_push 0 = .ok (.aload_n 0, 1) := by decide +kernel
theorem dX2_push_1 : decode cX2_push 1 = .ok (.getfield 17, 3) := by decide +kernel
theorem dX2_push_4 : decode cX2_push 4 = .ok (.aload_n 0, 1) := by decide +kernel
theorem dX2_push_5 : decode cX2_push 5 = .ok (.getfield 11, 3) := by decide +kernel
theorem dX2_push_8 : decode cX2_push 8 = .ok (.arraylength, 1) := by decide +kernel
theorem dX2_push_9 : decode cX2_push 9 = .ok (.invokestatic 25, 3) := by decide +kernel
theorem dX2_push_12 : decode cX2_push 12 = .ok (.ifCond .eq 16, 3) := by decide +kernel
theorem dX2_push_15 : decode cX2_push 15 = .ok (.aload_n 0, 1) := by decide +kernel
theorem dX2_push_16 : decode cX2_push 16 = .ok (.getfield 11, 3) := by decide +kernel
theorem dX2_push_19 : decode cX2_push 19 = .ok (.aload_n 0, 1) := by decide +kernel
theorem dX2_push_20 : decode cX2_push 20 = .ok (.getfield 17, 3) := by decide +kernel
theorem dX2_push_23 : decode cX2_push 23 = .ok (.aaload, 1) := by decide +kernel
theorem dX2_push_24 : decode cX2_push 24 = .ok (.aload_n 1, 1) := by decide +kernel
theorem dX2_push_25 : decode cX2_push 25 = .ok (.invokevirtual 29, 3) := by decide +kernel
theorem dX2_push_28 : decode cX2_push 28 = .ok (.aload_n 0, 1) := by decide +kernel
theorem dX2_push_29 : decode cX2_push 29 = .ok (.aload_n 0, 1) := by decide +kernel
theorem dX2_push_30 : decode cX2_push 30 = .ok (.getfield 17, 3) := by decide +kernel
theorem dX2_push_33 : decode cX2_push 33 = .ok (.iconst 1, 1) := by decide +kernel
theorem dX2_push_34 : decode cX2_push 34 = .ok (.iadd, 1) := by decide +kernel
theorem dX2_push_35 : decode cX2_push 35 = .ok (.bipush 8, 2) := by decide +kernel
theorem dX2_push_37 : decode cX2_push 37 = .ok (.invokestatic 33, 3) := by decide +kernel
theorem dX2_push_40 : decode cX2_push 40 = .ok (.putfield 17, 3) := by decide +kernel
theorem dX2_push_43 : decode cX2_push 43 = .ok (.aload_n 0, 1) := by decide +kernel
theorem dX2_push_44 : decode cX2_push 44 = .ok (.aload_n 0, 1) := by decide +kernel
theorem dX2_push_45 : decode cX2_push 45 = .ok (.getfield 21, 3) := by decide +kernel
theorem dX2_push_48 : decode cX2_push 48 = .ok (.iconst 1, 1) := by decide +kernel
theorem dX2_push_49 : decode cX2_push 49 = .ok (.iadd, 1) := by decide +kernel
theorem dX2_push_50 : decode cX2_push 50 = .ok (.bipush 8, 2) := by decide +kernel
theorem dX2_push_52 : decode cX2_push 52 = .ok (.invokestatic 39, 3) := by decide +kernel
theorem dX2_push_55 : decode cX2_push 55 = .ok (.putfield 21, 3) := by decide +kernel
theorem dX2_push_58 : decode cX2_push 58 = .ok (.return_, 1) := by decide +kernel
theorem dX5_init_0 : decode cX5_init 0 = .ok (.aload_n 0, 1) := by decide +kernel
theorem dX5_init_1 : decode cX5_init 1 = .ok (.invokespecial 3, 3) := by decide +kernel
theorem dX5_init_4 : decode cX5_init 4 = .ok (.aload_n 0, 1) := by decide +kernel
theorem dX5_init_5 : decode cX5_init 5 = .ok (.getstatic 9, 3) := by decide +kernel
theorem dX5_init_8 : decode cX5_init 8 = .ok (.putfield 15, 3) := by decide +kernel
theorem dX5_init_11 : decode cX5_init 11 = .ok (.aload_n 0, 1) := by decide +kernel
theorem dX5_init_12 : decode cX5_init 12 = .ok (.iconst 3, 1) := by decide +kernel
theorem dX5_init_13 : decode cX5_init 13 = .ok (.newarray .int, 2) := by decide +kernel
theorem dX5_init_15 : decode cX5_init 15 = .ok (.putfield 20, 3) := by decide +kernel
theorem dX5_init_18 : decode cX5_init 18 = .ok (.aload_n 0, 1) := by decide +kernel
theorem dX5_init_19 : decode cX5_init 19 = .ok (.iconst 0, 1) := by decide +kernel
theorem dX5_init_20 : decode cX5_init 20 = .ok (.putfield 24, 3) := by decide +kernel
theorem dX5_init_23 : decode cX5_init 23 = .ok (.return_, 1) := by decide +kernel
theorem dX6_init_0 : decode cX6_init 0 = .ok (.aload_n 0, 1) := by decide +kernel
theorem dX6_init_1 : decode cX6_init 1 = .ok (.invokespecial 3, 3) := by decide +kernel
theorem dX6_init_4 : decode cX6_init 4 = .ok (.aload_n 0, 1) := by decide +kernel
theorem dX6_init_5 : decode cX6_init 5 = .ok (.iconst 0, 1) := by decide +kernel
theorem dX6_init_6 : decode cX6_init 6 = .ok (.putfield 9, 3) := by decide +kernel
theorem dX6_init_9 : decode cX6_init 9 = .ok (.aload_n 0, 1) := by decide +kernel
theorem dX6_init_10 : decode cX6_init 10 = .ok (.iconst 0, 1) := by decide +kernel
theorem dX6_init_11 : decode cX6_init 11 = .ok (.putfield 15, 3) := by decide +kernel
theorem dX6_init_14 : decode cX6_init 14 = .ok (.aload_n 0, 1) := by decide +kernel
theorem dX6_init_15 : decode cX6_init 15 = .ok (.iconst 0, 1) := by decide +kernel
theorem dX6_init_16 : decode cX6_init 16 = .ok (.putfield 18, 3) := by decide +kernel
theorem dX6_init_19 : decode cX6_init 19 = .ok (.aload_n 0, 1) := by decide +kernel
theorem dX6_init_20 : decode cX6_init 20 = .ok (.iconst 0, 1) := by decide +kernel
theorem dX6_init_21 : decode cX6_init 21 = .ok (.putfield 21, 3) := by decide +kernel
theorem dX6_init_24 : decode cX6_init 24 = .ok (.return_, 1) := by decide +kernel
theorem dX6_keep_0 : decode cX6_keep 0 = .ok (.aload_n 0, 1) := by decide +kernel
theorem dX6_keep_1 : decode cX6_keep 1 = .ok (.aload_n 1, 1) := by decide +kernel
theorem dX6_keep_2 : decode cX6_keep 2 = .ok (.getfield 24, 3) := by decide +kernel
theorem dX6_keep_5 : decode cX6_keep 5 = .ok (.putfield 9, 3) := by decide +kernel
theorem dX6_keep_8 : decode cX6_keep 8 = .ok (.aload_n 0, 1) := by decide +kernel
theorem dX6_keep_9 : decode cX6_keep 9 = .ok (.aload_n 1, 1) := by decide +kernel
theorem dX6_keep_10 : decode cX6_keep 10 = .ok (.getfield 29, 3) := by decide +kernel
theorem dX6_keep_13 : decode cX6_keep 13 = .ok (.putfield 15, 3) := by decide +kernel
theorem dX6_keep_16 : decode cX6_keep 16 = .ok (.aload_n 0, 1) := by decide +kernel
theorem dX6_keep_17 : decode cX6_keep 17 = .ok (.iconst 0, 1) := by decide +kernel
theorem dX6_keep_18 : decode cX6_keep 18 = .ok (.putfield 18, 3) := by decide +kernel
theorem dX6_keep_21 : decode cX6_keep 21 = .ok (.aload_n 0, 1) := by decide +kernel
theorem dX6_keep_22 : decode cX6_keep 22 = .ok (.iconst 0, 1) := by decide +kernel
theorem dX6_keep_23 : decode cX6_keep 23 = .ok (.putfield 21, 3) := by decide +kernel
theorem dX6_keep_26 : decode cX6_keep 26 = .ok (.return_, 1) := by decide +kernel
theorem dX8_init_0 : decode cX8_init 0 = .ok (.aload_n 0, 1) := by decide +kernel
theorem dX8_init_1 : decode cX8_init 1 = .ok (.invokespecial 3, 3) := by decide +kernel
theorem dX8_init_4 : decode cX8_init 4 = .ok (.aload_n 0, 1) := by decide +kernel
theorem dX8_init_5 : decode cX8_init 5 = .ok (.bipush 60, 2) := by decide +kernel
theorem dX8_init_7 : decode cX8_init 7 = .ok (.newarray .char, 2) := by decide +kernel
theorem dX8_init_9 : decode cX8_init 9 = .ok (.putfield 9, 3) := by decide +kernel
theorem dX8_init_12 : decode cX8_init 12 = .ok (.aload_n 0, 1) := by decide +kernel
theorem dX8_init_13 : decode cX8_init 13 = .ok (.iconst 0, 1) := by decide +kernel
theorem dX8_init_14 : decode cX8_init 14 = .ok (.putfield 15, 3) := by decide +kernel
theorem dX8_init_17 : decode cX8_init 17 = .ok (.aload_n 0, 1) := by decide +kernel
theorem dX8_init_18 : decode cX8_init 18 = .ok (.iconst 0, 1) := by decide +kernel
theorem dX8_init_19 : decode cX8_init 19 = .ok (.putfield 19, 3) := by decide +kernel
theorem dX8_init_22 : decode cX8_init 22 = .ok (.aload_n 0, 1) := by decide +kernel
theorem dX8_init_23 : decode cX8_init 23 = .ok (.bipush 12, 2) := by decide +kernel
theorem dX8_init_25 : decode cX8_init 25 = .ok (.anewarray 22, 3) := by decide +kernel
theorem dX8_init_28 : decode cX8_init 28 = .ok (.putfield 24, 3) := by decide +kernel
theorem dX8_init_31 : decode cX8_init 31 = .ok (.aload_n 0, 1) := by decide +kernel
theorem dX8_init_32 : decode cX8_init 32 = .ok (.iconst 0, 1) := by decide +kernel
theorem dX8_init_33 : decode cX8_init 33 = .ok (.putfield 28, 3) := by decide +kernel
theorem dX8_init_36 : decode cX8_init 36 = .ok (.iconst 0, 1) := by decide +kernel
theorem dX8_init_37 : decode cX8_init 37 = .ok (.istore_n 1, 1) := by decide +kernel
theorem dX8_init_38 : decode cX8_init 38 = .ok (.iload_n 1, 1) := by decide +kernel
theorem dX8_init_39 : decode cX8_init 39 = .ok (.aload_n 0, 1) := by decide +kernel
theorem dX8_init_40 : decode cX8_init 40 = .ok (.getfield 24, 3) := by decide +kernel
theorem dX8_init_43 : decode cX8_init 43 = .ok (.arraylength, 1) := by decide +kernel
theorem dX8_init_44 : decode cX8_init 44 = .ok (.if_icmp .ge 22, 3) := by decide +kernel
theorem dX8_init_47 : decode cX8_init 47 = .ok (.aload_n 0, 1) := by decide +kernel
theorem dX8_init_48 : decode cX8_init 48 = .ok (.getfield 24, 3) := by decide +kernel
theorem dX8_init_51 : decode cX8_init 51 = .ok (.iload_n 1, 1) := by decide +kernel
theorem dX8_init_52 : decode cX8_init 52 = .ok (.new 22, 3) := by decide +kernel
theorem dX8_init_55 : decode cX8_init 55 = .ok (.dup, 1) := by decide +kernel
theorem dX8_init_56 : decode cX8_init 56 = .ok (.invokespecial 31, 3) := by decide +kernel
theorem dX8_init_59 : decode cX8_init 59 = .ok (.aastore, 1) := by decide +kernel
theorem dX8_init_60 : decode cX8_init 60 = .ok (.iinc 1 1, 3) := by decide +kernel
theorem dX8_init_63 : decode cX8_init 63 = .ok (.goto (-25), 3) := by decide +kernel
theorem dX8_init_66 : decode cX8_init 66 = .ok (.return_, 1) := by decide +kernel
theorem dX9_init_0 : decode cX9_init 0 = .ok (.aload_n 0, 1) := by decide +kernel
theorem dX9_init_1 : decode cX9_init 1 = .ok (.invokespecial 1, 3) := by decide +kernel
theorem dX9_init_4 : decode cX9_init 4 = .ok (.aload_n 0, 1) := by decide +kernel
theorem dX9_init_5 : decode cX9_init 5 = .ok (.new 7, 3) := by decide +kernel
theorem dX9_init_8 : decode cX9_init 8 = .ok (.dup, 1) := by decide +kernel
theorem dX9_init_9 : decode cX9_init 9 = .ok (.invokespecial 9, 3) := by decide +kernel
theorem dX9_init_12 : decode cX9_init 12 = .ok (.putfield 10, 3) := by decide +kernel
theorem dX9_init_15 : decode cX9_init 15 = .ok (.aload_n 0, 1) := by decide +kernel
theorem dX9_init_16 : decode cX9_init 16 = .ok (.new 7, 3) := by decide +kernel
theorem dX9_init_19 : decode cX9_init 19 = .ok (.dup, 1) := by decide +kernel
theorem dX9_init_20 : decode cX9_init 20 = .ok (.invokespecial 9, 3) := by decide +kernel
theorem dX9_init_23 : decode cX9_init 23 = .ok (.putfield 16, 3) := by decide +kernel
theorem dX9_init_26 : decode cX9_init 26 = .ok (.aload_n 0, 1) := by decide +kernel
theorem dX9_init_27 : decode cX9_init 27 = .ok (.new 7, 3) := by decide +kernel
theorem dX9_init_30 : decode cX9_init 30 = .ok (.dup, 1) := by decide +kernel
theorem dX9_init_31 : decode cX9_init 31 = .ok (.invokespecial 9, 3) := by decide +kernel
theorem dX9_init_34 : decode cX9_init 34 = .ok (.putfield 19, 3) := by decide +kernel
theorem dX9_init_37 : decode cX9_init 37 = .ok (.aload_n 0, 1) := by decide +kernel
theorem dX9_init_38 : decode cX9_init 38 = .ok (.new 7, 3) := by decide +kernel
theorem dX9_init_41 : decode cX9_init 41 = .ok (.dup, 1) := by decide +kernel
theorem dX9_init_42 : decode cX9_init 42 = .ok (.invokespecial 9, 3) := by decide +kernel
theorem dX9_init_45 : decode cX9_init 45 = .ok (.putfield 22, 3) := by decide +kernel
theorem dX9_init_48 : decode cX9_init 48 = .ok (.aload_n 0, 1) := by decide +kernel
theorem dX9_init_49 : decode cX9_init 49 = .ok (.iconst 0, 1) := by decide +kernel
theorem dX9_init_50 : decode cX9_init 50 = .ok (.putfield 25, 3) := by decide +kernel
theorem dX9_init_53 : decode cX9_init 53 = .ok (.aload_n 0, 1) := by decide +kernel
theorem dX9_init_54 : decode cX9_init 54 = .ok (.new 29, 3) := by decide +kernel
theorem dX9_init_57 : decode cX9_init 57 = .ok (.dup, 1) := by decide +kernel
theorem dX9_init_58 : decode cX9_init 58 = .ok (.invokespecial 31, 3) := by decide +kernel
theorem dX9_init_61 : decode cX9_init 61 = .ok (.putfield 32, 3) := by decide +kernel
theorem dX9_init_64 : decode cX9_init 64 = .ok (.aload_n 0, 1) := by decide +kernel
theorem dX9_init_65 : decode cX9_init 65 = .ok (.new 36, 3) := by decide +kernel
theorem dX9_init_68 : decode cX9_init 68 = .ok (.dup, 1) := by decide +kernel
theorem dX9_init_69 : decode cX9_init 69 = .ok (.invokespecial 38, 3) := by decide +kernel
theorem dX9_init_72 : decode cX9_init 72 = .ok (.putfield 39, 3) := by decide +kernel
theorem dX9_init_75 : decode cX9_init 75 = .ok (.aload_n 0, 1) := by decide +kernel
theorem dX9_init_76 : decode cX9_init 76 = .ok (.new 43, 3) := by decide +kernel
theorem dX9_init_79 : decode cX9_init 79 = .ok (.dup, 1) := by decide +kernel
theorem dX9_init_80 : decode cX9_init 80 = .ok (.invokespecial 45, 3) := by decide +kernel
theorem dX9_init_83 : decode cX9_init 83 = .ok (.putfield 46, 3) := by decide +kernel
theorem dX9_init_86 : decode cX9_init 86 = .ok (.aload_n 0, 1) := by decide +kernel
theorem dX9_init_87 : decode cX9_init 87 = .ok (.iconst (-1), 1) := by decide +kernel
theorem dX9_init_88 : decode cX9_init 88 = .ok (.putfield 50, 3) := by decide +kernel
theorem dX9_init_91 : decode cX9_init 91 = .ok (.aload_n 0, 1) := by decide +kernel
theorem dX9_init_92 : decode cX9_init 92 = .ok (.new 54, 3) := by decide +kernel
theorem dX9_init_95 : decode cX9_init 95 = .ok (.dup, 1) := by decide +kernel
theorem dX9_init_96 : decode cX9_init 96 = .ok (.invokespecial 56, 3) := by decide +kernel
theorem dX9_init_99 : decode cX9_init 99 = .ok (.putfield 57, 3) := by decide +kernel
theorem dX9_init_102 : decode cX9_init 102 = .ok (.return_, 1) := by decide +kernel
theorem dX9_cloud_0 : decode cX9_cloud 0 = .ok (.aload_n 0, 1) := by decide +kernel
theorem dX9_cloud_1 : decode cX9_cloud 1 = .ok (.getstatic 61, 3) := by decide +kernel
theorem dX9_cloud_4 : decode cX9_cloud 4 = .ok (.iload_n 1, 1) := by decide +kernel
theorem dX9_cloud_5 : decode cX9_cloud 5 = .ok (.iload_n 2, 1) := by decide +kernel
theorem dX9_cloud_6 : decode cX9_cloud 6 = .ok (.iload_n 3, 1) := by decide +kernel
theorem dX9_cloud_7 : decode cX9_cloud 7 = .ok (.invokevirtual 67, 3) := by decide +kernel
theorem dX9_cloud_10 : decode cX9_cloud 10 = .ok (.ireturn, 1) := by decide +kernel
theorem dX9_vine_0 : decode cX9_vine 0 = .ok (.aload_n 0, 1) := by decide +kernel
theorem dX9_vine_1 : decode cX9_vine 1 = .ok (.getstatic 71, 3) := by decide +kernel
theorem dX9_vine_4 : decode cX9_vine 4 = .ok (.iload_n 1, 1) := by decide +kernel
theorem dX9_vine_5 : decode cX9_vine 5 = .ok (.iload_n 2, 1) := by decide +kernel
theorem dX9_vine_6 : decode cX9_vine 6 = .ok (.iconst 0, 1) := by decide +kernel
theorem dX9_vine_7 : decode cX9_vine 7 = .ok (.invokevirtual 67, 3) := by decide +kernel
theorem dX9_vine_10 : decode cX9_vine 10 = .ok (.ireturn, 1) := by decide +kernel
theorem dX9_title_0 : decode cX9_title 0 = .ok (.aload_n 0, 1) := by decide +kernel
theorem dX9_title_1 : decode cX9_title 1 = .ok (.getstatic 74, 3) := by decide +kernel
theorem dX9_title_4 : decode cX9_title 4 = .ok (.iload_n 1, 1) := by decide +kernel
theorem dX9_title_5 : decode cX9_title 5 = .ok (.iload_n 2, 1) := by decide +kernel
theorem dX9_title_6 : decode cX9_title 6 = .ok (.iconst 0, 1) := by decide +kernel
theorem dX9_title_7 : decode cX9_title 7 = .ok (.invokevirtual 67, 3) := by decide +kernel
theorem dX9_title_10 : decode cX9_title 10 = .ok (.ireturn, 1) := by decide +kernel
theorem dX9_sell_0 : decode cX9_sell 0 = .ok (.aload_n 0, 1) := by decide +kernel
theorem dX9_sell_1 : decode cX9_sell 1 = .ok (.getstatic 77, 3) := by decide +kernel
theorem dX9_sell_4 : decode cX9_sell 4 = .ok (.iload_n 1, 1) := by decide +kernel
theorem dX9_sell_5 : decode cX9_sell 5 = .ok (.iload_n 2, 1) := by decide +kernel
theorem dX9_sell_6 : decode cX9_sell 6 = .ok (.iload_n 3, 1) := by decide +kernel
theorem dX9_sell_7 : decode cX9_sell 7 = .ok (.invokevirtual 67, 3) := by decide +kernel
theorem dX9_sell_10 : decode cX9_sell 10 = .ok (.ireturn, 1) := by decide +kernel
theorem dX9_pledge_0 : decode cX9_pledge 0 = .ok (.aload_n 0, 1) := by decide +kernel
theorem dX9_pledge_1 : decode cX9_pledge 1 = .ok (.getstatic 80, 3) := by decide +kernel
theorem dX9_pledge_4 : decode cX9_pledge 4 = .ok (.iload_n 1, 1) := by decide +kernel
theorem dX9_pledge_5 : decode cX9_pledge 5 = .ok (.iload_n 2, 1) := by decide +kernel
theorem dX9_pledge_6 : decode cX9_pledge 6 = .ok (.iconst 0, 1) := by decide +kernel
theorem dX9_pledge_7 : decode cX9_pledge 7 = .ok (.invokevirtual 67, 3) := by decide +kernel
theorem dX9_pledge_10 : decode cX9_pledge 10 = .ok (.ireturn, 1) := by decide +kernel
theorem dX9_redeem_0 : decode cX9_redeem 0 = .ok (.aload_n 0, 1) := by decide +kernel
theorem dX9_redeem_1 : decode cX9_redeem 1 = .ok (.getstatic 83, 3) := by decide +kernel
theorem dX9_redeem_4 : decode cX9_redeem 4 = .ok (.iload_n 1, 1) := by decide +kernel
theorem dX9_redeem_5 : decode cX9_redeem 5 = .ok (.iconst 0, 1) := by decide +kernel
theorem dX9_redeem_6 : decode cX9_redeem 6 = .ok (.iconst 0, 1) := by decide +kernel
theorem dX9_redeem_7 : decode cX9_redeem 7 = .ok (.invokevirtual 67, 3) := by decide +kernel
theorem dX9_redeem_10 : decode cX9_redeem 10 = .ok (.ireturn, 1) := by decide +kernel
theorem dX9_wind_0 : decode cX9_wind 0 = .ok (.aload_n 0, 1) := by decide +kernel
theorem dX9_wind_1 : decode cX9_wind 1 = .ok (.getstatic 86, 3) := by decide +kernel
theorem dX9_wind_4 : decode cX9_wind 4 = .ok (.iload_n 1, 1) := by decide +kernel
theorem dX9_wind_5 : decode cX9_wind 5 = .ok (.iconst 0, 1) := by decide +kernel
theorem dX9_wind_6 : decode cX9_wind 6 = .ok (.iconst 0, 1) := by decide +kernel
theorem dX9_wind_7 : decode cX9_wind 7 = .ok (.invokevirtual 67, 3) := by decide +kernel
theorem dX9_wind_10 : decode cX9_wind 10 = .ok (.ireturn, 1) := by decide +kernel
theorem dX9_hail_0 : decode cX9_hail 0 = .ok (.aload_n 0, 1) := by decide +kernel
theorem dX9_hail_1 : decode cX9_hail 1 = .ok (.getstatic 89, 3) := by decide +kernel
theorem dX9_hail_4 : decode cX9_hail 4 = .ok (.iload_n 1, 1) := by decide +kernel
theorem dX9_hail_5 : decode cX9_hail 5 = .ok (.iconst 0, 1) := by decide +kernel
theorem dX9_hail_6 : decode cX9_hail 6 = .ok (.iconst 0, 1) := by decide +kernel
theorem dX9_hail_7 : decode cX9_hail 7 = .ok (.invokevirtual 67, 3) := by decide +kernel
theorem dX9_hail_10 : decode cX9_hail 10 = .ok (.ireturn, 1) := by decide +kernel
theorem dX9_dawn_0 : decode cX9_dawn 0 = .ok (.aload_n 0, 1) := by decide +kernel
theorem dX9_dawn_1 : decode cX9_dawn 1 = .ok (.getfield 32, 3) := by decide +kernel
theorem dX9_dawn_4 : decode cX9_dawn 4 = .ok (.aload_n 0, 1) := by decide +kernel
theorem dX9_dawn_5 : decode cX9_dawn 5 = .ok (.getfield 10, 3) := by decide +kernel
theorem dX9_dawn_8 : decode cX9_dawn 8 = .ok (.invokevirtual 92, 3) := by decide +kernel
theorem dX9_dawn_11 : decode cX9_dawn 11 = .ok (.aload_n 0, 1) := by decide +kernel
theorem dX9_dawn_12 : decode cX9_dawn 12 = .ok (.getfield 10, 3) := by decide +kernel
theorem dX9_dawn_15 : decode cX9_dawn 15 = .ok (.invokevirtual 96, 3) := by decide +kernel
theorem dX9_dawn_18 : decode cX9_dawn 18 = .ok (.ireturn, 1) := by decide +kernel
theorem dX9_cloudOf_0 : decode cX9_cloudOf 0 = .ok (.aload_n 0, 1) := by decide +kernel
theorem dX9_cloudOf_1 : decode cX9_cloudOf 1 = .ok (.getfield 10, 3) := by decide +kernel
theorem dX9_cloudOf_4 : decode cX9_cloudOf 4 = .ok (.iload_n 1, 1) := by decide +kernel
theorem dX9_cloudOf_5 : decode cX9_cloudOf 5 = .ok (.invokevirtual 100, 3) := by decide +kernel
theorem dX9_cloudOf_8 : decode cX9_cloudOf 8 = .ok (.ifCond .ne 13, 3) := by decide +kernel
theorem dX9_cloudOf_11 : decode cX9_cloudOf 11 = .ok (.new 104, 3) := by decide +kernel
theorem dX9_cloudOf_14 : decode cX9_cloudOf 14 = .ok (.dup, 1) := by decide +kernel
theorem dX9_cloudOf_15 : decode cX9_cloudOf 15 = .ok (.ldc 106, 2) := by decide +kernel
theorem dX9_cloudOf_17 : decode cX9_cloudOf 17 = .ok (.invokespecial 108, 3) := by decide +kernel
theorem dX9_cloudOf_20 : decode cX9_cloudOf 20 = .ok (.athrow, 1) := by decide +kernel
theorem dX9_cloudOf_21 : decode cX9_cloudOf 21 = .ok (.iload_n 2, 1) := by decide +kernel
theorem dX9_cloudOf_22 : decode cX9_cloudOf 22 = .ok (.bipush 7, 2) := by decide +kernel
theorem dX9_cloudOf_24 : decode cX9_cloudOf 24 = .ok (.invokestatic 111, 3) := by decide +kernel
theorem dX9_cloudOf_27 : decode cX9_cloudOf 27 = .ok (.ifCond .ne 13, 3) := by decide +kernel
theorem dX9_cloudOf_30 : decode cX9_cloudOf 30 = .ok (.new 115, 3) := by decide +kernel
theorem dX9_cloudOf_33 : decode cX9_cloudOf 33 = .ok (.dup, 1) := by decide +kernel
theorem dX9_cloudOf_34 : decode cX9_cloudOf 34 = .ok (.ldc 117, 2) := by decide +kernel
theorem dX9_cloudOf_36 : decode cX9_cloudOf 36 = .ok (.invokespecial 119, 3) := by decide +kernel
theorem dX9_cloudOf_39 : decode cX9_cloudOf 39 = .ok (.athrow, 1) := by decide +kernel
theorem dX9_cloudOf_40 : decode cX9_cloudOf 40 = .ok (.aload_n 0, 1) := by decide +kernel
theorem dX9_cloudOf_41 : decode cX9_cloudOf 41 = .ok (.getfield 10, 3) := by decide +kernel
theorem dX9_cloudOf_44 : decode cX9_cloudOf 44 = .ok (.getfield 120, 3) := by decide +kernel
theorem dX9_cloudOf_47 : decode cX9_cloudOf 47 = .ok (.iload_n 1, 1) := by decide +kernel
theorem dX9_cloudOf_48 : decode cX9_cloudOf 48 = .ok (.aaload, 1) := by decide +kernel
theorem dX9_cloudOf_49 : decode cX9_cloudOf 49 = .ok (.iload_n 2, 1) := by decide +kernel
theorem dX9_cloudOf_50 : decode cX9_cloudOf 50 = .ok (.invokevirtual 124, 3) := by decide +kernel
theorem dX9_cloudOf_53 : decode cX9_cloudOf 53 = .ok (.ireturn, 1) := by decide +kernel
theorem dX9_ownerOf_0 : decode cX9_ownerOf 0 = .ok (.iload_n 1, 1) := by decide +kernel
theorem dX9_ownerOf_1 : decode cX9_ownerOf 1 = .ok (.invokestatic 130, 3) := by decide +kernel
theorem dX9_ownerOf_4 : decode cX9_ownerOf 4 = .ok (.iload_n 2, 1) := by decide +kernel
theorem dX9_ownerOf_5 : decode cX9_ownerOf 5 = .ok (.iconst 5, 1) := by decide +kernel
theorem dX9_ownerOf_6 : decode cX9_ownerOf 6 = .ok (.invokestatic 111, 3) := by decide +kernel
theorem dX9_ownerOf_9 : decode cX9_ownerOf 9 = .ok (.ifCond .ne 13, 3) := by decide +kernel
theorem dX9_ownerOf_12 : decode cX9_ownerOf 12 = .ok (.new 115, 3) := by decide +kernel
theorem dX9_ownerOf_15 : decode cX9_ownerOf 15 = .ok (.dup, 1) := by decide +kernel
theorem dX9_ownerOf_16 : decode cX9_ownerOf 16 = .ok (.ldc 134, 2) := by decide +kernel
theorem dX9_ownerOf_18 : decode cX9_ownerOf 18 = .ok (.invokespecial 119, 3) := by decide +kernel
theorem dX9_ownerOf_21 : decode cX9_ownerOf 21 = .ok (.athrow, 1) := by decide +kernel
theorem dX9_ownerOf_22 : decode cX9_ownerOf 22 = .ok (.aload_n 0, 1) := by decide +kernel
theorem dX9_ownerOf_23 : decode cX9_ownerOf 23 = .ok (.getfield 10, 3) := by decide +kernel
theorem dX9_ownerOf_26 : decode cX9_ownerOf 26 = .ok (.iload_n 1, 1) := by decide +kernel
theorem dX9_ownerOf_27 : decode cX9_ownerOf 27 = .ok (.iload_n 2, 1) := by decide +kernel
theorem dX9_ownerOf_28 : decode cX9_ownerOf 28 = .ok (.invokevirtual 136, 3) := by decide +kernel
theorem dX9_ownerOf_31 : decode cX9_ownerOf 31 = .ok (.ireturn, 1) := by decide +kernel
theorem dX9_vineyardOf_0 : decode cX9_vineyardOf 0 = .ok (.iload_n 1, 1) := by decide +kernel
theorem dX9_vineyardOf_1 : decode cX9_vineyardOf 1 = .ok (.invokestatic 140, 3) := by decide +kernel
theorem dX9_vineyardOf_4 : decode cX9_vineyardOf 4 = .ok (.ifCond .ne 13, 3) := by decide +kernel
theorem dX9_vineyardOf_7 : decode cX9_vineyardOf 7 = .ok (.new 104, 3) := by decide +kernel
theorem dX9_vineyardOf_10 : decode cX9_vineyardOf 10 = .ok (.dup, 1) := by decide +kernel
theorem dX9_vineyardOf_11 : decode cX9_vineyardOf 11 = .ok (.ldc 143, 2) := by decide +kernel
theorem dX9_vineyardOf_13 : decode cX9_vineyardOf 13 = .ok (.invokespecial 108, 3) := by decide +kernel
theorem dX9_vineyardOf_16 : decode cX9_vineyardOf 16 = .ok (.athrow, 1) := by decide +kernel
theorem dX9_vineyardOf_17 : decode cX9_vineyardOf 17 = .ok (.iload_n 2, 1) := by decide +kernel
theorem dX9_vineyardOf_18 : decode cX9_vineyardOf 18 = .ok (.iconst 3, 1) := by decide +kernel
theorem dX9_vineyardOf_19 : decode cX9_vineyardOf 19 = .ok (.invokestatic 111, 3) := by decide +kernel
theorem dX9_vineyardOf_22 : decode cX9_vineyardOf 22 = .ok (.ifCond .ne 13, 3) := by decide +kernel
theorem dX9_vineyardOf_25 : decode cX9_vineyardOf 25 = .ok (.new 115, 3) := by decide +kernel
theorem dX9_vineyardOf_28 : decode cX9_vineyardOf 28 = .ok (.dup, 1) := by decide +kernel
theorem dX9_vineyardOf_29 : decode cX9_vineyardOf 29 = .ok (.ldc 145, 2) := by decide +kernel
theorem dX9_vineyardOf_31 : decode cX9_vineyardOf 31 = .ok (.invokespecial 119, 3) := by decide +kernel
theorem dX9_vineyardOf_34 : decode cX9_vineyardOf 34 = .ok (.athrow, 1) := by decide +kernel
theorem dX9_vineyardOf_35 : decode cX9_vineyardOf 35 = .ok (.aload_n 0, 1) := by decide +kernel
theorem dX9_vineyardOf_36 : decode cX9_vineyardOf 36 = .ok (.getfield 10, 3) := by decide +kernel
theorem dX9_vineyardOf_39 : decode cX9_vineyardOf 39 = .ok (.iload_n 1, 1) := by decide +kernel
theorem dX9_vineyardOf_40 : decode cX9_vineyardOf 40 = .ok (.iload_n 2, 1) := by decide +kernel
theorem dX9_vineyardOf_41 : decode cX9_vineyardOf 41 = .ok (.invokevirtual 147, 3) := by decide +kernel
theorem dX9_vineyardOf_44 : decode cX9_vineyardOf 44 = .ok (.ireturn, 1) := by decide +kernel
theorem dX9_clouds_0 : decode cX9_clouds 0 = .ok (.iload_n 1, 1) := by decide +kernel
theorem dX9_clouds_1 : decode cX9_clouds 1 = .ok (.invokestatic 130, 3) := by decide +kernel
theorem dX9_clouds_4 : decode cX9_clouds 4 = .ok (.aload_n 0, 1) := by decide +kernel
theorem dX9_clouds_5 : decode cX9_clouds 5 = .ok (.getfield 10, 3) := by decide +kernel
theorem dX9_clouds_8 : decode cX9_clouds 8 = .ok (.iload_n 1, 1) := by decide +kernel
theorem dX9_clouds_9 : decode cX9_clouds 9 = .ok (.invokevirtual 150, 3) := by decide +kernel
theorem dX9_clouds_12 : decode cX9_clouds 12 = .ok (.ireturn, 1) := by decide +kernel
theorem dX9_cloudsAgain_0 : decode cX9_cloudsAgain 0 = .ok (.iload_n 1, 1) := by decide +kernel
theorem dX9_cloudsAgain_1 : decode cX9_cloudsAgain 1 = .ok (.invokestatic 130, 3) := by decide +kernel
theorem dX9_cloudsAgain_4 : decode cX9_cloudsAgain 4 = .ok (.aload_n 0, 1) := by decide +kernel
theorem dX9_cloudsAgain_5 : decode cX9_cloudsAgain 5 = .ok (.getfield 10, 3) := by decide +kernel
theorem dX9_cloudsAgain_8 : decode cX9_cloudsAgain 8 = .ok (.iload_n 1, 1) := by decide +kernel
theorem dX9_cloudsAgain_9 : decode cX9_cloudsAgain 9 = .ok (.invokevirtual 153, 3) := by decide +kernel
theorem dX9_cloudsAgain_12 : decode cX9_cloudsAgain 12 = .ok (.ireturn, 1) := by decide +kernel
theorem dX9_windTo_0 : decode cX9_windTo 0 = .ok (.aload_n 0, 1) := by decide +kernel
theorem dX9_windTo_1 : decode cX9_windTo 1 = .ok (.getfield 10, 3) := by decide +kernel
theorem dX9_windTo_4 : decode cX9_windTo 4 = .ok (.iload_n 1, 1) := by decide +kernel
theorem dX9_windTo_5 : decode cX9_windTo 5 = .ok (.invokevirtual 100, 3) := by decide +kernel
theorem dX9_windTo_8 : decode cX9_windTo 8 = .ok (.ifCond .eq 10, 3) := by decide +kernel
theorem dX9_windTo_11 : decode cX9_windTo 11 = .ok (.iload_n 2, 1) := by decide +kernel
theorem dX9_windTo_12 : decode cX9_windTo 12 = .ok (.invokestatic 140, 3) := by decide +kernel
theorem dX9_windTo_15 : decode cX9_windTo 15 = .ok (.ifCond .ne 13, 3) := by decide +kernel
theorem dX9_windTo_18 : decode cX9_windTo 18 = .ok (.new 104, 3) := by decide +kernel
theorem dX9_windTo_21 : decode cX9_windTo 21 = .ok (.dup, 1) := by decide +kernel
theorem dX9_windTo_22 : decode cX9_windTo 22 = .ok (.ldc 156, 2) := by decide +kernel
theorem dX9_windTo_24 : decode cX9_windTo 24 = .ok (.invokespecial 108, 3) := by decide +kernel
theorem dX9_windTo_27 : decode cX9_windTo 27 = .ok (.athrow, 1) := by decide +kernel
theorem dX9_windTo_28 : decode cX9_windTo 28 = .ok (.aload_n 0, 1) := by decide +kernel
theorem dX9_windTo_29 : decode cX9_windTo 29 = .ok (.getfield 10, 3) := by decide +kernel
theorem dX9_windTo_32 : decode cX9_windTo 32 = .ok (.getfield 120, 3) := by decide +kernel
theorem dX9_windTo_35 : decode cX9_windTo 35 = .ok (.iload_n 1, 1) := by decide +kernel
theorem dX9_windTo_36 : decode cX9_windTo 36 = .ok (.aaload, 1) := by decide +kernel
theorem dX9_windTo_37 : decode cX9_windTo 37 = .ok (.iload_n 2, 1) := by decide +kernel
theorem dX9_windTo_38 : decode cX9_windTo 38 = .ok (.invokevirtual 158, 3) := by decide +kernel
theorem dX9_windTo_41 : decode cX9_windTo 41 = .ok (.ireturn, 1) := by decide +kernel
theorem dX9_windToAgain_0 : decode cX9_windToAgain 0 = .ok (.aload_n 0, 1) := by decide +kernel
theorem dX9_windToAgain_1 : decode cX9_windToAgain 1 = .ok (.getfield 10, 3) := by decide +kernel
theorem dX9_windToAgain_4 : decode cX9_windToAgain 4 = .ok (.iload_n 1, 1) := by decide +kernel
theorem dX9_windToAgain_5 : decode cX9_windToAgain 5 = .ok (.invokevirtual 100, 3) := by decide +kernel
theorem dX9_windToAgain_8 : decode cX9_windToAgain 8 = .ok (.ifCond .eq 10, 3) := by decide +kernel
theorem dX9_windToAgain_11 : decode cX9_windToAgain 11 = .ok (.iload_n 2, 1) := by decide +kernel
theorem dX9_windToAgain_12 : decode cX9_windToAgain 12 = .ok (.invokestatic 140, 3) := by decide +kernel
theorem dX9_windToAgain_15 : decode cX9_windToAgain 15 = .ok (.ifCond .ne 13, 3) := by decide +kernel
theorem dX9_windToAgain_18 : decode cX9_windToAgain 18 = .ok (.new 104, 3) := by decide +kernel
theorem dX9_windToAgain_21 : decode cX9_windToAgain 21 = .ok (.dup, 1) := by decide +kernel
theorem dX9_windToAgain_22 : decode cX9_windToAgain 22 = .ok (.ldc 156, 2) := by decide +kernel
theorem dX9_windToAgain_24 : decode cX9_windToAgain 24 = .ok (.invokespecial 108, 3) := by decide +kernel
theorem dX9_windToAgain_27 : decode cX9_windToAgain 27 = .ok (.athrow, 1) := by decide +kernel
theorem dX9_windToAgain_28 : decode cX9_windToAgain 28 = .ok (.aload_n 0, 1) := by decide +kernel
theorem dX9_windToAgain_29 : decode cX9_windToAgain 29 = .ok (.getfield 10, 3) := by decide +kernel
theorem dX9_windToAgain_32 : decode cX9_windToAgain 32 = .ok (.getfield 120, 3) := by decide +kernel
theorem dX9_windToAgain_35 : decode cX9_windToAgain 35 = .ok (.iload_n 1, 1) := by decide +kernel
theorem dX9_windToAgain_36 : decode cX9_windToAgain 36 = .ok (.aaload, 1) := by decide +kernel
theorem dX9_windToAgain_37 : decode cX9_windToAgain 37 = .ok (.iload_n 2, 1) := by decide +kernel
theorem dX9_windToAgain_38 : decode cX9_windToAgain 38 = .ok (.invokevirtual 161, 3) := by decide +kernel
theorem dX9_windToAgain_41 : decode cX9_windToAgain 41 = .ok (.ireturn, 1) := by decide +kernel
theorem dX9_would_0 : decode cX9_would 0 = .ok (.iload_n 1, 1) := by decide +kernel
theorem dX9_would_1 : decode cX9_would 1 = .ok (.invokestatic 130, 3) := by decide +kernel
theorem dX9_would_4 : decode cX9_would 4 = .ok (.iload_n 2, 1) := by decide +kernel
theorem dX9_would_5 : decode cX9_would 5 = .ok (.bipush (-3), 2) := by decide +kernel
theorem dX9_would_7 : decode cX9_would 7 = .ok (.if_icmp .lt 8, 3) := by decide +kernel
theorem dX9_would_10 : decode cX9_would 10 = .ok (.iload_n 2, 1) := by decide +kernel
theorem dX9_would_11 : decode cX9_would 11 = .ok (.iconst 3, 1) := by decide +kernel
theorem dX9_would_12 : decode cX9_would 12 = .ok (.if_icmp .le 13, 3) := by decide +kernel
theorem dX9_would_15 : decode cX9_would 15 = .ok (.new 115, 3) := by decide +kernel
theorem dX9_would_18 : decode cX9_would 18 = .ok (.dup, 1) := by decide +kernel
theorem dX9_would_19 : decode cX9_would 19 = .ok (.ldc 164, 2) := by decide +kernel
theorem dX9_would_21 : decode cX9_would 21 = .ok (.invokespecial 119, 3) := by decide +kernel
theorem dX9_would_24 : decode cX9_would 24 = .ok (.athrow, 1) := by decide +kernel
theorem dX9_would_25 : decode cX9_would 25 = .ok (.aload_n 0, 1) := by decide +kernel
theorem dX9_would_26 : decode cX9_would 26 = .ok (.iload_n 1, 1) := by decide +kernel
theorem dX9_would_27 : decode cX9_would 27 = .ok (.iload_n 2, 1) := by decide +kernel
theorem dX9_would_28 : decode cX9_would 28 = .ok (.invokevirtual 166, 3) := by decide +kernel
theorem dX9_would_31 : decode cX9_would 31 = .ok (.ireturn, 1) := by decide +kernel
theorem dX9_bestWind_0 : decode cX9_bestWind 0 = .ok (.iload_n 1, 1) := by decide +kernel
theorem dX9_bestWind_1 : decode cX9_bestWind 1 = .ok (.invokestatic 130, 3) := by decide +kernel
theorem dX9_bestWind_4 : decode cX9_bestWind 4 = .ok (.iconst 0, 1) := by decide +kernel
theorem dX9_bestWind_5 : decode cX9_bestWind 5 = .ok (.istore_n 2, 1) := by decide +kernel
theorem dX9_bestWind_6 : decode cX9_bestWind 6 = .ok (.iconst (-1), 1) := by decide +kernel
theorem dX9_bestWind_7 : decode cX9_bestWind 7 = .ok (.istore_n 3, 1) := by decide +kernel
theorem dX9_bestWind_8 : decode cX9_bestWind 8 = .ok (.bipush (-3), 2) := by decide +kernel
theorem dX9_bestWind_10 : decode cX9_bestWind 10 = .ok (.istore 4, 2) := by decide +kernel
theorem dX9_bestWind_12 : decode cX9_bestWind 12 = .ok (.iload 4, 2) := by decide +kernel
theorem dX9_bestWind_14 : decode cX9_bestWind 14 = .ok (.iconst 3, 1) := by decide +kernel
theorem dX9_bestWind_15 : decode cX9_bestWind 15 = .ok (.if_icmp .gt 30, 3) := by decide +kernel
theorem dX9_bestWind_18 : decode cX9_bestWind 18 = .ok (.aload_n 0, 1) := by decide +kernel
theorem dX9_bestWind_19 : decode cX9_bestWind 19 = .ok (.iload_n 1, 1) := by decide +kernel
theorem dX9_bestWind_20 : decode cX9_bestWind 20 = .ok (.iload 4, 2) := by decide +kernel
theorem dX9_bestWind_22 : decode cX9_bestWind 22 = .ok (.invokevirtual 166, 3) := by decide +kernel
theorem dX9_bestWind_25 : decode cX9_bestWind 25 = .ok (.istore 5, 2) := by decide +kernel
theorem dX9_bestWind_27 : decode cX9_bestWind 27 = .ok (.iload 5, 2) := by decide +kernel
theorem dX9_bestWind_29 : decode cX9_bestWind 29 = .ok (.iload_n 3, 1) := by decide +kernel
theorem dX9_bestWind_30 : decode cX9_bestWind 30 = .ok (.if_icmp .le 9, 3) := by decide +kernel
theorem dX9_bestWind_33 : decode cX9_bestWind 33 = .ok (.iload 5, 2) := by decide +kernel
theorem dX9_bestWind_35 : decode cX9_bestWind 35 = .ok (.istore_n 3, 1) := by decide +kernel
theorem dX9_bestWind_36 : decode cX9_bestWind 36 = .ok (.iload 4, 2) := by decide +kernel
theorem dX9_bestWind_38 : decode cX9_bestWind 38 = .ok (.istore_n 2, 1) := by decide +kernel
theorem dX9_bestWind_39 : decode cX9_bestWind 39 = .ok (.iinc 4 1, 3) := by decide +kernel
theorem dX9_bestWind_42 : decode cX9_bestWind 42 = .ok (.goto (-30), 3) := by decide +kernel
theorem dX9_bestWind_45 : decode cX9_bestWind 45 = .ok (.iload_n 2, 1) := by decide +kernel
theorem dX9_bestWind_46 : decode cX9_bestWind 46 = .ok (.ireturn, 1) := by decide +kernel
theorem dX9_recorded_0 : decode cX9_recorded 0 = .ok (.aload_n 0, 1) := by decide +kernel
theorem dX9_recorded_1 : decode cX9_recorded 1 = .ok (.getfield 10, 3) := by decide +kernel
theorem dX9_recorded_4 : decode cX9_recorded 4 = .ok (.getfield 169, 3) := by decide +kernel
theorem dX9_recorded_7 : decode cX9_recorded 7 = .ok (.astore_n 3, 1) := by decide +kernel
theorem dX9_recorded_8 : decode cX9_recorded 8 = .ok (.aload_n 3, 1) := by decide +kernel
theorem dX9_recorded_9 : decode cX9_recorded 9 = .ok (.iload_n 1, 1) := by decide +kernel
theorem dX9_recorded_10 : decode cX9_recorded 10 = .ok (.invokevirtual 173, 3) := by decide +kernel
theorem dX9_recorded_13 : decode cX9_recorded 13 = .ok (.ifCond .eq 15, 3) := by decide +kernel
theorem dX9_recorded_16 : decode cX9_recorded 16 = .ok (.iload_n 2, 1) := by decide +kernel
theorem dX9_recorded_17 : decode cX9_recorded 17 = .ok (.aload_n 3, 1) := by decide +kernel
theorem dX9_recorded_18 : decode cX9_recorded 18 = .ok (.iload_n 1, 1) := by decide +kernel
theorem dX9_recorded_19 : decode cX9_recorded 19 = .ok (.invokevirtual 178, 3) := by decide +kernel
theorem dX9_recorded_22 : decode cX9_recorded 22 = .ok (.invokestatic 111, 3) := by decide +kernel
theorem dX9_recorded_25 : decode cX9_recorded 25 = .ok (.ifCond .ne 13, 3) := by decide +kernel
theorem dX9_recorded_28 : decode cX9_recorded 28 = .ok (.new 181, 3) := by decide +kernel
theorem dX9_recorded_31 : decode cX9_recorded 31 = .ok (.dup, 1) := by decide +kernel
theorem dX9_recorded_32 : decode cX9_recorded 32 = .ok (.ldc 183, 2) := by decide +kernel
theorem dX9_recorded_34 : decode cX9_recorded 34 = .ok (.invokespecial 185, 3) := by decide +kernel
theorem dX9_recorded_37 : decode cX9_recorded 37 = .ok (.athrow, 1) := by decide +kernel
theorem dX9_recorded_38 : decode cX9_recorded 38 = .ok (.aload_n 3, 1) := by decide +kernel
theorem dX9_recorded_39 : decode cX9_recorded 39 = .ok (.iload_n 1, 1) := by decide +kernel
theorem dX9_recorded_40 : decode cX9_recorded 40 = .ok (.iload_n 2, 1) := by decide +kernel
theorem dX9_recorded_41 : decode cX9_recorded 41 = .ok (.invokevirtual 186, 3) := by decide +kernel
theorem dX9_recorded_44 : decode cX9_recorded 44 = .ok (.ireturn, 1) := by decide +kernel
theorem dX9_coins_0 : decode cX9_coins 0 = .ok (.aload_n 0, 1) := by decide +kernel
theorem dX9_coins_1 : decode cX9_coins 1 = .ok (.getfield 10, 3) := by decide +kernel
theorem dX9_coins_4 : decode cX9_coins 4 = .ok (.invokevirtual 189, 3) := by decide +kernel
theorem dX9_coins_7 : decode cX9_coins 7 = .ok (.ireturn, 1) := by decide +kernel
theorem dX9_coinsAgain_0 : decode cX9_coinsAgain 0 = .ok (.aload_n 0, 1) := by decide +kernel
theorem dX9_coinsAgain_1 : decode cX9_coinsAgain 1 = .ok (.getfield 10, 3) := by decide +kernel
theorem dX9_coinsAgain_4 : decode cX9_coinsAgain 4 = .ok (.invokevirtual 192, 3) := by decide +kernel
theorem dX9_coinsAgain_7 : decode cX9_coinsAgain 7 = .ok (.ireturn, 1) := by decide +kernel
theorem dX9_greatest_0 : decode cX9_greatest 0 = .ok (.iload_n 1, 1) := by decide +kernel
theorem dX9_greatest_1 : decode cX9_greatest 1 = .ok (.aload_n 0, 1) := by decide +kernel
theorem dX9_greatest_2 : decode cX9_greatest 2 = .ok (.getfield 10, 3) := by decide +kernel
theorem dX9_greatest_5 : decode cX9_greatest 5 = .ok (.getfield 195, 3) := by decide +kernel
theorem dX9_greatest_8 : decode cX9_greatest 8 = .ok (.invokestatic 111, 3) := by decide +kernel
theorem dX9_greatest_11 : decode cX9_greatest 11 = .ok (.ifCond .ne 13, 3) := by decide +kernel
theorem dX9_greatest_14 : decode cX9_greatest 14 = .ok (.new 181, 3) := by decide +kernel
theorem dX9_greatest_17 : decode cX9_greatest 17 = .ok (.dup, 1) := by decide +kernel
theorem dX9_greatest_18 : decode cX9_greatest 18 = .ok (.ldc 198, 2) := by decide +kernel
theorem dX9_greatest_20 : decode cX9_greatest 20 = .ok (.invokespecial 185, 3) := by decide +kernel
theorem dX9_greatest_23 : decode cX9_greatest 23 = .ok (.athrow, 1) := by decide +kernel
theorem dX9_greatest_24 : decode cX9_greatest 24 = .ok (.aload_n 0, 1) := by decide +kernel
theorem dX9_greatest_25 : decode cX9_greatest 25 = .ok (.getfield 10, 3) := by decide +kernel
theorem dX9_greatest_28 : decode cX9_greatest 28 = .ok (.iload_n 1, 1) := by decide +kernel
theorem dX9_greatest_29 : decode cX9_greatest 29 = .ok (.invokevirtual 200, 3) := by decide +kernel
theorem dX9_greatest_32 : decode cX9_greatest 32 = .ok (.ireturn, 1) := by decide +kernel
theorem dX9_ranked_0 : decode cX9_ranked 0 = .ok (.iload_n 1, 1) := by decide +kernel
theorem dX9_ranked_1 : decode cX9_ranked 1 = .ok (.iconst 4, 1) := by decide +kernel
theorem dX9_ranked_2 : decode cX9_ranked 2 = .ok (.invokestatic 111, 3) := by decide +kernel
theorem dX9_ranked_5 : decode cX9_ranked 5 = .ok (.ifCond .ne 13, 3) := by decide +kernel
theorem dX9_ranked_8 : decode cX9_ranked 8 = .ok (.new 181, 3) := by decide +kernel
theorem dX9_ranked_11 : decode cX9_ranked 11 = .ok (.dup, 1) := by decide +kernel
theorem dX9_ranked_12 : decode cX9_ranked 12 = .ok (.ldc 198, 2) := by decide +kernel
theorem dX9_ranked_14 : decode cX9_ranked 14 = .ok (.invokespecial 185, 3) := by decide +kernel
theorem dX9_ranked_17 : decode cX9_ranked 17 = .ok (.athrow, 1) := by decide +kernel
theorem dX9_ranked_18 : decode cX9_ranked 18 = .ok (.aload_n 0, 1) := by decide +kernel
theorem dX9_ranked_19 : decode cX9_ranked 19 = .ok (.getfield 10, 3) := by decide +kernel
theorem dX9_ranked_22 : decode cX9_ranked 22 = .ok (.iload_n 1, 1) := by decide +kernel
theorem dX9_ranked_23 : decode cX9_ranked 23 = .ok (.invokevirtual 203, 3) := by decide +kernel
theorem dX9_ranked_26 : decode cX9_ranked 26 = .ok (.ireturn, 1) := by decide +kernel
theorem dX9_reason_0 : decode cX9_reason 0 = .ok (.iload_n 1, 1) := by decide +kernel
theorem dX9_reason_1 : decode cX9_reason 1 = .ok (.ifCond .eq 13, 3) := by decide +kernel
theorem dX9_reason_4 : decode cX9_reason 4 = .ok (.aload_n 0, 1) := by decide +kernel
theorem dX9_reason_5 : decode cX9_reason 5 = .ok (.getfield 39, 3) := by decide +kernel
theorem dX9_reason_8 : decode cX9_reason 8 = .ok (.getfield 254, 3) := by decide +kernel
theorem dX9_reason_11 : decode cX9_reason 11 = .ok (.goto 10, 3) := by decide +kernel
theorem dX9_reason_14 : decode cX9_reason 14 = .ok (.aload_n 0, 1) := by decide +kernel
theorem dX9_reason_15 : decode cX9_reason 15 = .ok (.getfield 39, 3) := by decide +kernel
theorem dX9_reason_18 : decode cX9_reason 18 = .ok (.getfield 257, 3) := by decide +kernel
theorem dX9_reason_21 : decode cX9_reason 21 = .ok (.istore_n 3, 1) := by decide +kernel
theorem dX9_reason_22 : decode cX9_reason 22 = .ok (.iload_n 3, 1) := by decide +kernel
theorem dX9_reason_23 : decode cX9_reason 23 = .ok (.ifCond .ne 14, 3) := by decide +kernel
theorem dX9_reason_26 : decode cX9_reason 26 = .ok (.new 181, 3) := by decide +kernel
theorem dX9_reason_29 : decode cX9_reason 29 = .ok (.dup, 1) := by decide +kernel
theorem dX9_reason_30 : decode cX9_reason 30 = .ok (.ldc_w 260, 3) := by decide +kernel
theorem dX9_reason_33 : decode cX9_reason 33 = .ok (.invokespecial 185, 3) := by decide +kernel
theorem dX9_reason_36 : decode cX9_reason 36 = .ok (.athrow, 1) := by decide +kernel
theorem dX9_reason_37 : decode cX9_reason 37 = .ok (.iload_n 2, 1) := by decide +kernel
theorem dX9_reason_38 : decode cX9_reason 38 = .ok (.ifCond .ne 5, 3) := by decide +kernel
theorem dX9_reason_41 : decode cX9_reason 41 = .ok (.iload_n 3, 1) := by decide +kernel
theorem dX9_reason_42 : decode cX9_reason 42 = .ok (.ireturn, 1) := by decide +kernel
theorem dX9_reason_43 : decode cX9_reason 43 = .ok (.iload_n 1, 1) := by decide +kernel
theorem dX9_reason_44 : decode cX9_reason 44 = .ok (.ifCond .eq 13, 3) := by decide +kernel
theorem dX9_reason_47 : decode cX9_reason 47 = .ok (.aload_n 0, 1) := by decide +kernel
theorem dX9_reason_48 : decode cX9_reason 48 = .ok (.getfield 39, 3) := by decide +kernel
theorem dX9_reason_51 : decode cX9_reason 51 = .ok (.getfield 262, 3) := by decide +kernel
theorem dX9_reason_54 : decode cX9_reason 54 = .ok (.goto 10, 3) := by decide +kernel
theorem dX9_reason_57 : decode cX9_reason 57 = .ok (.aload_n 0, 1) := by decide +kernel
theorem dX9_reason_58 : decode cX9_reason 58 = .ok (.getfield 39, 3) := by decide +kernel
theorem dX9_reason_61 : decode cX9_reason 61 = .ok (.getfield 265, 3) := by decide +kernel
theorem dX9_reason_64 : decode cX9_reason 64 = .ok (.ireturn, 1) := by decide +kernel
theorem dX9_line_0 : decode cX9_line 0 = .ok (.aload_n 0, 1) := by decide +kernel
theorem dX9_line_1 : decode cX9_line 1 = .ok (.getfield 10, 3) := by decide +kernel
theorem dX9_line_4 : decode cX9_line 4 = .ok (.iload_n 1, 1) := by decide +kernel
theorem dX9_line_5 : decode cX9_line 5 = .ok (.invokevirtual 100, 3) := by decide +kernel
theorem dX9_line_8 : decode cX9_line 8 = .ok (.ifCond .ne 13, 3) := by decide +kernel
theorem dX9_line_11 : decode cX9_line 11 = .ok (.new 104, 3) := by decide +kernel
theorem dX9_line_14 : decode cX9_line 14 = .ok (.dup, 1) := by decide +kernel
theorem dX9_line_15 : decode cX9_line 15 = .ok (.ldc 106, 2) := by decide +kernel
theorem dX9_line_17 : decode cX9_line 17 = .ok (.invokespecial 108, 3) := by decide +kernel
theorem dX9_line_20 : decode cX9_line 20 = .ok (.athrow, 1) := by decide +kernel
theorem dX9_line_21 : decode cX9_line 21 = .ok (.aload_n 0, 1) := by decide +kernel
theorem dX9_line_22 : decode cX9_line 22 = .ok (.getfield 57, 3) := by decide +kernel
theorem dX9_line_25 : decode cX9_line 25 = .ok (.iconst 0, 1) := by decide +kernel
theorem dX9_line_26 : decode cX9_line 26 = .ok (.invokevirtual 268, 3) := by decide +kernel
theorem dX9_line_29 : decode cX9_line 29 = .ok (.aload_n 0, 1) := by decide +kernel
theorem dX9_line_30 : decode cX9_line 30 = .ok (.getfield 57, 3) := by decide +kernel
theorem dX9_line_33 : decode cX9_line 33 = .ok (.iload_n 1, 1) := by decide +kernel
theorem dX9_line_34 : decode cX9_line 34 = .ok (.invokevirtual 271, 3) := by decide +kernel
theorem dX9_line_37 : decode cX9_line 37 = .ok (.pop, 1) := by decide +kernel
theorem dX9_line_38 : decode cX9_line 38 = .ok (.aload_n 0, 1) := by decide +kernel
theorem dX9_line_39 : decode cX9_line 39 = .ok (.getfield 10, 3) := by decide +kernel
theorem dX9_line_42 : decode cX9_line 42 = .ok (.getfield 120, 3) := by decide +kernel
theorem dX9_line_45 : decode cX9_line 45 = .ok (.iload_n 1, 1) := by decide +kernel
theorem dX9_line_46 : decode cX9_line 46 = .ok (.aaload, 1) := by decide +kernel
theorem dX9_line_47 : decode cX9_line 47 = .ok (.aload_n 0, 1) := by decide +kernel
theorem dX9_line_48 : decode cX9_line 48 = .ok (.getfield 57, 3) := by decide +kernel
theorem dX9_line_51 : decode cX9_line 51 = .ok (.invokevirtual 274, 3) := by decide +kernel
theorem dX9_line_54 : decode cX9_line 54 = .ok (.aload_n 0, 1) := by decide +kernel
theorem dX9_line_55 : decode cX9_line 55 = .ok (.getfield 57, 3) := by decide +kernel
theorem dX9_line_58 : decode cX9_line 58 = .ok (.invokevirtual 278, 3) := by decide +kernel
theorem dX9_line_61 : decode cX9_line 61 = .ok (.ireturn, 1) := by decide +kernel
theorem dX9_dawnLine_0 : decode cX9_dawnLine 0 = .ok (.aload_n 0, 1) := by decide +kernel
theorem dX9_dawnLine_1 : decode cX9_dawnLine 1 = .ok (.getfield 10, 3) := by decide +kernel
theorem dX9_dawnLine_4 : decode cX9_dawnLine 4 = .ok (.getfield 169, 3) := by decide +kernel
theorem dX9_dawnLine_7 : decode cX9_dawnLine 7 = .ok (.iload_n 1, 1) := by decide +kernel
theorem dX9_dawnLine_8 : decode cX9_dawnLine 8 = .ok (.invokevirtual 173, 3) := by decide +kernel
theorem dX9_dawnLine_11 : decode cX9_dawnLine 11 = .ok (.ifCond .ne 14, 3) := by decide +kernel
theorem dX9_dawnLine_14 : decode cX9_dawnLine 14 = .ok (.new 181, 3) := by decide +kernel
theorem dX9_dawnLine_17 : decode cX9_dawnLine 17 = .ok (.dup, 1) := by decide +kernel
theorem dX9_dawnLine_18 : decode cX9_dawnLine 18 = .ok (.ldc_w 281, 3) := by decide +kernel
theorem dX9_dawnLine_21 : decode cX9_dawnLine 21 = .ok (.invokespecial 185, 3) := by decide +kernel
theorem dX9_dawnLine_24 : decode cX9_dawnLine 24 = .ok (.athrow, 1) := by decide +kernel
theorem dX9_dawnLine_25 : decode cX9_dawnLine 25 = .ok (.aload_n 0, 1) := by decide +kernel
theorem dX9_dawnLine_26 : decode cX9_dawnLine 26 = .ok (.getfield 57, 3) := by decide +kernel
theorem dX9_dawnLine_29 : decode cX9_dawnLine 29 = .ok (.iconst 0, 1) := by decide +kernel
theorem dX9_dawnLine_30 : decode cX9_dawnLine 30 = .ok (.invokevirtual 268, 3) := by decide +kernel
theorem dX9_dawnLine_33 : decode cX9_dawnLine 33 = .ok (.aload_n 0, 1) := by decide +kernel
theorem dX9_dawnLine_34 : decode cX9_dawnLine 34 = .ok (.getfield 10, 3) := by decide +kernel
theorem dX9_dawnLine_37 : decode cX9_dawnLine 37 = .ok (.getfield 169, 3) := by decide +kernel
theorem dX9_dawnLine_40 : decode cX9_dawnLine 40 = .ok (.aload_n 0, 1) := by decide +kernel
theorem dX9_dawnLine_41 : decode cX9_dawnLine 41 = .ok (.getfield 57, 3) := by decide +kernel
theorem dX9_dawnLine_44 : decode cX9_dawnLine 44 = .ok (.iload_n 1, 1) := by decide +kernel
theorem dX9_dawnLine_45 : decode cX9_dawnLine 45 = .ok (.invokevirtual 283, 3) := by decide +kernel
theorem dX9_dawnLine_48 : decode cX9_dawnLine 48 = .ok (.aload_n 0, 1) := by decide +kernel
theorem dX9_dawnLine_49 : decode cX9_dawnLine 49 = .ok (.getfield 57, 3) := by decide +kernel
theorem dX9_dawnLine_52 : decode cX9_dawnLine 52 = .ok (.invokevirtual 278, 3) := by decide +kernel
theorem dX9_dawnLine_55 : decode cX9_dawnLine 55 = .ok (.ireturn, 1) := by decide +kernel
theorem dX9_character_0 : decode cX9_character 0 = .ok (.iload_n 1, 1) := by decide +kernel
theorem dX9_character_1 : decode cX9_character 1 = .ok (.aload_n 0, 1) := by decide +kernel
theorem dX9_character_2 : decode cX9_character 2 = .ok (.getfield 57, 3) := by decide +kernel
theorem dX9_character_5 : decode cX9_character 5 = .ok (.invokevirtual 278, 3) := by decide +kernel
theorem dX9_character_8 : decode cX9_character 8 = .ok (.invokestatic 111, 3) := by decide +kernel
theorem dX9_character_11 : decode cX9_character 11 = .ok (.ifCond .ne 14, 3) := by decide +kernel
theorem dX9_character_14 : decode cX9_character 14 = .ok (.new 104, 3) := by decide +kernel
theorem dX9_character_17 : decode cX9_character 17 = .ok (.dup, 1) := by decide +kernel
theorem dX9_character_18 : decode cX9_character 18 = .ok (.ldc_w 286, 3) := by decide +kernel
theorem dX9_character_21 : decode cX9_character 21 = .ok (.invokespecial 108, 3) := by decide +kernel
theorem dX9_character_24 : decode cX9_character 24 = .ok (.athrow, 1) := by decide +kernel
theorem dX9_character_25 : decode cX9_character 25 = .ok (.aload_n 0, 1) := by decide +kernel
theorem dX9_character_26 : decode cX9_character 26 = .ok (.getfield 57, 3) := by decide +kernel
theorem dX9_character_29 : decode cX9_character 29 = .ok (.iload_n 1, 1) := by decide +kernel
theorem dX9_character_30 : decode cX9_character 30 = .ok (.invokevirtual 288, 3) := by decide +kernel
theorem dX9_character_33 : decode cX9_character 33 = .ok (.ireturn, 1) := by decide +kernel
theorem dX9_meanSize_0 : decode cX9_meanSize 0 = .ok (.aload_n 0, 1) := by decide +kernel
theorem dX9_meanSize_1 : decode cX9_meanSize 1 = .ok (.getfield 10, 3) := by decide +kernel
theorem dX9_meanSize_4 : decode cX9_meanSize 4 = .ok (.getfield 195, 3) := by decide +kernel
theorem dX9_meanSize_7 : decode cX9_meanSize 7 = .ok (.ifCond .ne 14, 3) := by decide +kernel
theorem dX9_meanSize_10 : decode cX9_meanSize 10 = .ok (.new 292, 3) := by decide +kernel
theorem dX9_meanSize_13 : decode cX9_meanSize 13 = .ok (.dup, 1) := by decide +kernel
theorem dX9_meanSize_14 : decode cX9_meanSize 14 = .ok (.ldc_w 294, 3) := by decide +kernel
theorem dX9_meanSize_17 : decode cX9_meanSize 17 = .ok (.invokespecial 296, 3) := by decide +kernel
theorem dX9_meanSize_20 : decode cX9_meanSize 20 = .ok (.athrow, 1) := by decide +kernel
theorem dX9_meanSize_21 : decode cX9_meanSize 21 = .ok (.aload_n 0, 1) := by decide +kernel
theorem dX9_meanSize_22 : decode cX9_meanSize 22 = .ok (.getfield 10, 3) := by decide +kernel
theorem dX9_meanSize_25 : decode cX9_meanSize 25 = .ok (.invokevirtual 297, 3) := by decide +kernel
theorem dX9_meanSize_28 : decode cX9_meanSize 28 = .ok (.i2d, 1) := by decide +kernel
theorem dX9_meanSize_29 : decode cX9_meanSize 29 = .ok (.aload_n 0, 1) := by decide +kernel
theorem dX9_meanSize_30 : decode cX9_meanSize 30 = .ok (.getfield 10, 3) := by decide +kernel
theorem dX9_meanSize_33 : decode cX9_meanSize 33 = .ok (.getfield 195, 3) := by decide +kernel
theorem dX9_meanSize_36 : decode cX9_meanSize 36 = .ok (.i2d, 1) := by decide +kernel
theorem dX9_meanSize_37 : decode cX9_meanSize 37 = .ok (.ddiv, 1) := by decide +kernel
theorem dX9_meanSize_38 : decode cX9_meanSize 38 = .ok (.dreturn, 1) := by decide +kernel
theorem dX9_titledShare_0 : decode cX9_titledShare 0 = .ok (.aload_n 0, 1) := by decide +kernel
theorem dX9_titledShare_1 : decode cX9_titledShare 1 = .ok (.getfield 10, 3) := by decide +kernel
theorem dX9_titledShare_4 : decode cX9_titledShare 4 = .ok (.getfield 195, 3) := by decide +kernel
theorem dX9_titledShare_7 : decode cX9_titledShare 7 = .ok (.ifCond .ne 14, 3) := by decide +kernel
theorem dX9_titledShare_10 : decode cX9_titledShare 10 = .ok (.new 292, 3) := by decide +kernel
theorem dX9_titledShare_13 : decode cX9_titledShare 13 = .ok (.dup, 1) := by decide +kernel
theorem dX9_titledShare_14 : decode cX9_titledShare 14 = .ok (.ldc_w 294, 3) := by decide +kernel
theorem dX9_titledShare_17 : decode cX9_titledShare 17 = .ok (.invokespecial 296, 3) := by decide +kernel
theorem dX9_titledShare_20 : decode cX9_titledShare 20 = .ok (.athrow, 1) := by decide +kernel
theorem dX9_titledShare_21 : decode cX9_titledShare 21 = .ok (.aload_n 0, 1) := by decide +kernel
theorem dX9_titledShare_22 : decode cX9_titledShare 22 = .ok (.getfield 10, 3) := by decide +kernel
theorem dX9_titledShare_25 : decode cX9_titledShare 25 = .ok (.invokevirtual 300, 3) := by decide +kernel
theorem dX9_titledShare_28 : decode cX9_titledShare 28 = .ok (.i2f, 1) := by decide +kernel
theorem dX9_titledShare_29 : decode cX9_titledShare 29 = .ok (.aload_n 0, 1) := by decide +kernel
theorem dX9_titledShare_30 : decode cX9_titledShare 30 = .ok (.getfield 10, 3) := by decide +kernel
theorem dX9_titledShare_33 : decode cX9_titledShare 33 = .ok (.getfield 195, 3) := by decide +kernel
theorem dX9_titledShare_36 : decode cX9_titledShare 36 = .ok (.i2f, 1) := by decide +kernel
theorem dX9_titledShare_37 : decode cX9_titledShare 37 = .ok (.fdiv, 1) := by decide +kernel
theorem dX9_titledShare_38 : decode cX9_titledShare 38 = .ok (.freturn, 1) := by decide +kernel
theorem dX9_account_0 : decode cX9_account 0 = .ok (.iload_n 1, 1) := by decide +kernel
theorem dX9_account_1 : decode cX9_account 1 = .ok (.bipush 13, 2) := by decide +kernel
theorem dX9_account_3 : decode cX9_account 3 = .ok (.invokestatic 111, 3) := by decide +kernel
theorem dX9_account_6 : decode cX9_account 6 = .ok (.ifCond .ne 14, 3) := by decide +kernel
theorem dX9_account_9 : decode cX9_account 9 = .ok (.new 115, 3) := by decide +kernel
theorem dX9_account_12 : decode cX9_account 12 = .ok (.dup, 1) := by decide +kernel
theorem dX9_account_13 : decode cX9_account 13 = .ok (.ldc_w 303, 3) := by decide +kernel
theorem dX9_account_16 : decode cX9_account 16 = .ok (.invokespecial 119, 3) := by decide +kernel
theorem dX9_account_19 : decode cX9_account 19 = .ok (.athrow, 1) := by decide +kernel
theorem dX9_account_20 : decode cX9_account 20 = .ok (.iload_n 1, 1) := by decide +kernel
theorem dX9_account_21 : decode cX9_account 21 = .ok (.bipush 11, 2) := by decide +kernel
theorem dX9_account_23 : decode cX9_account 23 = .ok (.if_icmp .ne 11, 3) := by decide +kernel
theorem dX9_account_26 : decode cX9_account 26 = .ok (.aload_n 0, 1) := by decide +kernel
theorem dX9_account_27 : decode cX9_account 27 = .ok (.getfield 46, 3) := by decide +kernel
theorem dX9_account_30 : decode cX9_account 30 = .ok (.getfield 305, 3) := by decide +kernel
theorem dX9_account_33 : decode cX9_account 33 = .ok (.ireturn, 1) := by decide +kernel
theorem dX9_account_34 : decode cX9_account 34 = .ok (.iload_n 1, 1) := by decide +kernel
theorem dX9_account_35 : decode cX9_account 35 = .ok (.bipush 12, 2) := by decide +kernel
theorem dX9_account_37 : decode cX9_account 37 = .ok (.if_icmp .ne 13, 3) := by decide +kernel
theorem dX9_account_40 : decode cX9_account 40 = .ok (.aload_n 0, 1) := by decide +kernel
theorem dX9_account_41 : decode cX9_account 41 = .ok (.getfield 32, 3) := by decide +kernel
theorem dX9_account_44 : decode cX9_account 44 = .ok (.getfield 307, 3) := by decide +kernel
theorem dX9_account_47 : decode cX9_account 47 = .ok (.goto 11, 3) := by decide +kernel
theorem dX9_account_50 : decode cX9_account 50 = .ok (.aload_n 0, 1) := by decide +kernel
theorem dX9_account_51 : decode cX9_account 51 = .ok (.getfield 10, 3) := by decide +kernel
theorem dX9_account_54 : decode cX9_account 54 = .ok (.iload_n 1, 1) := by decide +kernel
theorem dX9_account_55 : decode cX9_account 55 = .ok (.invokevirtual 310, 3) := by decide +kernel
theorem dX9_account_58 : decode cX9_account 58 = .ok (.ireturn, 1) := by decide +kernel
theorem dX9_isBalanced_0 : decode cX9_isBalanced 0 = .ok (.aload_n 0, 1) := by decide +kernel
theorem dX9_isBalanced_1 : decode cX9_isBalanced 1 = .ok (.getfield 10, 3) := by decide +kernel
theorem dX9_isBalanced_4 : decode cX9_isBalanced 4 = .ok (.invokevirtual 313, 3) := by decide +kernel
theorem dX9_isBalanced_7 : decode cX9_isBalanced 7 = .ok (.ifCond .eq 34, 3) := by decide +kernel
theorem dX9_isBalanced_10 : decode cX9_isBalanced 10 = .ok (.aload_n 0, 1) := by decide +kernel
theorem dX9_isBalanced_11 : decode cX9_isBalanced 11 = .ok (.getfield 10, 3) := by decide +kernel
theorem dX9_isBalanced_14 : decode cX9_isBalanced 14 = .ok (.invokevirtual 189, 3) := by decide +kernel
theorem dX9_isBalanced_17 : decode cX9_isBalanced 17 = .ok (.aload_n 0, 1) := by decide +kernel
theorem dX9_isBalanced_18 : decode cX9_isBalanced 18 = .ok (.getfield 10, 3) := by decide +kernel
theorem dX9_isBalanced_21 : decode cX9_isBalanced 21 = .ok (.invokevirtual 192, 3) := by decide +kernel
theorem dX9_isBalanced_24 : decode cX9_isBalanced 24 = .ok (.if_icmp .ne 17, 3) := by decide +kernel
theorem dX9_isBalanced_27 : decode cX9_isBalanced 27 = .ok (.aload_n 0, 1) := by decide +kernel
theorem dX9_isBalanced_28 : decode cX9_isBalanced 28 = .ok (.getfield 10, 3) := by decide +kernel
theorem dX9_isBalanced_31 : decode cX9_isBalanced 31 = .ok (.invokevirtual 316, 3) := by decide +kernel
theorem dX9_isBalanced_34 : decode cX9_isBalanced 34 = .ok (.ifCond .eq 7, 3) := by decide +kernel
theorem dX9_isBalanced_37 : decode cX9_isBalanced 37 = .ok (.iconst 1, 1) := by decide +kernel
theorem dX9_isBalanced_38 : decode cX9_isBalanced 38 = .ok (.goto 4, 3) := by decide +kernel
theorem dX9_isBalanced_41 : decode cX9_isBalanced 41 = .ok (.iconst 0, 1) := by decide +kernel
theorem dX9_isBalanced_42 : decode cX9_isBalanced 42 = .ok (.ireturn, 1) := by decide +kernel
theorem dX9_change_0 : decode cX9_change 0 = .ok (.aload_n 0, 1) := by decide +kernel
theorem dX9_change_1 : decode cX9_change 1 = .ok (.getfield 16, 3) := by decide +kernel
theorem dX9_change_4 : decode cX9_change 4 = .ok (.aload_n 0, 1) := by decide +kernel
theorem dX9_change_5 : decode cX9_change 5 = .ok (.getfield 10, 3) := by decide +kernel
theorem dX9_change_8 : decode cX9_change 8 = .ok (.invokevirtual 227, 3) := by decide +kernel
theorem dX9_change_11 : decode cX9_change 11 = .ok (.aload_n 0, 1) := by decide +kernel
theorem dX9_change_12 : decode cX9_change 12 = .ok (.getfield 10, 3) := by decide +kernel
theorem dX9_change_15 : decode cX9_change 15 = .ok (.aload_n 1, 1) := by decide +kernel
theorem dX9_change_16 : decode cX9_change 16 = .ok (.iload_n 2, 1) := by decide +kernel
theorem dX9_change_17 : decode cX9_change 17 = .ok (.iload_n 3, 1) := by decide +kernel
theorem dX9_change_18 : decode cX9_change 18 = .ok (.iload 4, 2) := by decide +kernel
theorem dX9_change_20 : decode cX9_change 20 = .ok (.invokevirtual 329, 3) := by decide +kernel
theorem dX9_change_23 : decode cX9_change 23 = .ok (.istore 5, 2) := by decide +kernel
theorem dX9_change_25 : decode cX9_change 25 = .ok (.iload 5, 2) := by decide +kernel
theorem dX9_change_27 : decode cX9_change 27 = .ok (.iconst (-1), 1) := by decide +kernel
theorem dX9_change_28 : decode cX9_change 28 = .ok (.if_icmp .ne 25, 3) := by decide +kernel
theorem dX9_change_31 : decode cX9_change 31 = .ok (.aload_n 0, 1) := by decide +kernel
theorem dX9_change_32 : decode cX9_change 32 = .ok (.getfield 39, 3) := by decide +kernel
theorem dX9_change_35 : decode cX9_change 35 = .ok (.aload_n 0, 1) := by decide +kernel
theorem dX9_change_36 : decode cX9_change 36 = .ok (.getfield 10, 3) := by decide +kernel
theorem dX9_change_39 : decode cX9_change 39 = .ok (.invokevirtual 332, 3) := by decide +kernel
theorem dX9_change_42 : decode cX9_change 42 = .ok (.new 247, 3) := by decide +kernel
theorem dX9_change_45 : decode cX9_change 45 = .ok (.dup, 1) := by decide +kernel
theorem dX9_change_46 : decode cX9_change 46 = .ok (.ldc_w 335, 3) := by decide +kernel
theorem dX9_change_49 : decode cX9_change 49 = .ok (.invokespecial 251, 3) := by decide +kernel
theorem dX9_change_52 : decode cX9_change 52 = .ok (.athrow, 1) := by decide +kernel
theorem dX9_change_53 : decode cX9_change 53 = .ok (.aload_n 0, 1) := by decide +kernel
theorem dX9_change_54 : decode cX9_change 54 = .ok (.getfield 32, 3) := by decide +kernel
theorem dX9_change_57 : decode cX9_change 57 = .ok (.aload_n 0, 1) := by decide +kernel
theorem dX9_change_58 : decode cX9_change 58 = .ok (.getfield 16, 3) := by decide +kernel
theorem dX9_change_61 : decode cX9_change 61 = .ok (.invokevirtual 92, 3) := by decide +kernel
theorem dX9_change_64 : decode cX9_change 64 = .ok (.iload 5, 2) := by decide +kernel
theorem dX9_change_66 : decode cX9_change 66 = .ok (.ireturn, 1) := by decide +kernel
theorem dX9_cloudsImagined_0 : decode cX9_cloudsImagined 0 = .ok (.aload_n 0, 1) := by decide +kernel
theorem dX9_cloudsImagined_1 : decode cX9_cloudsImagined 1 = .ok (.getfield 19, 3) := by decide +kernel
theorem dX9_cloudsImagined_4 : decode cX9_cloudsImagined 4 = .ok (.aload_n 0, 1) := by decide +kernel
theorem dX9_cloudsImagined_5 : decode cX9_cloudsImagined 5 = .ok (.getfield 10, 3) := by decide +kernel
theorem dX9_cloudsImagined_8 : decode cX9_cloudsImagined 8 = .ok (.invokevirtual 227, 3) := by decide +kernel
theorem dX9_cloudsImagined_11 : decode cX9_cloudsImagined 11 = .ok (.iload_n 2, 1) := by decide +kernel
theorem dX9_cloudsImagined_12 : decode cX9_cloudsImagined 12 = .ok (.ifCond .eq 12, 3) := by decide +kernel
theorem dX9_cloudsImagined_15 : decode cX9_cloudsImagined 15 = .ok (.aload_n 0, 1) := by decide +kernel
theorem dX9_cloudsImagined_16 : decode cX9_cloudsImagined 16 = .ok (.getfield 19, 3) := by decide +kernel
theorem dX9_cloudsImagined_19 : decode cX9_cloudsImagined 19 = .ok (.iload_n 2, 1) := by decide +kernel
theorem dX9_cloudsImagined_20 : decode cX9_cloudsImagined 20 = .ok (.invokevirtual 337, 3) := by decide +kernel
theorem dX9_cloudsImagined_23 : decode cX9_cloudsImagined 23 = .ok (.pop, 1) := by decide +kernel
theorem dX9_cloudsImagined_24 : decode cX9_cloudsImagined 24 = .ok (.aload_n 0, 1) := by decide +kernel
theorem dX9_cloudsImagined_25 : decode cX9_cloudsImagined 25 = .ok (.getfield 19, 3) := by decide +kernel
theorem dX9_cloudsImagined_28 : decode cX9_cloudsImagined 28 = .ok (.invokevirtual 96, 3) := by decide +kernel
theorem dX9_cloudsImagined_31 : decode cX9_cloudsImagined 31 = .ok (.pop, 1) := by decide +kernel
theorem dX9_cloudsImagined_32 : decode cX9_cloudsImagined 32 = .ok (.aload_n 0, 1) := by decide +kernel
theorem dX9_cloudsImagined_33 : decode cX9_cloudsImagined 33 = .ok (.getfield 19, 3) := by decide +kernel
theorem dX9_cloudsImagined_36 : decode cX9_cloudsImagined 36 = .ok (.iload_n 1, 1) := by decide +kernel
theorem dX9_cloudsImagined_37 : decode cX9_cloudsImagined 37 = .ok (.invokevirtual 150, 3) := by decide +kernel
theorem dX9_cloudsImagined_40 : decode cX9_cloudsImagined 40 = .ok (.ireturn, 1) := by decide +kernel
theorem dX9_demandOwner_0 : decode cX9_demandOwner 0 = .ok (.iload_n 0, 1) := by decide +kernel
theorem dX9_demandOwner_1 : decode cX9_demandOwner 1 = .ok (.invokestatic 340, 3) := by decide +kernel
theorem dX9_demandOwner_4 : decode cX9_demandOwner 4 = .ok (.ifCond .ne 14, 3) := by decide +kernel
theorem dX9_demandOwner_7 : decode cX9_demandOwner 7 = .ok (.new 104, 3) := by decide +kernel
theorem dX9_demandOwner_10 : decode cX9_demandOwner 10 = .ok (.dup, 1) := by decide +kernel
theorem dX9_demandOwner_11 : decode cX9_demandOwner 11 = .ok (.ldc_w 343, 3) := by decide +kernel
theorem dX9_demandOwner_14 : decode cX9_demandOwner 14 = .ok (.invokespecial 108, 3) := by decide +kernel
theorem dX9_demandOwner_17 : decode cX9_demandOwner 17 = .ok (.athrow, 1) := by decide +kernel
theorem dX9_demandOwner_18 : decode cX9_demandOwner 18 = .ok (.return_, 1) := by decide +kernel
theorem dJx29ce0_ordinal_8abf5_0 : decode cJx29ce0_ordinal_8abf5 0 = .ok (.aload_n 0, 1) := by decide +kernel
theorem dJx29ce0_ordinal_8abf5_1 : decode cJx29ce0_ordinal_8abf5 1 = .ok (.getfield 7, 3) := by decide +kernel
theorem dJx29ce0_ordinal_8abf5_4 : decode cJx29ce0_ordinal_8abf5 4 = .ok (.ireturn, 1) := by decide +kernel
theorem dJ0_init_81219_0 : decode cJ0_init_81219 0 = .ok (.aload_n 0, 1) := by decide +kernel
theorem dJ0_init_81219_1 : decode cJ0_init_81219 1 = .ok (.aload_n 1, 1) := by decide +kernel
theorem dJ0_init_81219_2 : decode cJ0_init_81219 2 = .ok (.aconst_null, 1) := by decide +kernel
theorem dJ0_init_81219_3 : decode cJ0_init_81219 3 = .ok (.invokespecial 489, 3) := by decide +kernel
theorem dJ0_init_81219_6 : decode cJ0_init_81219 6 = .ok (.return_, 1) := by decide +kernel
theorem dJ0_length_8abf5_0 : decode cJ0_length_8abf5 0 = .ok (.aload_n 0, 1) := by decide +kernel
theorem dJ0_length_8abf5_1 : decode cJ0_length_8abf5 1 = .ok (.getfield 9, 3) := by decide +kernel
theorem dJ0_length_8abf5_4 : decode cJ0_length_8abf5 4 = .ok (.arraylength, 1) := by decide +kernel
theorem dJ0_length_8abf5_5 : decode cJ0_length_8abf5 5 = .ok (.aload_n 0, 1) := by decide +kernel
theorem dJ0_length_8abf5_6 : decode cJ0_length_8abf5 6 = .ok (.invokevirtual 335, 3) := by decide +kernel
theorem dJ0_length_8abf5_9 : decode cJ0_length_8abf5 9 = .ok (.ishr, 1) := by decide +kernel
theorem dJ0_length_8abf5_10 : decode cJ0_length_8abf5 10 = .ok (.ireturn, 1) := by decide +kernel
theorem dJ0_charAt_5068e_0 : decode cJ0_charAt_5068e 0 = .ok (.aload_n 0, 1) := by decide +kernel
theorem dJ0_charAt_5068e_1 : decode cJ0_charAt_5068e 1 = .ok (.invokevirtual 492, 3) := by decide +kernel
theorem dJ0_charAt_5068e_4 : decode cJ0_charAt_5068e 4 = .ok (.ifCond .eq 12, 3) := by decide +kernel
theorem dJ0_charAt_5068e_7 : decode cJ0_charAt_5068e 7 = .ok (.aload_n 0, 1) := by decide +kernel
theorem dJ0_charAt_5068e_8 : decode cJ0_charAt_5068e 8 = .ok (.getfield 9, 3) := by decide +kernel
theorem dJ0_charAt_5068e_11 : decode cJ0_charAt_5068e 11 = .ok (.iload_n 1, 1) := by decide +kernel
theorem dJ0_charAt_5068e_12 : decode cJ0_charAt_5068e 12 = .ok (.invokestatic 495, 3) := by decide +kernel
theorem dJ0_charAt_5068e_15 : decode cJ0_charAt_5068e 15 = .ok (.ireturn, 1) := by decide +kernel
theorem dJ0_charAt_5068e_16 : decode cJ0_charAt_5068e 16 = .ok (.aload_n 0, 1) := by decide +kernel
theorem dJ0_charAt_5068e_17 : decode cJ0_charAt_5068e 17 = .ok (.getfield 9, 3) := by decide +kernel
theorem dJ0_charAt_5068e_20 : decode cJ0_charAt_5068e 20 = .ok (.iload_n 1, 1) := by decide +kernel
theorem dJ0_charAt_5068e_21 : decode cJ0_charAt_5068e 21 = .ok (.invokestatic 498, 3) := by decide +kernel
theorem dJ0_charAt_5068e_24 : decode cJ0_charAt_5068e 24 = .ok (.ireturn, 1) := by decide +kernel
theorem dJ0_getBytes_840e7_0 : decode cJ0_getBytes_840e7 0 = .ok (.aload_n 0, 1) := by decide +kernel
theorem dJ0_getBytes_840e7_1 : decode cJ0_getBytes_840e7 1 = .ok (.invokevirtual 335, 3) := by decide +kernel
theorem dJ0_getBytes_840e7_4 : decode cJ0_getBytes_840e7 4 = .ok (.iload_n 3, 1) := by decide +kernel
theorem dJ0_getBytes_840e7_5 : decode cJ0_getBytes_840e7 5 = .ok (.if_icmp .ne 23, 3) := by decide +kernel
theorem dJ0_getBytes_840e7_8 : decode cJ0_getBytes_840e7 8 = .ok (.aload_n 0, 1) := by decide +kernel
theorem dJ0_getBytes_840e7_9 : decode cJ0_getBytes_840e7 9 = .ok (.getfield 9, 3) := by decide +kernel
theorem dJ0_getBytes_840e7_12 : decode cJ0_getBytes_840e7 12 = .ok (.iconst 0, 1) := by decide +kernel
theorem dJ0_getBytes_840e7_13 : decode cJ0_getBytes_840e7 13 = .ok (.aload_n 1, 1) := by decide +kernel
theorem dJ0_getBytes_840e7_14 : decode cJ0_getBytes_840e7 14 = .ok (.iload_n 2, 1) := by decide +kernel
theorem dJ0_getBytes_840e7_15 : decode cJ0_getBytes_840e7 15 = .ok (.iload_n 3, 1) := by decide +kernel
theorem dJ0_getBytes_840e7_16 : decode cJ0_getBytes_840e7 16 = .ok (.ishl, 1) := by decide +kernel
theorem dJ0_getBytes_840e7_17 : decode cJ0_getBytes_840e7 17 = .ok (.aload_n 0, 1) := by decide +kernel
theorem dJ0_getBytes_840e7_18 : decode cJ0_getBytes_840e7 18 = .ok (.getfield 9, 3) := by decide +kernel
theorem dJ0_getBytes_840e7_21 : decode cJ0_getBytes_840e7 21 = .ok (.arraylength, 1) := by decide +kernel
theorem dJ0_getBytes_840e7_22 : decode cJ0_getBytes_840e7 22 = .ok (.invokestatic 212, 3) := by decide +kernel
theorem dJ0_getBytes_840e7_25 : decode cJ0_getBytes_840e7 25 = .ok (.goto 18, 3) := by decide +kernel
theorem dJ0_getBytes_840e7_28 : decode cJ0_getBytes_840e7 28 = .ok (.aload_n 0, 1) := by decide +kernel
theorem dJ0_getBytes_840e7_29 : decode cJ0_getBytes_840e7 29 = .ok (.getfield 9, 3) := by decide +kernel
theorem dJ0_getBytes_840e7_32 : decode cJ0_getBytes_840e7 32 = .ok (.iconst 0, 1) := by decide +kernel
theorem dJ0_getBytes_840e7_33 : decode cJ0_getBytes_840e7 33 = .ok (.aload_n 1, 1) := by decide +kernel
theorem dJ0_getBytes_840e7_34 : decode cJ0_getBytes_840e7 34 = .ok (.iload_n 2, 1) := by decide +kernel
theorem dJ0_getBytes_840e7_35 : decode cJ0_getBytes_840e7 35 = .ok (.aload_n 0, 1) := by decide +kernel
theorem dJ0_getBytes_840e7_36 : decode cJ0_getBytes_840e7 36 = .ok (.getfield 9, 3) := by decide +kernel
theorem dJ0_getBytes_840e7_39 : decode cJ0_getBytes_840e7 39 = .ok (.arraylength, 1) := by decide +kernel
theorem dJ0_getBytes_840e7_40 : decode cJ0_getBytes_840e7 40 = .ok (.invokestatic 106, 3) := by decide +kernel
theorem dJ0_getBytes_840e7_43 : decode cJ0_getBytes_840e7 43 = .ok (.return_, 1) := by decide +kernel
theorem dJ0_init_db425_0 : decode cJ0_init_db425 0 = .ok (.aload_n 0, 1) := by decide +kernel
theorem dJ0_init_db425_1 : decode cJ0_init_db425 1 = .ok (.invokespecial 1, 3) := by decide +kernel
theorem dJ0_init_db425_4 : decode cJ0_init_db425 4 = .ok (.aload_n 1, 1) := by decide +kernel
theorem dJ0_init_db425_5 : decode cJ0_init_db425 5 = .ok (.invokevirtual 552, 3) := by decide +kernel
theorem dJ0_init_db425_8 : decode cJ0_init_db425 8 = .ok (.astore_n 3, 1) := by decide +kernel
theorem dJ0_init_db425_9 : decode cJ0_init_db425 9 = .ok (.aload_n 1, 1) := by decide +kernel
theorem dJ0_init_db425_10 : decode cJ0_init_db425 10 = .ok (.invokevirtual 549, 3) := by decide +kernel
theorem dJ0_init_db425_13 : decode cJ0_init_db425 13 = .ok (.istore 4, 2) := by decide +kernel
theorem dJ0_init_db425_15 : decode cJ0_init_db425 15 = .ok (.aload_n 1, 1) := by decide +kernel
theorem dJ0_init_db425_16 : decode cJ0_init_db425 16 = .ok (.invokevirtual 1047, 3) := by decide +kernel
theorem dJ0_init_db425_19 : decode cJ0_init_db425 19 = .ok (.ifCond .eq 22, 3) := by decide +kernel
theorem dJ0_init_db425_22 : decode cJ0_init_db425 22 = .ok (.aload_n 0, 1) := by decide +kernel
theorem dJ0_init_db425_23 : decode cJ0_init_db425 23 = .ok (.iconst 0, 1) := by decide +kernel
theorem dJ0_init_db425_24 : decode cJ0_init_db425 24 = .ok (.putfield 15, 3) := by decide +kernel
theorem dJ0_init_db425_27 : decode cJ0_init_db425 27 = .ok (.aload_n 0, 1) := by decide +kernel
theorem dJ0_init_db425_28 : decode cJ0_init_db425 28 = .ok (.aload_n 3, 1) := by decide +kernel
theorem dJ0_init_db425_29 : decode cJ0_init_db425 29 = .ok (.iconst 0, 1) := by decide +kernel
theorem dJ0_init_db425_30 : decode cJ0_init_db425 30 = .ok (.iload 4, 2) := by decide +kernel
theorem dJ0_init_db425_32 : decode cJ0_init_db425 32 = .ok (.invokestatic 54, 3) := by decide +kernel
theorem dJ0_init_db425_35 : decode cJ0_init_db425 35 = .ok (.putfield 9, 3) := by decide +kernel
theorem dJ0_init_db425_38 : decode cJ0_init_db425 38 = .ok (.goto 59, 3) := by decide +kernel
theorem dJ0_init_db425_41 : decode cJ0_init_db425 41 = .ok (.getstatic 38, 3) := by decide +kernel
theorem dJ0_init_db425_44 : decode cJ0_init_db425 44 = .ok (.ifCond .eq 35, 3) := by decide +kernel
theorem dJ0_init_db425_47 : decode cJ0_init_db425 47 = .ok (.aload_n 1, 1) := by decide +kernel
theorem dJ0_init_db425_48 : decode cJ0_init_db425 48 = .ok (.getfield 1048, 3) := by decide +kernel
theorem dJ0_init_db425_51 : decode cJ0_init_db425 51 = .ok (.ifCond .eq 28, 3) := by decide +kernel
theorem dJ0_init_db425_54 : decode cJ0_init_db425 54 = .ok (.aload_n 0, 1) := by decide +kernel
theorem dJ0_init_db425_55 : decode cJ0_init_db425 55 = .ok (.aload_n 3, 1) := by decide +kernel
theorem dJ0_init_db425_56 : decode cJ0_init_db425 56 = .ok (.iconst 0, 1) := by decide +kernel
theorem dJ0_init_db425_57 : decode cJ0_init_db425 57 = .ok (.iload 4, 2) := by decide +kernel
theorem dJ0_init_db425_59 : decode cJ0_init_db425 59 = .ok (.invokestatic 1051, 3) := by decide +kernel
theorem dJ0_init_db425_62 : decode cJ0_init_db425 62 = .ok (.putfield 9, 3) := by decide +kernel
theorem dJ0_init_db425_65 : decode cJ0_init_db425 65 = .ok (.aload_n 0, 1) := by decide +kernel
theorem dJ0_init_db425_66 : decode cJ0_init_db425 66 = .ok (.aload_n 0, 1) := by decide +kernel
theorem dJ0_init_db425_67 : decode cJ0_init_db425 67 = .ok (.getfield 9, 3) := by decide +kernel
theorem dJ0_init_db425_70 : decode cJ0_init_db425 70 = .ok (.iload 4, 2) := by decide +kernel
theorem dJ0_init_db425_72 : decode cJ0_init_db425 72 = .ok (.invokestatic 47, 3) := by decide +kernel
theorem dJ0_init_db425_75 : decode cJ0_init_db425 75 = .ok (.putfield 15, 3) := by decide +kernel
theorem dJ0_init_db425_78 : decode cJ0_init_db425 78 = .ok (.return_, 1) := by decide +kernel
theorem dJ0_init_db425_79 : decode cJ0_init_db425 79 = .ok (.aload_n 0, 1) := by decide +kernel
theorem dJ0_init_db425_80 : decode cJ0_init_db425 80 = .ok (.iconst 1, 1) := by decide +kernel
theorem dJ0_init_db425_81 : decode cJ0_init_db425 81 = .ok (.putfield 15, 3) := by decide +kernel
theorem dJ0_init_db425_84 : decode cJ0_init_db425 84 = .ok (.aload_n 0, 1) := by decide +kernel
theorem dJ0_init_db425_85 : decode cJ0_init_db425 85 = .ok (.aload_n 3, 1) := by decide +kernel
theorem dJ0_init_db425_86 : decode cJ0_init_db425 86 = .ok (.iconst 0, 1) := by decide +kernel
theorem dJ0_init_db425_87 : decode cJ0_init_db425 87 = .ok (.iload 4, 2) := by decide +kernel
theorem dJ0_init_db425_89 : decode cJ0_init_db425 89 = .ok (.iconst 1, 1) := by decide +kernel
theorem dJ0_init_db425_90 : decode cJ0_init_db425 90 = .ok (.ishl, 1) := by decide +kernel
theorem dJ0_init_db425_91 : decode cJ0_init_db425 91 = .ok (.invokestatic 54, 3) := by decide +kernel
theorem dJ0_init_db425_94 : decode cJ0_init_db425 94 = .ok (.putfield 9, 3) := by decide +kernel
theorem dJ0_init_db425_97 : decode cJ0_init_db425 97 = .ok (.return_, 1) := by decide +kernel
theorem dJ0_coder_7d493_0 : decode cJ0_coder_7d493 0 = .ok (.getstatic 38, 3) := by decide +kernel
theorem dJ0_coder_7d493_3 : decode cJ0_coder_7d493 3 = .ok (.ifCond .eq 10, 3) := by decide +kernel
theorem dJ0_coder_7d493_6 : decode cJ0_coder_7d493 6 = .ok (.aload_n 0, 1) := by decide +kernel
theorem dJ0_coder_7d493_7 : decode cJ0_coder_7d493 7 = .ok (.getfield 15, 3) := by decide +kernel
theorem dJ0_coder_7d493_10 : decode cJ0_coder_7d493 10 = .ok (.goto 4, 3) := by decide +kernel
theorem dJ0_coder_7d493_13 : decode cJ0_coder_7d493 13 = .ok (.iconst 1, 1) := by decide +kernel
theorem dJ0_coder_7d493_14 : decode cJ0_coder_7d493 14 = .ok (.ireturn, 1) := by decide +kernel
theorem dJ0_isLatin1_aae02_0 : decode cJ0_isLatin1_aae02 0 = .ok (.getstatic 38, 3) := by decide +kernel
theorem dJ0_isLatin1_aae02_3 : decode cJ0_isLatin1_aae02 3 = .ok (.ifCond .eq 14, 3) := by decide +kernel
theorem dJ0_isLatin1_aae02_6 : decode cJ0_isLatin1_aae02 6 = .ok (.aload_n 0, 1) := by decide +kernel
theorem dJ0_isLatin1_aae02_7 : decode cJ0_isLatin1_aae02 7 = .ok (.getfield 15, 3) := by decide +kernel
theorem dJ0_isLatin1_aae02_10 : decode cJ0_isLatin1_aae02 10 = .ok (.ifCond .ne 7, 3) := by decide +kernel
theorem dJ0_isLatin1_aae02_13 : decode cJ0_isLatin1_aae02 13 = .ok (.iconst 1, 1) := by decide +kernel
theorem dJ0_isLatin1_aae02_14 : decode cJ0_isLatin1_aae02 14 = .ok (.goto 4, 3) := by decide +kernel
theorem dJ0_isLatin1_aae02_17 : decode cJ0_isLatin1_aae02 17 = .ok (.iconst 0, 1) := by decide +kernel
theorem dJ0_isLatin1_aae02_18 : decode cJ0_isLatin1_aae02 18 = .ok (.ireturn, 1) := by decide +kernel
theorem dJ0_checkIndex_df160_0 : decode cJ0_checkIndex_df160 0 = .ok (.iload_n 0, 1) := by decide +kernel
theorem dJ0_checkIndex_df160_1 : decode cJ0_checkIndex_df160 1 = .ok (.iload_n 1, 1) := by decide +kernel
theorem dJ0_checkIndex_df160_2 : decode cJ0_checkIndex_df160 2 = .ok (.getstatic 1053, 3) := by decide +kernel
theorem dJ0_checkIndex_df160_5 : decode cJ0_checkIndex_df160 5 = .ok (.invokestatic 1059, 3) := by decide +kernel
theorem dJ0_checkIndex_df160_8 : decode cJ0_checkIndex_df160 8 = .ok (.pop, 1) := by decide +kernel
theorem dJ0_checkIndex_df160_9 : decode cJ0_checkIndex_df160 9 = .ok (.return_, 1) := by decide +kernel
theorem dJ0_checkBoundsOffCount_cabcc_0 : decode cJ0_checkBoundsOffCount_cabcc 0 = .ok (.iload_n 0, 1) := by decide +kernel
theorem dJ0_checkBoundsOffCount_cabcc_1 : decode cJ0_checkBoundsOffCount_cabcc 1 = .ok (.iload_n 1, 1) := by decide +kernel
theorem dJ0_checkBoundsOffCount_cabcc_2 : decode cJ0_checkBoundsOffCount_cabcc 2 = .ok (.iload_n 2, 1) := by decide +kernel
theorem dJ0_checkBoundsOffCount_cabcc_3 : decode cJ0_checkBoundsOffCount_cabcc 3 = .ok (.getstatic 1053, 3) := by decide +kernel
theorem dJ0_checkBoundsOffCount_cabcc_6 : decode cJ0_checkBoundsOffCount_cabcc 6 = .ok (.invokestatic 1065, 3) := by decide +kernel
theorem dJ0_checkBoundsOffCount_cabcc_9 : decode cJ0_checkBoundsOffCount_cabcc 9 = .ok (.ireturn, 1) := by decide +kernel
theorem dJ0_checkBoundsBeginEnd_23922_0 : decode cJ0_checkBoundsBeginEnd_23922 0 = .ok (.iload_n 0, 1) := by decide +kernel
theorem dJ0_checkBoundsBeginEnd_23922_1 : decode cJ0_checkBoundsBeginEnd_23922 1 = .ok (.iload_n 1, 1) := by decide +kernel
theorem dJ0_checkBoundsBeginEnd_23922_2 : decode cJ0_checkBoundsBeginEnd_23922 2 = .ok (.iload_n 2, 1) := by decide +kernel
theorem dJ0_checkBoundsBeginEnd_23922_3 : decode cJ0_checkBoundsBeginEnd_23922 3 = .ok (.getstatic 1053, 3) := by decide +kernel
theorem dJ0_checkBoundsBeginEnd_23922_6 : decode cJ0_checkBoundsBeginEnd_23922 6 = .ok (.invokestatic 1062, 3) := by decide +kernel
theorem dJ0_checkBoundsBeginEnd_23922_9 : decode cJ0_checkBoundsBeginEnd_23922 9 = .ok (.pop, 1) := by decide +kernel
theorem dJ0_checkBoundsBeginEnd_23922_10 : decode cJ0_checkBoundsBeginEnd_23922 10 = .ok (.return_, 1) := by decide +kernel
theorem dJ1_charAt_3b067_0 : decode cJ1_charAt_3b067 0 = .ok (.iload_n 1, 1) := by decide +kernel
theorem dJ1_charAt_3b067_1 : decode cJ1_charAt_3b067 1 = .ok (.aload_n 0, 1) := by decide +kernel
theorem dJ1_charAt_3b067_2 : decode cJ1_charAt_3b067 2 = .ok (.arraylength, 1) := by decide +kernel
theorem dJ1_charAt_3b067_3 : decode cJ1_charAt_3b067 3 = .ok (.invokestatic 9, 3) := by decide +kernel
theorem dJ1_charAt_3b067_6 : decode cJ1_charAt_3b067 6 = .ok (.aload_n 0, 1) := by decide +kernel
theorem dJ1_charAt_3b067_7 : decode cJ1_charAt_3b067 7 = .ok (.iload_n 1, 1) := by decide +kernel
theorem dJ1_charAt_3b067_8 : decode cJ1_charAt_3b067 8 = .ok (.baload, 1) := by decide +kernel
theorem dJ1_charAt_3b067_9 : decode cJ1_charAt_3b067 9 = .ok (.sipush 255, 3) := by decide +kernel
theorem dJ1_charAt_3b067_12 : decode cJ1_charAt_3b067 12 = .ok (.iand, 1) := by decide +kernel
theorem dJ1_charAt_3b067_13 : decode cJ1_charAt_3b067 13 = .ok (.i2c, 1) := by decide +kernel
theorem dJ1_charAt_3b067_14 : decode cJ1_charAt_3b067 14 = .ok (.ireturn, 1) := by decide +kernel
theorem dJ1_canEncode_fc78d_0 : decode cJ1_canEncode_fc78d 0 = .ok (.iload_n 0, 1) := by decide +kernel
theorem dJ1_canEncode_fc78d_1 : decode cJ1_canEncode_fc78d 1 = .ok (.sipush 255, 3) := by decide +kernel
theorem dJ1_canEncode_fc78d_4 : decode cJ1_canEncode_fc78d 4 = .ok (.if_icmp .gt 7, 3) := by decide +kernel
theorem dJ1_canEncode_fc78d_7 : decode cJ1_canEncode_fc78d 7 = .ok (.iconst 1, 1) := by decide +kernel
theorem dJ1_canEncode_fc78d_8 : decode cJ1_canEncode_fc78d 8 = .ok (.goto 4, 3) := by decide +kernel
theorem dJ1_canEncode_fc78d_11 : decode cJ1_canEncode_fc78d 11 = .ok (.iconst 0, 1) := by decide +kernel
theorem dJ1_canEncode_fc78d_12 : decode cJ1_canEncode_fc78d 12 = .ok (.ireturn, 1) := by decide +kernel
theorem dJ1_fillNull_b72d1_0 : decode cJ1_fillNull_b72d1 0 = .ok (.aload_n 0, 1) := by decide +kernel
theorem dJ1_fillNull_b72d1_1 : decode cJ1_fillNull_b72d1 1 = .ok (.iload_n 1, 1) := by decide +kernel
theorem dJ1_fillNull_b72d1_2 : decode cJ1_fillNull_b72d1 2 = .ok (.iload_n 2, 1) := by decide +kernel
theorem dJ1_fillNull_b72d1_3 : decode cJ1_fillNull_b72d1 3 = .ok (.iconst 0, 1) := by decide +kernel
theorem dJ1_fillNull_b72d1_4 : decode cJ1_fillNull_b72d1 4 = .ok (.invokestatic 236, 3) := by decide +kernel
theorem dJ1_fillNull_b72d1_7 : decode cJ1_fillNull_b72d1 7 = .ok (.return_, 1) := by decide +kernel
theorem dJ1_inflate_0e8fd_0 : decode cJ1_inflate_0e8fd 0 = .ok (.aload_n 0, 1) := by decide +kernel
theorem dJ1_inflate_0e8fd_1 : decode cJ1_inflate_0e8fd 1 = .ok (.iload_n 1, 1) := by decide +kernel
theorem dJ1_inflate_0e8fd_2 : decode cJ1_inflate_0e8fd 2 = .ok (.aload_n 2, 1) := by decide +kernel
theorem dJ1_inflate_0e8fd_3 : decode cJ1_inflate_0e8fd 3 = .ok (.iload_n 3, 1) := by decide +kernel
theorem dJ1_inflate_0e8fd_4 : decode cJ1_inflate_0e8fd 4 = .ok (.iload 4, 2) := by decide +kernel
theorem dJ1_inflate_0e8fd_6 : decode cJ1_inflate_0e8fd 6 = .ok (.invokestatic 240, 3) := by decide +kernel
theorem dJ1_inflate_0e8fd_9 : decode cJ1_inflate_0e8fd 9 = .ok (.return_, 1) := by decide +kernel
theorem dJ3_checkIndex_8e157_0 : decode cJ3_checkIndex_8e157 0 = .ok (.iload_n 0, 1) := by decide +kernel
theorem dJ3_checkIndex_8e157_1 : decode cJ3_checkIndex_8e157 1 = .ok (.ifCond .lt 8, 3) := by decide +kernel
theorem dJ3_checkIndex_8e157_4 : decode cJ3_checkIndex_8e157 4 = .ok (.iload_n 0, 1) := by decide +kernel
theorem dJ3_checkIndex_8e157_5 : decode cJ3_checkIndex_8e157 5 = .ok (.iload_n 1, 1) := by decide +kernel
theorem dJ3_checkIndex_8e157_6 : decode cJ3_checkIndex_8e157 6 = .ok (.if_icmp .lt 10, 3) := by decide +kernel
theorem dJ3_checkIndex_8e157_9 : decode cJ3_checkIndex_8e157 9 = .ok (.aload_n 2, 1) := by decide +kernel
theorem dJ3_checkIndex_8e157_10 : decode cJ3_checkIndex_8e157 10 = .ok (.iload_n 0, 1) := by decide +kernel
theorem dJ3_checkIndex_8e157_11 : decode cJ3_checkIndex_8e157 11 = .ok (.iload_n 1, 1) := by decide +kernel
theorem dJ3_checkIndex_8e157_12 : decode cJ3_checkIndex_8e157 12 = .ok (.invokestatic 95, 3) := by decide +kernel
theorem dJ3_checkIndex_8e157_15 : decode cJ3_checkIndex_8e157 15 = .ok (.athrow, 1) := by decide +kernel
theorem dJ3_checkIndex_8e157_16 : decode cJ3_checkIndex_8e157 16 = .ok (.iload_n 0, 1) := by decide +kernel
theorem dJ3_checkIndex_8e157_17 : decode cJ3_checkIndex_8e157 17 = .ok (.ireturn, 1) := by decide +kernel
theorem dJ3_checkFromToIndex_8c36e_0 : decode cJ3_checkFromToIndex_8c36e 0 = .ok (.iload_n 0, 1) := by decide +kernel
theorem dJ3_checkFromToIndex_8c36e_1 : decode cJ3_checkFromToIndex_8c36e 1 = .ok (.ifCond .lt 13, 3) := by decide +kernel
theorem dJ3_checkFromToIndex_8c36e_4 : decode cJ3_checkFromToIndex_8c36e 4 = .ok (.iload_n 0, 1) := by decide +kernel
theorem dJ3_checkFromToIndex_8c36e_5 : decode cJ3_checkFromToIndex_8c36e 5 = .ok (.iload_n 1, 1) := by decide +kernel
theorem dJ3_checkFromToIndex_8c36e_6 : decode cJ3_checkFromToIndex_8c36e 6 = .ok (.if_icmp .gt 8, 3) := by decide +kernel
theorem dJ3_checkFromToIndex_8c36e_9 : decode cJ3_checkFromToIndex_8c36e 9 = .ok (.iload_n 1, 1) := by decide +kernel
theorem dJ3_checkFromToIndex_8c36e_10 : decode cJ3_checkFromToIndex_8c36e 10 = .ok (.iload_n 2, 1) := by decide +kernel
theorem dJ3_checkFromToIndex_8c36e_11 : decode cJ3_checkFromToIndex_8c36e 11 = .ok (.if_icmp .le 11, 3) := by decide +kernel
theorem dJ3_checkFromToIndex_8c36e_14 : decode cJ3_checkFromToIndex_8c36e 14 = .ok (.aload_n 3, 1) := by decide +kernel
theorem dJ3_checkFromToIndex_8c36e_15 : decode cJ3_checkFromToIndex_8c36e 15 = .ok (.iload_n 0, 1) := by decide +kernel
theorem dJ3_checkFromToIndex_8c36e_16 : decode cJ3_checkFromToIndex_8c36e 16 = .ok (.iload_n 1, 1) := by decide +kernel
theorem dJ3_checkFromToIndex_8c36e_17 : decode cJ3_checkFromToIndex_8c36e 17 = .ok (.iload_n 2, 1) := by decide +kernel
theorem dJ3_checkFromToIndex_8c36e_18 : decode cJ3_checkFromToIndex_8c36e 18 = .ok (.invokestatic 99, 3) := by decide +kernel
theorem dJ3_checkFromToIndex_8c36e_21 : decode cJ3_checkFromToIndex_8c36e 21 = .ok (.athrow, 1) := by decide +kernel
theorem dJ3_checkFromToIndex_8c36e_22 : decode cJ3_checkFromToIndex_8c36e 22 = .ok (.iload_n 0, 1) := by decide +kernel
theorem dJ3_checkFromToIndex_8c36e_23 : decode cJ3_checkFromToIndex_8c36e 23 = .ok (.ireturn, 1) := by decide +kernel
theorem dJ3_checkFromIndexSize_8c36e_0 : decode cJ3_checkFromIndexSize_8c36e 0 = .ok (.iload_n 2, 1) := by decide +kernel
theorem dJ3_checkFromIndexSize_8c36e_1 : decode cJ3_checkFromIndexSize_8c36e 1 = .ok (.iload_n 0, 1) := by decide +kernel
theorem dJ3_checkFromIndexSize_8c36e_2 : decode cJ3_checkFromIndexSize_8c36e 2 = .ok (.ior, 1) := by decide +kernel
theorem dJ3_checkFromIndexSize_8c36e_3 : decode cJ3_checkFromIndexSize_8c36e 3 = .ok (.iload_n 1, 1) := by decide +kernel
theorem dJ3_checkFromIndexSize_8c36e_4 : decode cJ3_checkFromIndexSize_8c36e 4 = .ok (.ior, 1) := by decide +kernel
theorem dJ3_checkFromIndexSize_8c36e_5 : decode cJ3_checkFromIndexSize_8c36e 5 = .ok (.ifCond .lt 10, 3) := by decide +kernel
theorem dJ3_checkFromIndexSize_8c36e_8 : decode cJ3_checkFromIndexSize_8c36e 8 = .ok (.iload_n 1, 1) := by decide +kernel
theorem dJ3_checkFromIndexSize_8c36e_9 : decode cJ3_checkFromIndexSize_8c36e 9 = .ok (.iload_n 2, 1) := by decide +kernel
theorem dJ3_checkFromIndexSize_8c36e_10 : decode cJ3_checkFromIndexSize_8c36e 10 = .ok (.iload_n 0, 1) := by decide +kernel
theorem dJ3_checkFromIndexSize_8c36e_11 : decode cJ3_checkFromIndexSize_8c36e 11 = .ok (.isub, 1) := by decide +kernel
theorem dJ3_checkFromIndexSize_8c36e_12 : decode cJ3_checkFromIndexSize_8c36e 12 = .ok (.if_icmp .le 11, 3) := by decide +kernel
theorem dJ3_checkFromIndexSize_8c36e_15 : decode cJ3_checkFromIndexSize_8c36e 15 = .ok (.aload_n 3, 1) := by decide +kernel
theorem dJ3_checkFromIndexSize_8c36e_16 : decode cJ3_checkFromIndexSize_8c36e 16 = .ok (.iload_n 0, 1) := by decide +kernel
theorem dJ3_checkFromIndexSize_8c36e_17 : decode cJ3_checkFromIndexSize_8c36e 17 = .ok (.iload_n 1, 1) := by decide +kernel
theorem dJ3_checkFromIndexSize_8c36e_18 : decode cJ3_checkFromIndexSize_8c36e 18 = .ok (.iload_n 2, 1) := by decide +kernel
theorem dJ3_checkFromIndexSize_8c36e_19 : decode cJ3_checkFromIndexSize_8c36e 19 = .ok (.invokestatic 103, 3) := by decide +kernel
theorem dJ3_checkFromIndexSize_8c36e_22 : decode cJ3_checkFromIndexSize_8c36e 22 = .ok (.athrow, 1) := by decide +kernel
theorem dJ3_checkFromIndexSize_8c36e_23 : decode cJ3_checkFromIndexSize_8c36e 23 = .ok (.iload_n 0, 1) := by decide +kernel
theorem dJ3_checkFromIndexSize_8c36e_24 : decode cJ3_checkFromIndexSize_8c36e 24 = .ok (.ireturn, 1) := by decide +kernel
