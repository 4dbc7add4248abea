theorem dX0_init_0 : decode cX0_init 0 = .ok (.aload_n 0, 1) := by decide +kernel
theorem dX0_init_1 : decode cX0_init 1 = .ok (.invokespecial 1, 3) := by decide +kernel
theorem dX0_init_4 : decode cX0_init 4 = .ok (.aload_n 0, 1) := by decide +kernel
theorem dX0_init_5 : decode cX0_init 5 = .ok (.new 7, 3) := by decide +kernel
theorem dX0_init_8 : decode cX0_init 8 = .ok (.dup, 1) := by decide +kernel
theorem dX0_init_9 : decode cX0_init 9 = .ok (.invokespecial 9, 3) := by decide +kernel
theorem dX0_init_12 : decode cX0_init 12 = .ok (.putfield 10, 3) := by decide +kernel
theorem dX0_init_15 : decode cX0_init 15 = .ok (.aload_n 0, 1) := by decide +kernel
theorem dX0_init_16 : decode cX0_init 16 = .ok (.new 16, 3) := by decide +kernel
theorem dX0_init_19 : decode cX0_init 19 = .ok (.dup, 1) := by decide +kernel
theorem dX0_init_20 : decode cX0_init 20 = .ok (.invokespecial 18, 3) := by decide +kernel
theorem dX0_init_23 : decode cX0_init 23 = .ok (.putfield 19, 3) := by decide +kernel
theorem dX0_init_26 : decode cX0_init 26 = .ok (.iload_n 1, 1) := by decide +kernel
theorem dX0_init_27 : decode cX0_init 27 = .ok (.invokestatic 23, 3) := by decide +kernel
theorem dX0_init_30 : decode cX0_init 30 = .ok (.istore_n 2, 1) := by decide +kernel
theorem dX0_init_31 : decode cX0_init 31 = .ok (.aload_n 0, 1) := by decide +kernel
theorem dX0_init_32 : decode cX0_init 32 = .ok (.iconst 2, 1) := by decide +kernel
theorem dX0_init_33 : decode cX0_init 33 = .ok (.iload_n 2, 1) := by decide +kernel
theorem dX0_init_34 : decode cX0_init 34 = .ok (.imul, 1) := by decide +kernel
theorem dX0_init_35 : decode cX0_init 35 = .ok (.putfield 27, 3) := by decide +kernel
theorem dX0_init_38 : decode cX0_init 38 = .ok (.aload_n 0, 1) := by decide +kernel
theorem dX0_init_39 : decode cX0_init 39 = .ok (.new 31, 3) := by decide +kernel
theorem dX0_init_42 : decode cX0_init 42 = .ok (.dup, 1) := by decide +kernel
theorem dX0_init_43 : decode cX0_init 43 = .ok (.iload_n 2, 1) := by decide +kernel
theorem dX0_init_44 : decode cX0_init 44 = .ok (.invokespecial 33, 3) := by decide +kernel
theorem dX0_init_47 : decode cX0_init 47 = .ok (.putfield 36, 3) := by decide +kernel
theorem dX0_init_50 : decode cX0_init 50 = .ok (.aload_n 0, 1) := by decide +kernel
theorem dX0_init_51 : decode cX0_init 51 = .ok (.new 31, 3) := by decide +kernel
theorem dX0_init_54 : decode cX0_init 54 = .ok (.dup, 1) := by decide +kernel
theorem dX0_init_55 : decode cX0_init 55 = .ok (.iload_n 2, 1) := by decide +kernel
theorem dX0_init_56 : decode cX0_init 56 = .ok (.aload_n 0, 1) := by decide +kernel
theorem dX0_init_57 : decode cX0_init 57 = .ok (.getfield 27, 3) := by decide +kernel
theorem dX0_init_60 : decode cX0_init 60 = .ok (.iadd, 1) := by decide +kernel
theorem dX0_init_61 : decode cX0_init 61 = .ok (.invokespecial 33, 3) := by decide +kernel
theorem dX0_init_64 : decode cX0_init 64 = .ok (.putfield 40, 3) := by decide +kernel
theorem dX0_init_67 : decode cX0_init 67 = .ok (.aload_n 0, 1) := by decide +kernel
theorem dX0_init_68 : decode cX0_init 68 = .ok (.new 43, 3) := by decide +kernel
theorem dX0_init_71 : decode cX0_init 71 = .ok (.dup, 1) := by decide +kernel
theorem dX0_init_72 : decode cX0_init 72 = .ok (.iload_n 2, 1) := by decide +kernel
theorem dX0_init_73 : decode cX0_init 73 = .ok (.iconst 2, 1) := by decide +kernel
theorem dX0_init_74 : decode cX0_init 74 = .ok (.aload_n 0, 1) := by decide +kernel
theorem dX0_init_75 : decode cX0_init 75 = .ok (.getfield 27, 3) := by decide +kernel
theorem dX0_init_78 : decode cX0_init 78 = .ok (.imul, 1) := by decide +kernel
theorem dX0_init_79 : decode cX0_init 79 = .ok (.iadd, 1) := by decide +kernel
theorem dX0_init_80 : decode cX0_init 80 = .ok (.invokespecial 45, 3) := by decide +kernel
theorem dX0_init_83 : decode cX0_init 83 = .ok (.putfield 46, 3) := by decide +kernel
theorem dX0_init_86 : decode cX0_init 86 = .ok (.return_, 1) := by decide +kernel
theorem dX0_key_0 : decode cX0_key 0 = .ok (.aload_n 0, 1) := by decide +kernel
theorem dX0_key_1 : decode cX0_key 1 = .ok (.getfield 10, 3) := by decide +kernel
theorem dX0_key_4 : decode cX0_key 4 = .ok (.lload_n 1, 1) := by decide +kernel
theorem dX0_key_5 : decode cX0_key 5 = .ok (.lload_n 3, 1) := by decide +kernel
theorem dX0_key_6 : decode cX0_key 6 = .ok (.lload 5, 2) := by decide +kernel
theorem dX0_key_8 : decode cX0_key 8 = .ok (.lload 7, 2) := by decide +kernel
theorem dX0_key_10 : decode cX0_key 10 = .ok (.iload 9, 2) := by decide +kernel
theorem dX0_key_12 : decode cX0_key 12 = .ok (.invokevirtual 50, 3) := by decide +kernel
theorem dX0_key_15 : decode cX0_key 15 = .ok (.return_, 1) := by decide +kernel
theorem dX0_empty_0 : decode cX0_empty 0 = .ok (.aload_n 0, 1) := by decide +kernel
theorem dX0_empty_1 : decode cX0_empty 1 = .ok (.getfield 19, 3) := by decide +kernel
theorem dX0_empty_4 : decode cX0_empty 4 = .ok (.invokevirtual 54, 3) := by decide +kernel
theorem dX0_empty_7 : decode cX0_empty 7 = .ok (.return_, 1) := by decide +kernel
theorem dX0_put_0 : decode cX0_put 0 = .ok (.iload_n 3, 1) := by decide +kernel
theorem dX0_put_1 : decode cX0_put 1 = .ok (.iconst 1, 1) := by decide +kernel
theorem dX0_put_2 : decode cX0_put 2 = .ok (.if_icmp .lt 20, 3) := by decide +kernel
theorem dX0_put_5 : decode cX0_put 5 = .ok (.iload_n 3, 1) := by decide +kernel
theorem dX0_put_6 : decode cX0_put 6 = .ok (.bipush 8, 2) := by decide +kernel
theorem dX0_put_8 : decode cX0_put 8 = .ok (.if_icmp .gt 14, 3) := by decide +kernel
theorem dX0_put_11 : decode cX0_put 11 = .ok (.iload_n 3, 1) := by decide +kernel
theorem dX0_put_12 : decode cX0_put 12 = .ok (.aload_n 0, 1) := by decide +kernel
theorem dX0_put_13 : decode cX0_put 13 = .ok (.getfield 19, 3) := by decide +kernel
theorem dX0_put_16 : decode cX0_put 16 = .ok (.invokevirtual 57, 3) := by decide +kernel
theorem dX0_put_19 : decode cX0_put 19 = .ok (.if_icmp .le 5, 3) := by decide +kernel
theorem dX0_put_22 : decode cX0_put 22 = .ok (.iconst 0, 1) := by decide +kernel
theorem dX0_put_23 : decode cX0_put 23 = .ok (.ireturn, 1) := by decide +kernel
theorem dX0_put_24 : decode cX0_put 24 = .ok (.iload_n 3, 1) := by decide +kernel
theorem dX0_put_25 : decode cX0_put 25 = .ok (.iconst 1, 1) := by decide +kernel
theorem dX0_put_26 : decode cX0_put 26 = .ok (.isub, 1) := by decide +kernel
theorem dX0_put_27 : decode cX0_put 27 = .ok (.istore 4, 2) := by decide +kernel
theorem dX0_put_29 : decode cX0_put 29 = .ok (.iload 4, 2) := by decide +kernel
theorem dX0_put_31 : decode cX0_put 31 = .ok (.ifCond .lt 25, 3) := by decide +kernel
theorem dX0_put_34 : decode cX0_put 34 = .ok (.aload_n 0, 1) := by decide +kernel
theorem dX0_put_35 : decode cX0_put 35 = .ok (.getfield 19, 3) := by decide +kernel
theorem dX0_put_38 : decode cX0_put 38 = .ok (.lload_n 1, 1) := by decide +kernel
theorem dX0_put_39 : decode cX0_put 39 = .ok (.bipush 8, 2) := by decide +kernel
theorem dX0_put_41 : decode cX0_put 41 = .ok (.iload 4, 2) := by decide +kernel
theorem dX0_put_43 : decode cX0_put 43 = .ok (.imul, 1) := by decide +kernel
theorem dX0_put_44 : decode cX0_put 44 = .ok (.lushr, 1) := by decide +kernel
theorem dX0_put_45 : decode cX0_put 45 = .ok (.l2i, 1) := by decide +kernel
theorem dX0_put_46 : decode cX0_put 46 = .ok (.i2b, 1) := by decide +kernel
theorem dX0_put_47 : decode cX0_put 47 = .ok (.invokevirtual 61, 3) := by decide +kernel
theorem dX0_put_50 : decode cX0_put 50 = .ok (.iinc 4 (-1), 3) := by decide +kernel
theorem dX0_put_53 : decode cX0_put 53 = .ok (.goto (-24), 3) := by decide +kernel
theorem dX0_put_56 : decode cX0_put 56 = .ok (.iconst 1, 1) := by decide +kernel
theorem dX0_put_57 : decode cX0_put 57 = .ok (.ireturn, 1) := by decide +kernel
theorem dX0_begin_0 : decode cX0_begin 0 = .ok (.aload_n 0, 1) := by decide +kernel
theorem dX0_begin_1 : decode cX0_begin 1 = .ok (.getfield 65, 3) := by decide +kernel
theorem dX0_begin_4 : decode cX0_begin 4 = .ok (.ifCond .ne 13, 3) := by decide +kernel
theorem dX0_begin_7 : decode cX0_begin 7 = .ok (.aload_n 0, 1) := by decide +kernel
theorem dX0_begin_8 : decode cX0_begin 8 = .ok (.getfield 46, 3) := by decide +kernel
theorem dX0_begin_11 : decode cX0_begin 11 = .ok (.invokevirtual 69, 3) := by decide +kernel
theorem dX0_begin_14 : decode cX0_begin 14 = .ok (.ifCond .eq 5, 3) := by decide +kernel
theorem dX0_begin_17 : decode cX0_begin 17 = .ok (.iconst 0, 1) := by decide +kernel
theorem dX0_begin_18 : decode cX0_begin 18 = .ok (.ireturn, 1) := by decide +kernel
theorem dX0_begin_19 : decode cX0_begin 19 = .ok (.aload_n 0, 1) := by decide +kernel
theorem dX0_begin_20 : decode cX0_begin 20 = .ok (.getfield 46, 3) := by decide +kernel
theorem dX0_begin_23 : decode cX0_begin 23 = .ok (.invokevirtual 73, 3) := by decide +kernel
theorem dX0_begin_26 : decode cX0_begin 26 = .ok (.aload_n 0, 1) := by decide +kernel
theorem dX0_begin_27 : decode cX0_begin 27 = .ok (.iconst 1, 1) := by decide +kernel
theorem dX0_begin_28 : decode cX0_begin 28 = .ok (.putfield 65, 3) := by decide +kernel
theorem dX0_begin_31 : decode cX0_begin 31 = .ok (.iconst 1, 1) := by decide +kernel
theorem dX0_begin_32 : decode cX0_begin 32 = .ok (.ireturn, 1) := by decide +kernel
theorem dX0_make_0 : decode cX0_make 0 = .ok (.aload_n 0, 1) := by decide +kernel
theorem dX0_make_1 : decode cX0_make 1 = .ok (.getfield 65, 3) := by decide +kernel
theorem dX0_make_4 : decode cX0_make 4 = .ok (.ifCond .ne 5, 3) := by decide +kernel
theorem dX0_make_7 : decode cX0_make 7 = .ok (.iconst 1, 1) := by decide +kernel
theorem dX0_make_8 : decode cX0_make 8 = .ok (.ireturn, 1) := by decide +kernel
theorem dX0_make_9 : decode cX0_make 9 = .ok (.aload_n 0, 1) := by decide +kernel
theorem dX0_make_10 : decode cX0_make 10 = .ok (.invokevirtual 76, 3) := by decide +kernel
theorem dX0_make_13 : decode cX0_make 13 = .ok (.ifnull 5, 3) := by decide +kernel
theorem dX0_make_16 : decode cX0_make 16 = .ok (.iconst 2, 1) := by decide +kernel
theorem dX0_make_17 : decode cX0_make 17 = .ok (.ireturn, 1) := by decide +kernel
theorem dX0_make_18 : decode cX0_make 18 = .ok (.aload_n 0, 1) := by decide +kernel
theorem dX0_make_19 : decode cX0_make 19 = .ok (.getfield 36, 3) := by decide +kernel
theorem dX0_make_22 : decode cX0_make 22 = .ok (.invokevirtual 80, 3) := by decide +kernel
theorem dX0_make_25 : decode cX0_make 25 = .ok (.ifCond .eq 5, 3) := by decide +kernel
theorem dX0_make_28 : decode cX0_make 28 = .ok (.iconst 3, 1) := by decide +kernel
theorem dX0_make_29 : decode cX0_make 29 = .ok (.ireturn, 1) := by decide +kernel
theorem dX0_make_30 : decode cX0_make 30 = .ok (.aload_n 0, 1) := by decide +kernel
theorem dX0_make_31 : decode cX0_make 31 = .ok (.invokevirtual 81, 3) := by decide +kernel
theorem dX0_make_34 : decode cX0_make 34 = .ok (.astore 4, 2) := by decide +kernel
theorem dX0_make_36 : decode cX0_make 36 = .ok (.aload 4, 2) := by decide +kernel
theorem dX0_make_38 : decode cX0_make 38 = .ok (.lload_n 1, 1) := by decide +kernel
theorem dX0_make_39 : decode cX0_make 39 = .ok (.aload_n 0, 1) := by decide +kernel
theorem dX0_make_40 : decode cX0_make 40 = .ok (.getfield 84, 3) := by decide +kernel
theorem dX0_make_43 : decode cX0_make 43 = .ok (.iload_n 3, 1) := by decide +kernel
theorem dX0_make_44 : decode cX0_make 44 = .ok (.invokevirtual 87, 3) := by decide +kernel
theorem dX0_make_47 : decode cX0_make 47 = .ok (.aload 4, 2) := by decide +kernel
theorem dX0_make_49 : decode cX0_make 49 = .ok (.getfield 92, 3) := by decide +kernel
theorem dX0_make_52 : decode cX0_make 52 = .ok (.aload_n 0, 1) := by decide +kernel
theorem dX0_make_53 : decode cX0_make 53 = .ok (.getfield 10, 3) := by decide +kernel
theorem dX0_make_56 : decode cX0_make 56 = .ok (.invokevirtual 95, 3) := by decide +kernel
theorem dX0_make_59 : decode cX0_make 59 = .ok (.aload 4, 2) := by decide +kernel
theorem dX0_make_61 : decode cX0_make 61 = .ok (.getfield 99, 3) := by decide +kernel
theorem dX0_make_64 : decode cX0_make 64 = .ok (.aload_n 0, 1) := by decide +kernel
theorem dX0_make_65 : decode cX0_make 65 = .ok (.getfield 19, 3) := by decide +kernel
theorem dX0_make_68 : decode cX0_make 68 = .ok (.invokevirtual 102, 3) := by decide +kernel
theorem dX0_make_71 : decode cX0_make 71 = .ok (.aload_n 0, 1) := by decide +kernel
theorem dX0_make_72 : decode cX0_make 72 = .ok (.getfield 36, 3) := by decide +kernel
theorem dX0_make_75 : decode cX0_make 75 = .ok (.aload 4, 2) := by decide +kernel
theorem dX0_make_77 : decode cX0_make 77 = .ok (.invokevirtual 105, 3) := by decide +kernel
theorem dX0_make_80 : decode cX0_make 80 = .ok (.aload_n 0, 1) := by decide +kernel
theorem dX0_make_81 : decode cX0_make 81 = .ok (.getfield 46, 3) := by decide +kernel
theorem dX0_make_84 : decode cX0_make 84 = .ok (.aload 4, 2) := by decide +kernel
theorem dX0_make_86 : decode cX0_make 86 = .ok (.iconst 0, 1) := by decide +kernel
theorem dX0_make_87 : decode cX0_make 87 = .ok (.invokevirtual 109, 3) := by decide +kernel
theorem dX0_make_90 : decode cX0_make 90 = .ok (.iconst 0, 1) := by decide +kernel
theorem dX0_make_91 : decode cX0_make 91 = .ok (.ireturn, 1) := by decide +kernel
theorem dX0_spend_0 : decode cX0_spend 0 = .ok (.aload_n 0, 1) := by decide +kernel
theorem dX0_spend_1 : decode cX0_spend 1 = .ok (.getfield 65, 3) := by decide +kernel
theorem dX0_spend_4 : decode cX0_spend 4 = .ok (.ifCond .ne 5, 3) := by decide +kernel
theorem dX0_spend_7 : decode cX0_spend 7 = .ok (.iconst 1, 1) := by decide +kernel
theorem dX0_spend_8 : decode cX0_spend 8 = .ok (.ireturn, 1) := by decide +kernel
theorem dX0_spend_9 : decode cX0_spend 9 = .ok (.aload_n 0, 1) := by decide +kernel
theorem dX0_spend_10 : decode cX0_spend 10 = .ok (.invokevirtual 76, 3) := by decide +kernel
theorem dX0_spend_13 : decode cX0_spend 13 = .ok (.astore_n 1, 1) := by decide +kernel
theorem dX0_spend_14 : decode cX0_spend 14 = .ok (.aload_n 1, 1) := by decide +kernel
theorem dX0_spend_15 : decode cX0_spend 15 = .ok (.ifnonnull 5, 3) := by decide +kernel
theorem dX0_spend_18 : decode cX0_spend 18 = .ok (.iconst 2, 1) := by decide +kernel
theorem dX0_spend_19 : decode cX0_spend 19 = .ok (.ireturn, 1) := by decide +kernel
theorem dX0_spend_20 : decode cX0_spend 20 = .ok (.aload_n 0, 1) := by decide +kernel
theorem dX0_spend_21 : decode cX0_spend 21 = .ok (.getfield 46, 3) := by decide +kernel
theorem dX0_spend_24 : decode cX0_spend 24 = .ok (.invokevirtual 113, 3) := by decide +kernel
theorem dX0_spend_27 : decode cX0_spend 27 = .ok (.aload_n 0, 1) := by decide +kernel
theorem dX0_spend_28 : decode cX0_spend 28 = .ok (.getfield 27, 3) := by decide +kernel
theorem dX0_spend_31 : decode cX0_spend 31 = .ok (.if_icmp .lt 5, 3) := by decide +kernel
theorem dX0_spend_34 : decode cX0_spend 34 = .ok (.iconst 3, 1) := by decide +kernel
theorem dX0_spend_35 : decode cX0_spend 35 = .ok (.ireturn, 1) := by decide +kernel
theorem dX0_spend_36 : decode cX0_spend 36 = .ok (.aload_n 0, 1) := by decide +kernel
theorem dX0_spend_37 : decode cX0_spend 37 = .ok (.getfield 36, 3) := by decide +kernel
theorem dX0_spend_40 : decode cX0_spend 40 = .ok (.aload_n 0, 1) := by decide +kernel
theorem dX0_spend_41 : decode cX0_spend 41 = .ok (.getfield 10, 3) := by decide +kernel
theorem dX0_spend_44 : decode cX0_spend 44 = .ok (.invokevirtual 116, 3) := by decide +kernel
theorem dX0_spend_47 : decode cX0_spend 47 = .ok (.aload_n 0, 1) := by decide +kernel
theorem dX0_spend_48 : decode cX0_spend 48 = .ok (.getfield 46, 3) := by decide +kernel
theorem dX0_spend_51 : decode cX0_spend 51 = .ok (.aload_n 1, 1) := by decide +kernel
theorem dX0_spend_52 : decode cX0_spend 52 = .ok (.iconst 1, 1) := by decide +kernel
theorem dX0_spend_53 : decode cX0_spend 53 = .ok (.invokevirtual 109, 3) := by decide +kernel
theorem dX0_spend_56 : decode cX0_spend 56 = .ok (.iconst 0, 1) := by decide +kernel
theorem dX0_spend_57 : decode cX0_spend 57 = .ok (.ireturn, 1) := by decide +kernel
theorem dX0_end_0 : decode cX0_end 0 = .ok (.aload_n 0, 1) := by decide +kernel
theorem dX0_end_1 : decode cX0_end 1 = .ok (.getfield 65, 3) := by decide +kernel
theorem dX0_end_4 : decode cX0_end 4 = .ok (.ifCond .ne 5, 3) := by decide +kernel
theorem dX0_end_7 : decode cX0_end 7 = .ok (.iconst (-1), 1) := by decide +kernel
theorem dX0_end_8 : decode cX0_end 8 = .ok (.ireturn, 1) := by decide +kernel
theorem dX0_end_9 : decode cX0_end 9 = .ok (.aload_n 0, 1) := by decide +kernel
theorem dX0_end_10 : decode cX0_end 10 = .ok (.iconst 0, 1) := by decide +kernel
theorem dX0_end_11 : decode cX0_end 11 = .ok (.putfield 65, 3) := by decide +kernel
theorem dX0_end_14 : decode cX0_end 14 = .ok (.aload_n 0, 1) := by decide +kernel
theorem dX0_end_15 : decode cX0_end 15 = .ok (.dup, 1) := by decide +kernel
theorem dX0_end_16 : decode cX0_end 16 = .ok (.getfield 84, 3) := by decide +kernel
theorem dX0_end_19 : decode cX0_end 19 = .ok (.iconst 1, 1) := by decide +kernel
theorem dX0_end_20 : decode cX0_end 20 = .ok (.iadd, 1) := by decide +kernel
theorem dX0_end_21 : decode cX0_end 21 = .ok (.putfield 84, 3) := by decide +kernel
theorem dX0_end_24 : decode cX0_end 24 = .ok (.aload_n 0, 1) := by decide +kernel
theorem dX0_end_25 : decode cX0_end 25 = .ok (.getfield 46, 3) := by decide +kernel
theorem dX0_end_28 : decode cX0_end 28 = .ok (.invokevirtual 119, 3) := by decide +kernel
theorem dX0_end_31 : decode cX0_end 31 = .ok (.ireturn, 1) := by decide +kernel
theorem dX0_back_0 : decode cX0_back 0 = .ok (.aload_n 0, 1) := by decide +kernel
theorem dX0_back_1 : decode cX0_back 1 = .ok (.getfield 46, 3) := by decide +kernel
theorem dX0_back_4 : decode cX0_back 4 = .ok (.invokevirtual 122, 3) := by decide +kernel
theorem dX0_back_7 : decode cX0_back 7 = .ok (.iconst 1, 1) := by decide +kernel
theorem dX0_back_8 : decode cX0_back 8 = .ok (.if_icmp .ge 5, 3) := by decide +kernel
theorem dX0_back_11 : decode cX0_back 11 = .ok (.iconst (-1), 1) := by decide +kernel
theorem dX0_back_12 : decode cX0_back 12 = .ok (.ireturn, 1) := by decide +kernel
theorem dX0_back_13 : decode cX0_back 13 = .ok (.aload_n 0, 1) := by decide +kernel
theorem dX0_back_14 : decode cX0_back 14 = .ok (.getfield 46, 3) := by decide +kernel
theorem dX0_back_17 : decode cX0_back 17 = .ok (.invokevirtual 119, 3) := by decide +kernel
theorem dX0_back_20 : decode cX0_back 20 = .ok (.istore_n 1, 1) := by decide +kernel
theorem dX0_back_21 : decode cX0_back 21 = .ok (.iconst 0, 1) := by decide +kernel
theorem dX0_back_22 : decode cX0_back 22 = .ok (.istore_n 2, 1) := by decide +kernel
theorem dX0_back_23 : decode cX0_back 23 = .ok (.iload_n 2, 1) := by decide +kernel
theorem dX0_back_24 : decode cX0_back 24 = .ok (.iload_n 1, 1) := by decide +kernel
theorem dX0_back_25 : decode cX0_back 25 = .ok (.if_icmp .ge 13, 3) := by decide +kernel
theorem dX0_back_28 : decode cX0_back 28 = .ok (.aload_n 0, 1) := by decide +kernel
theorem dX0_back_29 : decode cX0_back 29 = .ok (.invokevirtual 125, 3) := by decide +kernel
theorem dX0_back_32 : decode cX0_back 32 = .ok (.iinc 2 1, 3) := by decide +kernel
theorem dX0_back_35 : decode cX0_back 35 = .ok (.goto (-12), 3) := by decide +kernel
theorem dX0_back_38 : decode cX0_back 38 = .ok (.aload_n 0, 1) := by decide +kernel
theorem dX0_back_39 : decode cX0_back 39 = .ok (.getfield 46, 3) := by decide +kernel
theorem dX0_back_42 : decode cX0_back 42 = .ok (.invokevirtual 128, 3) := by decide +kernel
theorem dX0_back_45 : decode cX0_back 45 = .ok (.aload_n 0, 1) := by decide +kernel
theorem dX0_back_46 : decode cX0_back 46 = .ok (.getfield 65, 3) := by decide +kernel
theorem dX0_back_49 : decode cX0_back 49 = .ok (.ifCond .eq 11, 3) := by decide +kernel
theorem dX0_back_52 : decode cX0_back 52 = .ok (.aload_n 0, 1) := by decide +kernel
theorem dX0_back_53 : decode cX0_back 53 = .ok (.iconst 0, 1) := by decide +kernel
theorem dX0_back_54 : decode cX0_back 54 = .ok (.putfield 65, 3) := by decide +kernel
theorem dX0_back_57 : decode cX0_back 57 = .ok (.goto 13, 3) := by decide +kernel
theorem dX0_back_60 : decode cX0_back 60 = .ok (.aload_n 0, 1) := by decide +kernel
theorem dX0_back_61 : decode cX0_back 61 = .ok (.dup, 1) := by decide +kernel
theorem dX0_back_62 : decode cX0_back 62 = .ok (.getfield 84, 3) := by decide +kernel
theorem dX0_back_65 : decode cX0_back 65 = .ok (.iconst 1, 1) := by decide +kernel
theorem dX0_back_66 : decode cX0_back 66 = .ok (.isub, 1) := by decide +kernel
theorem dX0_back_67 : decode cX0_back 67 = .ok (.putfield 84, 3) := by decide +kernel
theorem dX0_back_70 : decode cX0_back 70 = .ok (.iload_n 1, 1) := by decide +kernel
theorem dX0_back_71 : decode cX0_back 71 = .ok (.ireturn, 1) := by decide +kernel
theorem dX0_forget_0 : decode cX0_forget 0 = .ok (.aload_n 0, 1) := by decide +kernel
theorem dX0_forget_1 : decode cX0_forget 1 = .ok (.getfield 65, 3) := by decide +kernel
theorem dX0_forget_4 : decode cX0_forget 4 = .ok (.ifCond .eq 15, 3) := by decide +kernel
theorem dX0_forget_7 : decode cX0_forget 7 = .ok (.aload_n 0, 1) := by decide +kernel
theorem dX0_forget_8 : decode cX0_forget 8 = .ok (.getfield 46, 3) := by decide +kernel
theorem dX0_forget_11 : decode cX0_forget 11 = .ok (.invokevirtual 122, 3) := by decide +kernel
theorem dX0_forget_14 : decode cX0_forget 14 = .ok (.iconst 1, 1) := by decide +kernel
theorem dX0_forget_15 : decode cX0_forget 15 = .ok (.isub, 1) := by decide +kernel
theorem dX0_forget_16 : decode cX0_forget 16 = .ok (.goto 10, 3) := by decide +kernel
theorem dX0_forget_19 : decode cX0_forget 19 = .ok (.aload_n 0, 1) := by decide +kernel
theorem dX0_forget_20 : decode cX0_forget 20 = .ok (.getfield 46, 3) := by decide +kernel
theorem dX0_forget_23 : decode cX0_forget 23 = .ok (.invokevirtual 122, 3) := by decide +kernel
theorem dX0_forget_26 : decode cX0_forget 26 = .ok (.istore_n 1, 1) := by decide +kernel
theorem dX0_forget_27 : decode cX0_forget 27 = .ok (.iload_n 1, 1) := by decide +kernel
theorem dX0_forget_28 : decode cX0_forget 28 = .ok (.iconst 1, 1) := by decide +kernel
theorem dX0_forget_29 : decode cX0_forget 29 = .ok (.if_icmp .ge 5, 3) := by decide +kernel
theorem dX0_forget_32 : decode cX0_forget 32 = .ok (.iconst (-1), 1) := by decide +kernel
theorem dX0_forget_33 : decode cX0_forget 33 = .ok (.ireturn, 1) := by decide +kernel
theorem dX0_forget_34 : decode cX0_forget 34 = .ok (.aload_n 0, 1) := by decide +kernel
theorem dX0_forget_35 : decode cX0_forget 35 = .ok (.getfield 46, 3) := by decide +kernel
theorem dX0_forget_38 : decode cX0_forget 38 = .ok (.aload_n 0, 1) := by decide +kernel
theorem dX0_forget_39 : decode cX0_forget 39 = .ok (.getfield 40, 3) := by decide +kernel
theorem dX0_forget_42 : decode cX0_forget 42 = .ok (.invokevirtual 131, 3) := by decide +kernel
theorem dX0_forget_45 : decode cX0_forget 45 = .ok (.ireturn, 1) := by decide +kernel
theorem dX0_has_0 : decode cX0_has 0 = .ok (.aload_n 0, 1) := by decide +kernel
theorem dX0_has_1 : decode cX0_has 1 = .ok (.invokevirtual 76, 3) := by decide +kernel
theorem dX0_has_4 : decode cX0_has 4 = .ok (.ifnull 7, 3) := by decide +kernel
theorem dX0_has_7 : decode cX0_has 7 = .ok (.iconst 1, 1) := by decide +kernel
theorem dX0_has_8 : decode cX0_has 8 = .ok (.goto 4, 3) := by decide +kernel
theorem dX0_has_11 : decode cX0_has 11 = .ok (.iconst 0, 1) := by decide +kernel
theorem dX0_has_12 : decode cX0_has 12 = .ok (.ireturn, 1) := by decide +kernel
theorem dX0_look_0 : decode cX0_look 0 = .ok (.aload_n 0, 1) := by decide +kernel
theorem dX0_look_1 : decode cX0_look 1 = .ok (.invokevirtual 76, 3) := by decide +kernel
theorem dX0_look_4 : decode cX0_look 4 = .ok (.astore_n 2, 1) := by decide +kernel
theorem dX0_look_5 : decode cX0_look 5 = .ok (.aload_n 2, 1) := by decide +kernel
theorem dX0_look_6 : decode cX0_look 6 = .ok (.ifnonnull 7, 3) := by decide +kernel
theorem dX0_look_9 : decode cX0_look 9 = .ok (.ldc2_w 135, 3) := by decide +kernel
theorem dX0_look_12 : decode cX0_look 12 = .ok (.lreturn, 1) := by decide +kernel
theorem dX0_look_13 : decode cX0_look 13 = .ok (.iload_n 1, 1) := by decide +kernel
theorem dX0_look_14 : decode cX0_look 14 = .ok (.tableswitch 63 0 3 #[30, 35, 41, 54], 30) := by decide +kernel
theorem dX0_look_44 : decode cX0_look 44 = .ok (.aload_n 2, 1) := by decide +kernel
theorem dX0_look_45 : decode cX0_look 45 = .ok (.getfield 137, 3) := by decide +kernel
theorem dX0_look_48 : decode cX0_look 48 = .ok (.lreturn, 1) := by decide +kernel
theorem dX0_look_49 : decode cX0_look 49 = .ok (.aload_n 2, 1) := by decide +kernel
theorem dX0_look_50 : decode cX0_look 50 = .ok (.getfield 141, 3) := by decide +kernel
theorem dX0_look_53 : decode cX0_look 53 = .ok (.i2l, 1) := by decide +kernel
theorem dX0_look_54 : decode cX0_look 54 = .ok (.lreturn, 1) := by decide +kernel
theorem dX0_look_55 : decode cX0_look 55 = .ok (.aload_n 2, 1) := by decide +kernel
theorem dX0_look_56 : decode cX0_look 56 = .ok (.getfield 142, 3) := by decide +kernel
theorem dX0_look_59 : decode cX0_look 59 = .ok (.ifCond .eq 7, 3) := by decide +kernel
theorem dX0_look_62 : decode cX0_look 62 = .ok (.lconst 1, 1) := by decide +kernel
theorem dX0_look_63 : decode cX0_look 63 = .ok (.goto 4, 3) := by decide +kernel
theorem dX0_look_66 : decode cX0_look 66 = .ok (.lconst 0, 1) := by decide +kernel
theorem dX0_look_67 : decode cX0_look 67 = .ok (.lreturn, 1) := by decide +kernel
theorem dX0_look_68 : decode cX0_look 68 = .ok (.aload_n 2, 1) := by decide +kernel
theorem dX0_look_69 : decode cX0_look 69 = .ok (.getfield 99, 3) := by decide +kernel
theorem dX0_look_72 : decode cX0_look 72 = .ok (.invokevirtual 145, 3) := by decide +kernel
theorem dX0_look_75 : decode cX0_look 75 = .ok (.i2l, 1) := by decide +kernel
theorem dX0_look_76 : decode cX0_look 76 = .ok (.lreturn, 1) := by decide +kernel
theorem dX0_look_77 : decode cX0_look 77 = .ok (.ldc2_w 135, 3) := by decide +kernel
theorem dX0_look_80 : decode cX0_look 80 = .ok (.lreturn, 1) := by decide +kernel
theorem dX0_byteOf_0 : decode cX0_byteOf 0 = .ok (.aload_n 0, 1) := by decide +kernel
theorem dX0_byteOf_1 : decode cX0_byteOf 1 = .ok (.invokevirtual 76, 3) := by decide +kernel
theorem dX0_byteOf_4 : decode cX0_byteOf 4 = .ok (.astore_n 2, 1) := by decide +kernel
theorem dX0_byteOf_5 : decode cX0_byteOf 5 = .ok (.aload_n 2, 1) := by decide +kernel
theorem dX0_byteOf_6 : decode cX0_byteOf 6 = .ok (.ifnonnull 7, 3) := by decide +kernel
theorem dX0_byteOf_9 : decode cX0_byteOf 9 = .ok (.iconst (-1), 1) := by decide +kernel
theorem dX0_byteOf_10 : decode cX0_byteOf 10 = .ok (.goto 11, 3) := by decide +kernel
theorem dX0_byteOf_13 : decode cX0_byteOf 13 = .ok (.aload_n 2, 1) := by decide +kernel
theorem dX0_byteOf_14 : decode cX0_byteOf 14 = .ok (.getfield 99, 3) := by decide +kernel
theorem dX0_byteOf_17 : decode cX0_byteOf 17 = .ok (.iload_n 1, 1) := by decide +kernel
theorem dX0_byteOf_18 : decode cX0_byteOf 18 = .ok (.invokevirtual 148, 3) := by decide +kernel
theorem dX0_byteOf_21 : decode cX0_byteOf 21 = .ok (.ireturn, 1) := by decide +kernel
theorem dX0_count_0 : decode cX0_count 0 = .ok (.iload_n 1, 1) := by decide +kernel
theorem dX0_count_1 : decode cX0_count 1 = .ok (.tableswitch 77 0 4 #[35, 40, 48, 56, 64], 35) := by decide +kernel
theorem dX0_count_36 : decode cX0_count 36 = .ok (.aload_n 0, 1) := by decide +kernel
theorem dX0_count_37 : decode cX0_count 37 = .ok (.getfield 84, 3) := by decide +kernel
theorem dX0_count_40 : decode cX0_count 40 = .ok (.ireturn, 1) := by decide +kernel
theorem dX0_count_41 : decode cX0_count 41 = .ok (.aload_n 0, 1) := by decide +kernel
theorem dX0_count_42 : decode cX0_count 42 = .ok (.getfield 36, 3) := by decide +kernel
theorem dX0_count_45 : decode cX0_count 45 = .ok (.invokevirtual 151, 3) := by decide +kernel
theorem dX0_count_48 : decode cX0_count 48 = .ok (.ireturn, 1) := by decide +kernel
theorem dX0_count_49 : decode cX0_count 49 = .ok (.aload_n 0, 1) := by decide +kernel
theorem dX0_count_50 : decode cX0_count 50 = .ok (.getfield 46, 3) := by decide +kernel
theorem dX0_count_53 : decode cX0_count 53 = .ok (.invokevirtual 113, 3) := by decide +kernel
theorem dX0_count_56 : decode cX0_count 56 = .ok (.ireturn, 1) := by decide +kernel
theorem dX0_count_57 : decode cX0_count 57 = .ok (.aload_n 0, 1) := by decide +kernel
theorem dX0_count_58 : decode cX0_count 58 = .ok (.getfield 46, 3) := by decide +kernel
theorem dX0_count_61 : decode cX0_count 61 = .ok (.invokevirtual 122, 3) := by decide +kernel
theorem dX0_count_64 : decode cX0_count 64 = .ok (.ireturn, 1) := by decide +kernel
theorem dX0_count_65 : decode cX0_count 65 = .ok (.aload_n 0, 1) := by decide +kernel
theorem dX0_count_66 : decode cX0_count 66 = .ok (.getfield 65, 3) := by decide +kernel
theorem dX0_count_69 : decode cX0_count 69 = .ok (.ifCond .eq 7, 3) := by decide +kernel
theorem dX0_count_72 : decode cX0_count 72 = .ok (.iconst 1, 1) := by decide +kernel
theorem dX0_count_73 : decode cX0_count 73 = .ok (.goto 4, 3) := by decide +kernel
theorem dX0_count_76 : decode cX0_count 76 = .ok (.iconst 0, 1) := by decide +kernel
theorem dX0_count_77 : decode cX0_count 77 = .ok (.ireturn, 1) := by decide +kernel
theorem dX0_count_78 : decode cX0_count 78 = .ok (.iconst (-1), 1) := by decide +kernel
theorem dX0_count_79 : decode cX0_count 79 = .ok (.ireturn, 1) := by decide +kernel
theorem dX0_total_0 : decode cX0_total 0 = .ok (.aload_n 0, 1) := by decide +kernel
theorem dX0_total_1 : decode cX0_total 1 = .ok (.getfield 36, 3) := by decide +kernel
theorem dX0_total_4 : decode cX0_total 4 = .ok (.invokevirtual 154, 3) := by decide +kernel
theorem dX0_total_7 : decode cX0_total 7 = .ok (.lreturn, 1) := by decide +kernel
theorem dX0_unspentLimit_0 : decode cX0_unspentLimit 0 = .ok (.iload_n 0, 1) := by decide +kernel
theorem dX0_unspentLimit_1 : decode cX0_unspentLimit 1 = .ok (.iconst 2, 1) := by decide +kernel
theorem dX0_unspentLimit_2 : decode cX0_unspentLimit 2 = .ok (.if_icmp .lt 14, 3) := by decide +kernel
theorem dX0_unspentLimit_5 : decode cX0_unspentLimit 5 = .ok (.iload_n 0, 1) := by decide +kernel
theorem dX0_unspentLimit_6 : decode cX0_unspentLimit 6 = .ok (.sipush 200, 3) := by decide +kernel
theorem dX0_unspentLimit_9 : decode cX0_unspentLimit 9 = .ok (.if_icmp .gt 7, 3) := by decide +kernel
theorem dX0_unspentLimit_12 : decode cX0_unspentLimit 12 = .ok (.iload_n 0, 1) := by decide +kernel
theorem dX0_unspentLimit_13 : decode cX0_unspentLimit 13 = .ok (.goto 5, 3) := by decide +kernel
theorem dX0_unspentLimit_16 : decode cX0_unspentLimit 16 = .ok (.bipush 60, 2) := by decide +kernel
theorem dX0_unspentLimit_18 : decode cX0_unspentLimit 18 = .ok (.ireturn, 1) := by decide +kernel
theorem dX0_coinInHand_0 : decode cX0_coinInHand 0 = .ok (.aload_n 0, 1) := by decide +kernel
theorem dX0_coinInHand_1 : decode cX0_coinInHand 1 = .ok (.getfield 36, 3) := by decide +kernel
theorem dX0_coinInHand_4 : decode cX0_coinInHand 4 = .ok (.aload_n 0, 1) := by decide +kernel
theorem dX0_coinInHand_5 : decode cX0_coinInHand 5 = .ok (.getfield 10, 3) := by decide +kernel
theorem dX0_coinInHand_8 : decode cX0_coinInHand 8 = .ok (.invokevirtual 158, 3) := by decide +kernel
theorem dX0_coinInHand_11 : decode cX0_coinInHand 11 = .ok (.areturn, 1) := by decide +kernel
theorem dX0_blankCoin_0 : decode cX0_blankCoin 0 = .ok (.aload_n 0, 1) := by decide +kernel
theorem dX0_blankCoin_1 : decode cX0_blankCoin 1 = .ok (.getfield 40, 3) := by decide +kernel
theorem dX0_blankCoin_4 : decode cX0_blankCoin 4 = .ok (.invokevirtual 162, 3) := by decide +kernel
theorem dX0_blankCoin_7 : decode cX0_blankCoin 7 = .ok (.astore_n 1, 1) := by decide +kernel
theorem dX0_blankCoin_8 : decode cX0_blankCoin 8 = .ok (.aload_n 1, 1) := by decide +kernel
theorem dX0_blankCoin_9 : decode cX0_blankCoin 9 = .ok (.ifnonnull 13, 3) := by decide +kernel
theorem dX0_blankCoin_12 : decode cX0_blankCoin 12 = .ok (.new 88, 3) := by decide +kernel
theorem dX0_blankCoin_15 : decode cX0_blankCoin 15 = .ok (.dup, 1) := by decide +kernel
theorem dX0_blankCoin_16 : decode cX0_blankCoin 16 = .ok (.invokespecial 165, 3) := by decide +kernel
theorem dX0_blankCoin_19 : decode cX0_blankCoin 19 = .ok (.goto 4, 3) := by decide +kernel
theorem dX0_blankCoin_22 : decode cX0_blankCoin 22 = .ok (.aload_n 1, 1) := by decide +kernel
theorem dX0_blankCoin_23 : decode cX0_blankCoin 23 = .ok (.areturn, 1) := by decide +kernel
theorem dX0_undoLatest_0 : decode cX0_undoLatest 0 = .ok (.aload_n 0, 1) := by decide +kernel
theorem dX0_undoLatest_1 : decode cX0_undoLatest 1 = .ok (.getfield 46, 3) := by decide +kernel
theorem dX0_undoLatest_4 : decode cX0_undoLatest 4 = .ok (.invokevirtual 166, 3) := by decide +kernel
theorem dX0_undoLatest_7 : decode cX0_undoLatest 7 = .ok (.istore_n 1, 1) := by decide +kernel
theorem dX0_undoLatest_8 : decode cX0_undoLatest 8 = .ok (.aload_n 0, 1) := by decide +kernel
theorem dX0_undoLatest_9 : decode cX0_undoLatest 9 = .ok (.getfield 46, 3) := by decide +kernel
theorem dX0_undoLatest_12 : decode cX0_undoLatest 12 = .ok (.invokevirtual 169, 3) := by decide +kernel
theorem dX0_undoLatest_15 : decode cX0_undoLatest 15 = .ok (.astore_n 2, 1) := by decide +kernel
theorem dX0_undoLatest_16 : decode cX0_undoLatest 16 = .ok (.aload_n 2, 1) := by decide +kernel
theorem dX0_undoLatest_17 : decode cX0_undoLatest 17 = .ok (.ifnonnull 4, 3) := by decide +kernel
theorem dX0_undoLatest_20 : decode cX0_undoLatest 20 = .ok (.return_, 1) := by decide +kernel
theorem dX0_undoLatest_21 : decode cX0_undoLatest 21 = .ok (.iload_n 1, 1) := by decide +kernel
theorem dX0_undoLatest_22 : decode cX0_undoLatest 22 = .ok (.ifCond .eq 14, 3) := by decide +kernel
theorem dX0_undoLatest_25 : decode cX0_undoLatest 25 = .ok (.aload_n 0, 1) := by decide +kernel
theorem dX0_undoLatest_26 : decode cX0_undoLatest 26 = .ok (.getfield 36, 3) := by decide +kernel
theorem dX0_undoLatest_29 : decode cX0_undoLatest 29 = .ok (.aload_n 2, 1) := by decide +kernel
theorem dX0_undoLatest_30 : decode cX0_undoLatest 30 = .ok (.invokevirtual 105, 3) := by decide +kernel
theorem dX0_undoLatest_33 : decode cX0_undoLatest 33 = .ok (.goto 22, 3) := by decide +kernel
theorem dX0_undoLatest_36 : decode cX0_undoLatest 36 = .ok (.aload_n 0, 1) := by decide +kernel
theorem dX0_undoLatest_37 : decode cX0_undoLatest 37 = .ok (.getfield 36, 3) := by decide +kernel
theorem dX0_undoLatest_40 : decode cX0_undoLatest 40 = .ok (.aload_n 2, 1) := by decide +kernel
theorem dX0_undoLatest_41 : decode cX0_undoLatest 41 = .ok (.getfield 92, 3) := by decide +kernel
theorem dX0_undoLatest_44 : decode cX0_undoLatest 44 = .ok (.invokevirtual 116, 3) := by decide +kernel
theorem dX0_undoLatest_47 : decode cX0_undoLatest 47 = .ok (.aload_n 0, 1) := by decide +kernel
theorem dX0_undoLatest_48 : decode cX0_undoLatest 48 = .ok (.getfield 40, 3) := by decide +kernel
theorem dX0_undoLatest_51 : decode cX0_undoLatest 51 = .ok (.aload_n 2, 1) := by decide +kernel
theorem dX0_undoLatest_52 : decode cX0_undoLatest 52 = .ok (.invokevirtual 105, 3) := by decide +kernel
theorem dX0_undoLatest_55 : decode cX0_undoLatest 55 = .ok (.return_, 1) := by decide +kernel
theorem dX1_init_0 : decode cX1_init 0 = .ok (.aload_n 0, 1) := by decide +kernel
theorem dX1_init_1 : decode cX1_init 1 = .ok (.invokespecial 1, 3) := by decide +kernel
theorem dX1_init_4 : decode cX1_init 4 = .ok (.return_, 1) := by decide +kernel
theorem dX1_tell_0 : decode cX1_tell 0 = .ok (.aload_n 0, 1) := by decide +kernel
theorem dX1_tell_1 : decode cX1_tell 1 = .ok (.lload_n 1, 1) := by decide +kernel
theorem dX1_tell_2 : decode cX1_tell 2 = .ok (.putfield 7, 3) := by decide +kernel
theorem dX1_tell_5 : decode cX1_tell 5 = .ok (.aload_n 0, 1) := by decide +kernel
theorem dX1_tell_6 : decode cX1_tell 6 = .ok (.lload_n 3, 1) := by decide +kernel
theorem dX1_tell_7 : decode cX1_tell 7 = .ok (.putfield 13, 3) := by decide +kernel
theorem dX1_tell_10 : decode cX1_tell 10 = .ok (.aload_n 0, 1) := by decide +kernel
theorem dX1_tell_11 : decode cX1_tell 11 = .ok (.lload 5, 2) := by decide +kernel
theorem dX1_tell_13 : decode cX1_tell 13 = .ok (.putfield 16, 3) := by decide +kernel
theorem dX1_tell_16 : decode cX1_tell 16 = .ok (.aload_n 0, 1) := by decide +kernel
theorem dX1_tell_17 : decode cX1_tell 17 = .ok (.lload 7, 2) := by decide +kernel
theorem dX1_tell_19 : decode cX1_tell 19 = .ok (.putfield 19, 3) := by decide +kernel
theorem dX1_tell_22 : decode cX1_tell 22 = .ok (.aload_n 0, 1) := by decide +kernel
theorem dX1_tell_23 : decode cX1_tell 23 = .ok (.iload 9, 2) := by decide +kernel
theorem dX1_tell_25 : decode cX1_tell 25 = .ok (.putfield 22, 3) := by decide +kernel
theorem dX1_tell_28 : decode cX1_tell 28 = .ok (.return_, 1) := by decide +kernel
theorem dX1_copy_0 : decode cX1_copy 0 = .ok (.aload_n 0, 1) := by decide +kernel
theorem dX1_copy_1 : decode cX1_copy 1 = .ok (.aload_n 1, 1) := by decide +kernel
theorem dX1_copy_2 : decode cX1_copy 2 = .ok (.getfield 7, 3) := by decide +kernel
theorem dX1_copy_5 : decode cX1_copy 5 = .ok (.aload_n 1, 1) := by decide +kernel
theorem dX1_copy_6 : decode cX1_copy 6 = .ok (.getfield 13, 3) := by decide +kernel
theorem dX1_copy_9 : decode cX1_copy 9 = .ok (.aload_n 1, 1) := by decide +kernel
theorem dX1_copy_10 : decode cX1_copy 10 = .ok (.getfield 16, 3) := by decide +kernel
theorem dX1_copy_13 : decode cX1_copy 13 = .ok (.aload_n 1, 1) := by decide +kernel
theorem dX1_copy_14 : decode cX1_copy 14 = .ok (.getfield 19, 3) := by decide +kernel
theorem dX1_copy_17 : decode cX1_copy 17 = .ok (.aload_n 1, 1) := by decide +kernel
theorem dX1_copy_18 : decode cX1_copy 18 = .ok (.getfield 22, 3) := by decide +kernel
theorem dX1_copy_21 : decode cX1_copy 21 = .ok (.invokevirtual 26, 3) := by decide +kernel
theorem dX1_copy_24 : decode cX1_copy 24 = .ok (.return_, 1) := by decide +kernel
theorem dX1_same_0 : decode cX1_same 0 = .ok (.aload_n 0, 1) := by decide +kernel
theorem dX1_same_1 : decode cX1_same 1 = .ok (.getfield 7, 3) := by decide +kernel
theorem dX1_same_4 : decode cX1_same 4 = .ok (.aload_n 1, 1) := by decide +kernel
theorem dX1_same_5 : decode cX1_same 5 = .ok (.getfield 7, 3) := by decide +kernel
theorem dX1_same_8 : decode cX1_same 8 = .ok (.lcmp, 1) := by decide +kernel
theorem dX1_same_9 : decode cX1_same 9 = .ok (.ifCond .ne 54, 3) := by decide +kernel
theorem dX1_same_12 : decode cX1_same 12 = .ok (.aload_n 0, 1) := by decide +kernel
theorem dX1_same_13 : decode cX1_same 13 = .ok (.getfield 13, 3) := by decide +kernel
theorem dX1_same_16 : decode cX1_same 16 = .ok (.aload_n 1, 1) := by decide +kernel
theorem dX1_same_17 : decode cX1_same 17 = .ok (.getfield 13, 3) := by decide +kernel
theorem dX1_same_20 : decode cX1_same 20 = .ok (.lcmp, 1) := by decide +kernel
theorem dX1_same_21 : decode cX1_same 21 = .ok (.ifCond .ne 42, 3) := by decide +kernel
theorem dX1_same_24 : decode cX1_same 24 = .ok (.aload_n 0, 1) := by decide +kernel
theorem dX1_same_25 : decode cX1_same 25 = .ok (.getfield 16, 3) := by decide +kernel
theorem dX1_same_28 : decode cX1_same 28 = .ok (.aload_n 1, 1) := by decide +kernel
theorem dX1_same_29 : decode cX1_same 29 = .ok (.getfield 16, 3) := by decide +kernel
theorem dX1_same_32 : decode cX1_same 32 = .ok (.lcmp, 1) := by decide +kernel
theorem dX1_same_33 : decode cX1_same 33 = .ok (.ifCond .ne 30, 3) := by decide +kernel
theorem dX1_same_36 : decode cX1_same 36 = .ok (.aload_n 0, 1) := by decide +kernel
theorem dX1_same_37 : decode cX1_same 37 = .ok (.getfield 19, 3) := by decide +kernel
theorem dX1_same_40 : decode cX1_same 40 = .ok (.aload_n 1, 1) := by decide +kernel
theorem dX1_same_41 : decode cX1_same 41 = .ok (.getfield 19, 3) := by decide +kernel
theorem dX1_same_44 : decode cX1_same 44 = .ok (.lcmp, 1) := by decide +kernel
theorem dX1_same_45 : decode cX1_same 45 = .ok (.ifCond .ne 18, 3) := by decide +kernel
theorem dX1_same_48 : decode cX1_same 48 = .ok (.aload_n 0, 1) := by decide +kernel
theorem dX1_same_49 : decode cX1_same 49 = .ok (.getfield 22, 3) := by decide +kernel
theorem dX1_same_52 : decode cX1_same 52 = .ok (.aload_n 1, 1) := by decide +kernel
theorem dX1_same_53 : decode cX1_same 53 = .ok (.getfield 22, 3) := by decide +kernel
theorem dX1_same_56 : decode cX1_same 56 = .ok (.if_icmp .ne 7, 3) := by decide +kernel
theorem dX1_same_59 : decode cX1_same 59 = .ok (.iconst 1, 1) := by decide +kernel
theorem dX1_same_60 : decode cX1_same 60 = .ok (.goto 4, 3) := by decide +kernel
theorem dX1_same_63 : decode cX1_same 63 = .ok (.iconst 0, 1) := by decide +kernel
theorem dX1_same_64 : decode cX1_same 64 = .ok (.ireturn, 1) := by decide +kernel
theorem dX2_init_0 : decode cX2_init 0 = .ok (.aload_n 0, 1) := by decide +kernel
theorem dX2_init_1 : decode cX2_init 1 = .ok (.invokespecial 3, 3) := by decide +kernel
theorem dX2_init_4 : decode cX2_init 4 = .ok (.aload_n 0, 1) := by decide +kernel
theorem dX2_init_5 : decode cX2_init 5 = .ok (.sipush 200, 3) := by decide +kernel
theorem dX2_init_8 : decode cX2_init 8 = .ok (.newarray .byte, 2) := by decide +kernel
theorem dX2_init_10 : decode cX2_init 10 = .ok (.putfield 9, 3) := by decide +kernel
theorem dX2_init_13 : decode cX2_init 13 = .ok (.return_, 1) := by decide +kernel
theorem dX2_length_0 : decode cX2_length 0 = .ok (.aload_n 0, 1) := by decide +kernel
theorem dX2_length_1 : decode cX2_length 1 = .ok (.getfield 15, 3) := by decide +kernel
theorem dX2_length_4 : decode cX2_length 4 = .ok (.ireturn, 1) := by decide +kernel
theorem dX2_room_0 : decode cX2_room 0 = .ok (.aload_n 0, 1) := by decide +kernel
theorem dX2_room_1 : decode cX2_room 1 = .ok (.getfield 9, 3) := by decide +kernel
theorem dX2_room_4 : decode cX2_room 4 = .ok (.arraylength, 1) := by decide +kernel
theorem dX2_room_5 : decode cX2_room 5 = .ok (.aload_n 0, 1) := by decide +kernel
theorem dX2_room_6 : decode cX2_room 6 = .ok (.getfield 15, 3) := by decide +kernel
theorem dX2_room_9 : decode cX2_room 9 = .ok (.isub, 1) := by decide +kernel
theorem dX2_room_10 : decode cX2_room 10 = .ok (.ireturn, 1) := by decide +kernel
theorem dX2_clear_0 : decode cX2_clear 0 = .ok (.aload_n 0, 1) := by decide +kernel
theorem dX2_clear_1 : decode cX2_clear 1 = .ok (.iconst 0, 1) := by decide +kernel
theorem dX2_clear_2 : decode cX2_clear 2 = .ok (.putfield 15, 3) := by decide +kernel
theorem dX2_clear_5 : decode cX2_clear 5 = .ok (.return_, 1) := by decide +kernel
theorem dX2_append_0 : decode cX2_append 0 = .ok (.aload_n 0, 1) := by decide +kernel
theorem dX2_append_1 : decode cX2_append 1 = .ok (.getfield 15, 3) := by decide +kernel
theorem dX2_append_4 : decode cX2_append 4 = .ok (.ifCond .lt 35, 3) := by decide +kernel
theorem dX2_append_7 : decode cX2_append 7 = .ok (.aload_n 0, 1) := by decide +kernel
theorem dX2_append_8 : decode cX2_append 8 = .ok (.getfield 15, 3) := by decide +kernel
theorem dX2_append_11 : decode cX2_append 11 = .ok (.aload_n 0, 1) := by decide +kernel
theorem dX2_append_12 : decode cX2_append 12 = .ok (.getfield 9, 3) := by decide +kernel
theorem dX2_append_15 : decode cX2_append 15 = .ok (.arraylength, 1) := by decide +kernel
theorem dX2_append_16 : decode cX2_append 16 = .ok (.if_icmp .ge 23, 3) := by decide +kernel
theorem dX2_append_19 : decode cX2_append 19 = .ok (.aload_n 0, 1) := by decide +kernel
theorem dX2_append_20 : decode cX2_append 20 = .ok (.getfield 9, 3) := by decide +kernel
theorem dX2_append_23 : decode cX2_append 23 = .ok (.aload_n 0, 1) := by decide +kernel
theorem dX2_append_24 : decode cX2_append 24 = .ok (.getfield 15, 3) := by decide +kernel
theorem dX2_append_27 : decode cX2_append 27 = .ok (.iload_n 1, 1) := by decide +kernel
theorem dX2_append_28 : decode cX2_append 28 = .ok (.bastore, 1) := by decide +kernel
theorem dX2_append_29 : decode cX2_append 29 = .ok (.aload_n 0, 1) := by decide +kernel
theorem dX2_append_30 : decode cX2_append 30 = .ok (.dup, 1) := by decide +kernel
theorem dX2_append_31 : decode cX2_append 31 = .ok (.getfield 15, 3) := by decide +kernel
theorem dX2_append_34 : decode cX2_append 34 = .ok (.iconst 1, 1) := by decide +kernel
theorem dX2_append_35 : decode cX2_append 35 = .ok (.iadd, 1) := by decide +kernel
theorem dX2_append_36 : decode cX2_append 36 = .ok (.putfield 15, 3) := by decide +kernel
theorem dX2_append_39 : decode cX2_append 39 = .ok (.return_, 1) := by decide +kernel
theorem dX2_copy_0 : decode cX2_copy 0 = .ok (.aload_n 0, 1) := by decide +kernel
theorem dX2_copy_1 : decode cX2_copy 1 = .ok (.invokevirtual 19, 3) := by decide +kernel
theorem dX2_copy_4 : decode cX2_copy 4 = .ok (.iconst 0, 1) := by decide +kernel
theorem dX2_copy_5 : decode cX2_copy 5 = .ok (.istore_n 2, 1) := by decide +kernel
theorem dX2_copy_6 : decode cX2_copy 6 = .ok (.iload_n 2, 1) := by decide +kernel
theorem dX2_copy_7 : decode cX2_copy 7 = .ok (.aload_n 1, 1) := by decide +kernel
theorem dX2_copy_8 : decode cX2_copy 8 = .ok (.getfield 15, 3) := by decide +kernel
theorem dX2_copy_11 : decode cX2_copy 11 = .ok (.if_icmp .ge 28, 3) := by decide +kernel
theorem dX2_copy_14 : decode cX2_copy 14 = .ok (.iload_n 2, 1) := by decide +kernel
theorem dX2_copy_15 : decode cX2_copy 15 = .ok (.aload_n 1, 1) := by decide +kernel
theorem dX2_copy_16 : decode cX2_copy 16 = .ok (.getfield 9, 3) := by decide +kernel
theorem dX2_copy_19 : decode cX2_copy 19 = .ok (.arraylength, 1) := by decide +kernel
theorem dX2_copy_20 : decode cX2_copy 20 = .ok (.if_icmp .ge 19, 3) := by decide +kernel
theorem dX2_copy_23 : decode cX2_copy 23 = .ok (.aload_n 0, 1) := by decide +kernel
theorem dX2_copy_24 : decode cX2_copy 24 = .ok (.aload_n 1, 1) := by decide +kernel
theorem dX2_copy_25 : decode cX2_copy 25 = .ok (.getfield 9, 3) := by decide +kernel
theorem dX2_copy_28 : decode cX2_copy 28 = .ok (.iload_n 2, 1) := by decide +kernel
theorem dX2_copy_29 : decode cX2_copy 29 = .ok (.baload, 1) := by decide +kernel
theorem dX2_copy_30 : decode cX2_copy 30 = .ok (.invokevirtual 22, 3) := by decide +kernel
theorem dX2_copy_33 : decode cX2_copy 33 = .ok (.iinc 2 1, 3) := by decide +kernel
theorem dX2_copy_36 : decode cX2_copy 36 = .ok (.goto (-30), 3) := by decide +kernel
theorem dX2_copy_39 : decode cX2_copy 39 = .ok (.return_, 1) := by decide +kernel
theorem dX2_byteAt_0 : decode cX2_byteAt 0 = .ok (.iload_n 1, 1) := by decide +kernel
theorem dX2_byteAt_1 : decode cX2_byteAt 1 = .ok (.ifCond .lt 20, 3) := by decide +kernel
theorem dX2_byteAt_4 : decode cX2_byteAt 4 = .ok (.iload_n 1, 1) := by decide +kernel
theorem dX2_byteAt_5 : decode cX2_byteAt 5 = .ok (.aload_n 0, 1) := by decide +kernel
theorem dX2_byteAt_6 : decode cX2_byteAt 6 = .ok (.getfield 15, 3) := by decide +kernel
theorem dX2_byteAt_9 : decode cX2_byteAt 9 = .ok (.if_icmp .ge 12, 3) := by decide +kernel
theorem dX2_byteAt_12 : decode cX2_byteAt 12 = .ok (.iload_n 1, 1) := by decide +kernel
theorem dX2_byteAt_13 : decode cX2_byteAt 13 = .ok (.aload_n 0, 1) := by decide +kernel
theorem dX2_byteAt_14 : decode cX2_byteAt 14 = .ok (.getfield 9, 3) := by decide +kernel
theorem dX2_byteAt_17 : decode cX2_byteAt 17 = .ok (.arraylength, 1) := by decide +kernel
theorem dX2_byteAt_18 : decode cX2_byteAt 18 = .ok (.if_icmp .lt 5, 3) := by decide +kernel
theorem dX2_byteAt_21 : decode cX2_byteAt 21 = .ok (.iconst (-1), 1) := by decide +kernel
theorem dX2_byteAt_22 : decode cX2_byteAt 22 = .ok (.ireturn, 1) := by decide +kernel
theorem dX2_byteAt_23 : decode cX2_byteAt 23 = .ok (.aload_n 0, 1) := by decide +kernel
theorem dX2_byteAt_24 : decode cX2_byteAt 24 = .ok (.getfield 9, 3) := by decide +kernel
theorem dX2_byteAt_27 : decode cX2_byteAt 27 = .ok (.iload_n 1, 1) := by decide +kernel
theorem dX2_byteAt_28 : decode cX2_byteAt 28 = .ok (.baload, 1) := by decide +kernel
theorem dX2_byteAt_29 : decode cX2_byteAt 29 = .ok (.sipush 255, 3) := by decide +kernel
theorem dX2_byteAt_32 : decode cX2_byteAt 32 = .ok (.iand, 1) := by decide +kernel
theorem dX2_byteAt_33 : decode cX2_byteAt 33 = .ok (.ireturn, 1) := by decide +kernel
theorem dX3_init_0 : decode cX3_init 0 = .ok (.aload_n 0, 1) := by decide +kernel
theorem dX3_init_1 : decode cX3_init 1 = .ok (.invokespecial 1, 3) := by decide +kernel
theorem dX3_init_4 : decode cX3_init 4 = .ok (.aload_n 0, 1) := by decide +kernel
theorem dX3_init_5 : decode cX3_init 5 = .ok (.new 7, 3) := by decide +kernel
theorem dX3_init_8 : decode cX3_init 8 = .ok (.dup, 1) := by decide +kernel
theorem dX3_init_9 : decode cX3_init 9 = .ok (.invokespecial 9, 3) := by decide +kernel
theorem dX3_init_12 : decode cX3_init 12 = .ok (.putfield 10, 3) := by decide +kernel
theorem dX3_init_15 : decode cX3_init 15 = .ok (.aload_n 0, 1) := by decide +kernel
theorem dX3_init_16 : decode cX3_init 16 = .ok (.new 16, 3) := by decide +kernel
theorem dX3_init_19 : decode cX3_init 19 = .ok (.dup, 1) := by decide +kernel
theorem dX3_init_20 : decode cX3_init 20 = .ok (.invokespecial 18, 3) := by decide +kernel
theorem dX3_init_23 : decode cX3_init 23 = .ok (.putfield 19, 3) := by decide +kernel
theorem dX3_init_26 : decode cX3_init 26 = .ok (.return_, 1) := by decide +kernel
theorem dX3_tell_0 : decode cX3_tell 0 = .ok (.aload_n 0, 1) := by decide +kernel
theorem dX3_tell_1 : decode cX3_tell 1 = .ok (.lload_n 1, 1) := by decide +kernel
theorem dX3_tell_2 : decode cX3_tell 2 = .ok (.putfield 23, 3) := by decide +kernel
theorem dX3_tell_5 : decode cX3_tell 5 = .ok (.aload_n 0, 1) := by decide +kernel
theorem dX3_tell_6 : decode cX3_tell 6 = .ok (.iload_n 3, 1) := by decide +kernel
theorem dX3_tell_7 : decode cX3_tell 7 = .ok (.putfield 27, 3) := by decide +kernel
theorem dX3_tell_10 : decode cX3_tell 10 = .ok (.aload_n 0, 1) := by decide +kernel
theorem dX3_tell_11 : decode cX3_tell 11 = .ok (.iload 4, 2) := by decide +kernel
theorem dX3_tell_13 : decode cX3_tell 13 = .ok (.putfield 31, 3) := by decide +kernel
theorem dX3_tell_16 : decode cX3_tell 16 = .ok (.return_, 1) := by decide +kernel
theorem dX4_init_0 : decode cX4_init 0 = .ok (.aload_n 0, 1) := by decide +kernel
theorem dX4_init_1 : decode cX4_init 1 = .ok (.invokespecial 3, 3) := by decide +kernel
theorem dX4_init_4 : decode cX4_init 4 = .ok (.aload_n 0, 1) := by decide +kernel
theorem dX4_init_5 : decode cX4_init 5 = .ok (.iload_n 1, 1) := by decide +kernel
theorem dX4_init_6 : decode cX4_init 6 = .ok (.iconst 0, 1) := by decide +kernel
theorem dX4_init_7 : decode cX4_init 7 = .ok (.invokestatic 9, 3) := by decide +kernel
theorem dX4_init_10 : decode cX4_init 10 = .ok (.anewarray 15, 3) := by decide +kernel
theorem dX4_init_13 : decode cX4_init 13 = .ok (.putfield 17, 3) := by decide +kernel
theorem dX4_init_16 : decode cX4_init 16 = .ok (.return_, 1) := by decide +kernel
theorem dX4_size_0 : decode cX4_size 0 = .ok (.aload_n 0, 1) := by decide +kernel
theorem dX4_size_1 : decode cX4_size 1 = .ok (.getfield 23, 3) := by decide +kernel
theorem dX4_size_4 : decode cX4_size 4 = .ok (.ireturn, 1) := by decide +kernel
theorem dX4_isFull_0 : decode cX4_isFull 0 = .ok (.aload_n 0, 1) := by decide +kernel
theorem dX4_isFull_1 : decode cX4_isFull 1 = .ok (.getfield 23, 3) := by decide +kernel
theorem dX4_isFull_4 : decode cX4_isFull 4 = .ok (.aload_n 0, 1) := by decide +kernel
theorem dX4_isFull_5 : decode cX4_isFull 5 = .ok (.getfield 17, 3) := by decide +kernel
theorem dX4_isFull_8 : decode cX4_isFull 8 = .ok (.arraylength, 1) := by decide +kernel
theorem dX4_isFull_9 : decode cX4_isFull 9 = .ok (.if_icmp .lt 7, 3) := by decide +kernel
theorem dX4_isFull_12 : decode cX4_isFull 12 = .ok (.iconst 1, 1) := by decide +kernel
theorem dX4_isFull_13 : decode cX4_isFull 13 = .ok (.goto 4, 3) := by decide +kernel
theorem dX4_isFull_16 : decode cX4_isFull 16 = .ok (.iconst 0, 1) := by decide +kernel
theorem dX4_isFull_17 : decode cX4_isFull 17 = .ok (.ireturn, 1) := by decide +kernel
theorem dX4_add_0 : decode cX4_add 0 = .ok (.aload_n 0, 1) := by decide +kernel
theorem dX4_add_1 : decode cX4_add 1 = .ok (.getfield 23, 3) := by decide +kernel
theorem dX4_add_4 : decode cX4_add 4 = .ok (.ifCond .lt 35, 3) := by decide +kernel
theorem dX4_add_7 : decode cX4_add 7 = .ok (.aload_n 0, 1) := by decide +kernel
theorem dX4_add_8 : decode cX4_add 8 = .ok (.getfield 23, 3) := by decide +kernel
theorem dX4_add_11 : decode cX4_add 11 = .ok (.aload_n 0, 1) := by decide +kernel
theorem dX4_add_12 : decode cX4_add 12 = .ok (.getfield 17, 3) := by decide +kernel
theorem dX4_add_15 : decode cX4_add 15 = .ok (.arraylength, 1) := by decide +kernel
theorem dX4_add_16 : decode cX4_add 16 = .ok (.if_icmp .ge 23, 3) := by decide +kernel
theorem dX4_add_19 : decode cX4_add 19 = .ok (.aload_n 0, 1) := by decide +kernel
theorem dX4_add_20 : decode cX4_add 20 = .ok (.getfield 17, 3) := by decide +kernel
theorem dX4_add_23 : decode cX4_add 23 = .ok (.aload_n 0, 1) := by decide +kernel
theorem dX4_add_24 : decode cX4_add 24 = .ok (.getfield 23, 3) := by decide +kernel
theorem dX4_add_27 : decode cX4_add 27 = .ok (.aload_n 1, 1) := by decide +kernel
theorem dX4_add_28 : decode cX4_add 28 = .ok (.aastore, 1) := by decide +kernel
theorem dX4_add_29 : decode cX4_add 29 = .ok (.aload_n 0, 1) := by decide +kernel
theorem dX4_add_30 : decode cX4_add 30 = .ok (.dup, 1) := by decide +kernel
theorem dX4_add_31 : decode cX4_add 31 = .ok (.getfield 23, 3) := by decide +kernel
theorem dX4_add_34 : decode cX4_add 34 = .ok (.iconst 1, 1) := by decide +kernel
theorem dX4_add_35 : decode cX4_add 35 = .ok (.iadd, 1) := by decide +kernel
theorem dX4_add_36 : decode cX4_add 36 = .ok (.putfield 23, 3) := by decide +kernel
theorem dX4_add_39 : decode cX4_add 39 = .ok (.return_, 1) := by decide +kernel
theorem dX4_find_0 : decode cX4_find 0 = .ok (.aload_n 0, 1) := by decide +kernel
theorem dX4_find_1 : decode cX4_find 1 = .ok (.aload_n 1, 1) := by decide +kernel
theorem dX4_find_2 : decode cX4_find 2 = .ok (.invokevirtual 27, 3) := by decide +kernel
theorem dX4_find_5 : decode cX4_find 5 = .ok (.istore_n 2, 1) := by decide +kernel
theorem dX4_find_6 : decode cX4_find 6 = .ok (.aload_n 0, 1) := by decide +kernel
theorem dX4_find_7 : decode cX4_find 7 = .ok (.iload_n 2, 1) := by decide +kernel
theorem dX4_find_8 : decode cX4_find 8 = .ok (.invokevirtual 31, 3) := by decide +kernel
theorem dX4_find_11 : decode cX4_find 11 = .ok (.ifCond .eq 12, 3) := by decide +kernel
theorem dX4_find_14 : decode cX4_find 14 = .ok (.aload_n 0, 1) := by decide +kernel
theorem dX4_find_15 : decode cX4_find 15 = .ok (.getfield 17, 3) := by decide +kernel
theorem dX4_find_18 : decode cX4_find 18 = .ok (.iload_n 2, 1) := by decide +kernel
theorem dX4_find_19 : decode cX4_find 19 = .ok (.aaload, 1) := by decide +kernel
theorem dX4_find_20 : decode cX4_find 20 = .ok (.goto 4, 3) := by decide +kernel
theorem dX4_find_23 : decode cX4_find 23 = .ok (.aconst_null, 1) := by decide +kernel
theorem dX4_find_24 : decode cX4_find 24 = .ok (.areturn, 1) := by decide +kernel
theorem dX4_remove_0 : decode cX4_remove 0 = .ok (.aload_n 0, 1) := by decide +kernel
theorem dX4_remove_1 : decode cX4_remove 1 = .ok (.aload_n 1, 1) := by decide +kernel
theorem dX4_remove_2 : decode cX4_remove 2 = .ok (.invokevirtual 27, 3) := by decide +kernel
theorem dX4_remove_5 : decode cX4_remove 5 = .ok (.istore_n 2, 1) := by decide +kernel
theorem dX4_remove_6 : decode cX4_remove 6 = .ok (.aload_n 0, 1) := by decide +kernel
theorem dX4_remove_7 : decode cX4_remove 7 = .ok (.iload_n 2, 1) := by decide +kernel
theorem dX4_remove_8 : decode cX4_remove 8 = .ok (.invokevirtual 31, 3) := by decide +kernel
theorem dX4_remove_11 : decode cX4_remove 11 = .ok (.ifCond .ne 4, 3) := by decide +kernel
theorem dX4_remove_14 : decode cX4_remove 14 = .ok (.return_, 1) := by decide +kernel
theorem dX4_remove_15 : decode cX4_remove 15 = .ok (.aload_n 0, 1) := by decide +kernel
theorem dX4_remove_16 : decode cX4_remove 16 = .ok (.invokevirtual 35, 3) := by decide +kernel
theorem dX4_remove_19 : decode cX4_remove 19 = .ok (.astore_n 3, 1) := by decide +kernel
theorem dX4_remove_20 : decode cX4_remove 20 = .ok (.aload_n 0, 1) := by decide +kernel
theorem dX4_remove_21 : decode cX4_remove 21 = .ok (.iload_n 2, 1) := by decide +kernel
theorem dX4_remove_22 : decode cX4_remove 22 = .ok (.invokevirtual 31, 3) := by decide +kernel
theorem dX4_remove_25 : decode cX4_remove 25 = .ok (.ifCond .eq 10, 3) := by decide +kernel
theorem dX4_remove_28 : decode cX4_remove 28 = .ok (.aload_n 0, 1) := by decide +kernel
theorem dX4_remove_29 : decode cX4_remove 29 = .ok (.getfield 17, 3) := by decide +kernel
theorem dX4_remove_32 : decode cX4_remove 32 = .ok (.iload_n 2, 1) := by decide +kernel
theorem dX4_remove_33 : decode cX4_remove 33 = .ok (.aload_n 3, 1) := by decide +kernel
theorem dX4_remove_34 : decode cX4_remove 34 = .ok (.aastore, 1) := by decide +kernel
theorem dX4_remove_35 : decode cX4_remove 35 = .ok (.return_, 1) := by decide +kernel
theorem dX4_takeLast_0 : decode cX4_takeLast 0 = .ok (.aload_n 0, 1) := by decide +kernel
theorem dX4_takeLast_1 : decode cX4_takeLast 1 = .ok (.aload_n 0, 1) := by decide +kernel
theorem dX4_takeLast_2 : decode cX4_takeLast 2 = .ok (.getfield 23, 3) := by decide +kernel
theorem dX4_takeLast_5 : decode cX4_takeLast 5 = .ok (.iconst 1, 1) := by decide +kernel
theorem dX4_takeLast_6 : decode cX4_takeLast 6 = .ok (.isub, 1) := by decide +kernel
theorem dX4_takeLast_7 : decode cX4_takeLast 7 = .ok (.invokevirtual 31, 3) := by decide +kernel
theorem dX4_takeLast_10 : decode cX4_takeLast 10 = .ok (.ifCond .ne 5, 3) := by decide +kernel
theorem dX4_takeLast_13 : decode cX4_takeLast 13 = .ok (.aconst_null, 1) := by decide +kernel
theorem dX4_takeLast_14 : decode cX4_takeLast 14 = .ok (.areturn, 1) := by decide +kernel
theorem dX4_takeLast_15 : decode cX4_takeLast 15 = .ok (.aload_n 0, 1) := by decide +kernel
theorem dX4_takeLast_16 : decode cX4_takeLast 16 = .ok (.dup, 1) := by decide +kernel
theorem dX4_takeLast_17 : decode cX4_takeLast 17 = .ok (.getfield 23, 3) := by decide +kernel
theorem dX4_takeLast_20 : decode cX4_takeLast 20 = .ok (.iconst 1, 1) := by decide +kernel
theorem dX4_takeLast_21 : decode cX4_takeLast 21 = .ok (.isub, 1) := by decide +kernel
theorem dX4_takeLast_22 : decode cX4_takeLast 22 = .ok (.putfield 23, 3) := by decide +kernel
theorem dX4_takeLast_25 : decode cX4_takeLast 25 = .ok (.aload_n 0, 1) := by decide +kernel
theorem dX4_takeLast_26 : decode cX4_takeLast 26 = .ok (.getfield 17, 3) := by decide +kernel
theorem dX4_takeLast_29 : decode cX4_takeLast 29 = .ok (.aload_n 0, 1) := by decide +kernel
theorem dX4_takeLast_30 : decode cX4_takeLast 30 = .ok (.getfield 23, 3) := by decide +kernel
theorem dX4_takeLast_33 : decode cX4_takeLast 33 = .ok (.aaload, 1) := by decide +kernel
theorem dX4_takeLast_34 : decode cX4_takeLast 34 = .ok (.areturn, 1) := by decide +kernel
theorem dX4_sum_0 : decode cX4_sum 0 = .ok (.lconst 0, 1) := by decide +kernel
theorem dX4_sum_1 : decode cX4_sum 1 = .ok (.lstore_n 1, 1) := by decide +kernel
theorem dX4_sum_2 : decode cX4_sum 2 = .ok (.iconst 0, 1) := by decide +kernel
theorem dX4_sum_3 : decode cX4_sum 3 = .ok (.istore_n 3, 1) := by decide +kernel
theorem dX4_sum_4 : decode cX4_sum 4 = .ok (.iload_n 3, 1) := by decide +kernel
theorem dX4_sum_5 : decode cX4_sum 5 = .ok (.aload_n 0, 1) := by decide +kernel
theorem dX4_sum_6 : decode cX4_sum 6 = .ok (.getfield 23, 3) := by decide +kernel
theorem dX4_sum_9 : decode cX4_sum 9 = .ok (.if_icmp .ge 39, 3) := by decide +kernel
theorem dX4_sum_12 : decode cX4_sum 12 = .ok (.iload_n 3, 1) := by decide +kernel
theorem dX4_sum_13 : decode cX4_sum 13 = .ok (.aload_n 0, 1) := by decide +kernel
theorem dX4_sum_14 : decode cX4_sum 14 = .ok (.getfield 17, 3) := by decide +kernel
theorem dX4_sum_17 : decode cX4_sum 17 = .ok (.arraylength, 1) := by decide +kernel
theorem dX4_sum_18 : decode cX4_sum 18 = .ok (.if_icmp .ge 30, 3) := by decide +kernel
theorem dX4_sum_21 : decode cX4_sum 21 = .ok (.aload_n 0, 1) := by decide +kernel
theorem dX4_sum_22 : decode cX4_sum 22 = .ok (.getfield 17, 3) := by decide +kernel
theorem dX4_sum_25 : decode cX4_sum 25 = .ok (.iload_n 3, 1) := by decide +kernel
theorem dX4_sum_26 : decode cX4_sum 26 = .ok (.aaload, 1) := by decide +kernel
theorem dX4_sum_27 : decode cX4_sum 27 = .ok (.astore 4, 2) := by decide +kernel
theorem dX4_sum_29 : decode cX4_sum 29 = .ok (.aload 4, 2) := by decide +kernel
theorem dX4_sum_31 : decode cX4_sum 31 = .ok (.ifnull 11, 3) := by decide +kernel
theorem dX4_sum_34 : decode cX4_sum 34 = .ok (.lload_n 1, 1) := by decide +kernel
theorem dX4_sum_35 : decode cX4_sum 35 = .ok (.aload 4, 2) := by decide +kernel
theorem dX4_sum_37 : decode cX4_sum 37 = .ok (.getfield 39, 3) := by decide +kernel
theorem dX4_sum_40 : decode cX4_sum 40 = .ok (.ladd, 1) := by decide +kernel
theorem dX4_sum_41 : decode cX4_sum 41 = .ok (.lstore_n 1, 1) := by decide +kernel
theorem dX4_sum_42 : decode cX4_sum 42 = .ok (.iinc 3 1, 3) := by decide +kernel
theorem dX4_sum_45 : decode cX4_sum 45 = .ok (.goto (-41), 3) := by decide +kernel
theorem dX4_sum_48 : decode cX4_sum 48 = .ok (.lload_n 1, 1) := by decide +kernel
theorem dX4_sum_49 : decode cX4_sum 49 = .ok (.lreturn, 1) := by decide +kernel
theorem dX4_holds_0 : decode cX4_holds 0 = .ok (.iload_n 1, 1) := by decide +kernel
theorem dX4_holds_1 : decode cX4_holds 1 = .ok (.ifCond .lt 24, 3) := by decide +kernel
theorem dX4_holds_4 : decode cX4_holds 4 = .ok (.iload_n 1, 1) := by decide +kernel
theorem dX4_holds_5 : decode cX4_holds 5 = .ok (.aload_n 0, 1) := by decide +kernel
theorem dX4_holds_6 : decode cX4_holds 6 = .ok (.getfield 23, 3) := by decide +kernel
theorem dX4_holds_9 : decode cX4_holds 9 = .ok (.if_icmp .ge 16, 3) := by decide +kernel
theorem dX4_holds_12 : decode cX4_holds 12 = .ok (.iload_n 1, 1) := by decide +kernel
theorem dX4_holds_13 : decode cX4_holds 13 = .ok (.aload_n 0, 1) := by decide +kernel
theorem dX4_holds_14 : decode cX4_holds 14 = .ok (.getfield 17, 3) := by decide +kernel
theorem dX4_holds_17 : decode cX4_holds 17 = .ok (.arraylength, 1) := by decide +kernel
theorem dX4_holds_18 : decode cX4_holds 18 = .ok (.if_icmp .ge 7, 3) := by decide +kernel
theorem dX4_holds_21 : decode cX4_holds 21 = .ok (.iconst 1, 1) := by decide +kernel
theorem dX4_holds_22 : decode cX4_holds 22 = .ok (.goto 4, 3) := by decide +kernel
theorem dX4_holds_25 : decode cX4_holds 25 = .ok (.iconst 0, 1) := by decide +kernel
theorem dX4_holds_26 : decode cX4_holds 26 = .ok (.ireturn, 1) := by decide +kernel
theorem dX4_placeOf_0 : decode cX4_placeOf 0 = .ok (.iconst 0, 1) := by decide +kernel
theorem dX4_placeOf_1 : decode cX4_placeOf 1 = .ok (.istore_n 2, 1) := by decide +kernel
theorem dX4_placeOf_2 : decode cX4_placeOf 2 = .ok (.iload_n 2, 1) := by decide +kernel
theorem dX4_placeOf_3 : decode cX4_placeOf 3 = .ok (.aload_n 0, 1) := by decide +kernel
theorem dX4_placeOf_4 : decode cX4_placeOf 4 = .ok (.getfield 23, 3) := by decide +kernel
theorem dX4_placeOf_7 : decode cX4_placeOf 7 = .ok (.if_icmp .ge 42, 3) := by decide +kernel
theorem dX4_placeOf_10 : decode cX4_placeOf 10 = .ok (.iload_n 2, 1) := by decide +kernel
theorem dX4_placeOf_11 : decode cX4_placeOf 11 = .ok (.aload_n 0, 1) := by decide +kernel
theorem dX4_placeOf_12 : decode cX4_placeOf 12 = .ok (.getfield 17, 3) := by decide +kernel
theorem dX4_placeOf_15 : decode cX4_placeOf 15 = .ok (.arraylength, 1) := by decide +kernel
theorem dX4_placeOf_16 : decode cX4_placeOf 16 = .ok (.if_icmp .ge 33, 3) := by decide +kernel
theorem dX4_placeOf_19 : decode cX4_placeOf 19 = .ok (.aload_n 0, 1) := by decide +kernel
theorem dX4_placeOf_20 : decode cX4_placeOf 20 = .ok (.getfield 17, 3) := by decide +kernel
theorem dX4_placeOf_23 : decode cX4_placeOf 23 = .ok (.iload_n 2, 1) := by decide +kernel
theorem dX4_placeOf_24 : decode cX4_placeOf 24 = .ok (.aaload, 1) := by decide +kernel
theorem dX4_placeOf_25 : decode cX4_placeOf 25 = .ok (.astore_n 3, 1) := by decide +kernel
theorem dX4_placeOf_26 : decode cX4_placeOf 26 = .ok (.aload_n 3, 1) := by decide +kernel
theorem dX4_placeOf_27 : decode cX4_placeOf 27 = .ok (.ifnull 16, 3) := by decide +kernel
theorem dX4_placeOf_30 : decode cX4_placeOf 30 = .ok (.aload_n 3, 1) := by decide +kernel
theorem dX4_placeOf_31 : decode cX4_placeOf 31 = .ok (.getfield 43, 3) := by decide +kernel
theorem dX4_placeOf_34 : decode cX4_placeOf 34 = .ok (.aload_n 1, 1) := by decide +kernel
theorem dX4_placeOf_35 : decode cX4_placeOf 35 = .ok (.invokevirtual 47, 3) := by decide +kernel
theorem dX4_placeOf_38 : decode cX4_placeOf 38 = .ok (.ifCond .eq 5, 3) := by decide +kernel
theorem dX4_placeOf_41 : decode cX4_placeOf 41 = .ok (.iload_n 2, 1) := by decide +kernel
theorem dX4_placeOf_42 : decode cX4_placeOf 42 = .ok (.ireturn, 1) := by decide +kernel
theorem dX4_placeOf_43 : decode cX4_placeOf 43 = .ok (.iinc 2 1, 3) := by decide +kernel
theorem dX4_placeOf_46 : decode cX4_placeOf 46 = .ok (.goto (-44), 3) := by decide +kernel
theorem dX4_placeOf_49 : decode cX4_placeOf 49 = .ok (.iconst (-1), 1) := by decide +kernel
theorem dX4_placeOf_50 : decode cX4_placeOf 50 = .ok (.ireturn, 1) := by decide +kernel
theorem dX5_init_0 : decode cX5_init 0 = .ok (.aload_n 0, 1) := by decide +kernel
theorem dX5_init_1 : decode cX5_init 1 = .ok (.invokespecial 3, 3) := by decide +kernel
theorem dX5_init_4 : decode cX5_init 4 = .ok (.aload_n 0, 1) := by decide +kernel
theorem dX5_init_5 : decode cX5_init 5 = .ok (.bipush 64, 2) := by decide +kernel
theorem dX5_init_7 : decode cX5_init 7 = .ok (.newarray .int, 2) := by decide +kernel
theorem dX5_init_9 : decode cX5_init 9 = .ok (.putfield 9, 3) := by decide +kernel
theorem dX5_init_12 : decode cX5_init 12 = .ok (.aload_n 0, 1) := by decide +kernel
theorem dX5_init_13 : decode cX5_init 13 = .ok (.iload_n 1, 1) := by decide +kernel
theorem dX5_init_14 : decode cX5_init 14 = .ok (.iconst 0, 1) := by decide +kernel
theorem dX5_init_15 : decode cX5_init 15 = .ok (.invokestatic 15, 3) := by decide +kernel
theorem dX5_init_18 : decode cX5_init 18 = .ok (.anewarray 21, 3) := by decide +kernel
theorem dX5_init_21 : decode cX5_init 21 = .ok (.putfield 23, 3) := by decide +kernel
theorem dX5_init_24 : decode cX5_init 24 = .ok (.aload_n 0, 1) := by decide +kernel
theorem dX5_init_25 : decode cX5_init 25 = .ok (.iload_n 1, 1) := by decide +kernel
theorem dX5_init_26 : decode cX5_init 26 = .ok (.iconst 0, 1) := by decide +kernel
theorem dX5_init_27 : decode cX5_init 27 = .ok (.invokestatic 15, 3) := by decide +kernel
theorem dX5_init_30 : decode cX5_init 30 = .ok (.newarray .boolean, 2) := by decide +kernel
theorem dX5_init_32 : decode cX5_init 32 = .ok (.putfield 27, 3) := by decide +kernel
theorem dX5_init_35 : decode cX5_init 35 = .ok (.return_, 1) := by decide +kernel
theorem dX5_records_0 : decode cX5_records 0 = .ok (.aload_n 0, 1) := by decide +kernel
theorem dX5_records_1 : decode cX5_records 1 = .ok (.getfield 31, 3) := by decide +kernel
theorem dX5_records_4 : decode cX5_records 4 = .ok (.ireturn, 1) := by decide +kernel
theorem dX5_spent_0 : decode cX5_spent 0 = .ok (.aload_n 0, 1) := by decide +kernel
theorem dX5_spent_1 : decode cX5_spent 1 = .ok (.getfield 35, 3) := by decide +kernel
theorem dX5_spent_4 : decode cX5_spent 4 = .ok (.ireturn, 1) := by decide +kernel
theorem dX5_isFull_0 : decode cX5_isFull 0 = .ok (.aload_n 0, 1) := by decide +kernel
theorem dX5_isFull_1 : decode cX5_isFull 1 = .ok (.getfield 31, 3) := by decide +kernel
theorem dX5_isFull_4 : decode cX5_isFull 4 = .ok (.aload_n 0, 1) := by decide +kernel
theorem dX5_isFull_5 : decode cX5_isFull 5 = .ok (.getfield 9, 3) := by decide +kernel
theorem dX5_isFull_8 : decode cX5_isFull 8 = .ok (.arraylength, 1) := by decide +kernel
theorem dX5_isFull_9 : decode cX5_isFull 9 = .ok (.if_icmp .lt 7, 3) := by decide +kernel
theorem dX5_isFull_12 : decode cX5_isFull 12 = .ok (.iconst 1, 1) := by decide +kernel
theorem dX5_isFull_13 : decode cX5_isFull 13 = .ok (.goto 4, 3) := by decide +kernel
theorem dX5_isFull_16 : decode cX5_isFull 16 = .ok (.iconst 0, 1) := by decide +kernel
theorem dX5_isFull_17 : decode cX5_isFull 17 = .ok (.ireturn, 1) := by decide +kernel
theorem dX5_addRecord_0 : decode cX5_addRecord 0 = .ok (.aload_n 0, 1) := by decide +kernel
theorem dX5_addRecord_1 : decode cX5_addRecord 1 = .ok (.getfield 31, 3) := by decide +kernel
theorem dX5_addRecord_4 : decode cX5_addRecord 4 = .ok (.ifCond .lt 35, 3) := by decide +kernel
theorem dX5_addRecord_7 : decode cX5_addRecord 7 = .ok (.aload_n 0, 1) := by decide +kernel
theorem dX5_addRecord_8 : decode cX5_addRecord 8 = .ok (.getfield 31, 3) := by decide +kernel
theorem dX5_addRecord_11 : decode cX5_addRecord 11 = .ok (.aload_n 0, 1) := by decide +kernel
theorem dX5_addRecord_12 : decode cX5_addRecord 12 = .ok (.getfield 9, 3) := by decide +kernel
theorem dX5_addRecord_15 : decode cX5_addRecord 15 = .ok (.arraylength, 1) := by decide +kernel
theorem dX5_addRecord_16 : decode cX5_addRecord 16 = .ok (.if_icmp .ge 23, 3) := by decide +kernel
theorem dX5_addRecord_19 : decode cX5_addRecord 19 = .ok (.aload_n 0, 1) := by decide +kernel
theorem dX5_addRecord_20 : decode cX5_addRecord 20 = .ok (.getfield 9, 3) := by decide +kernel
theorem dX5_addRecord_23 : decode cX5_addRecord 23 = .ok (.aload_n 0, 1) := by decide +kernel
theorem dX5_addRecord_24 : decode cX5_addRecord 24 = .ok (.getfield 31, 3) := by decide +kernel
theorem dX5_addRecord_27 : decode cX5_addRecord 27 = .ok (.iconst 0, 1) := by decide +kernel
theorem dX5_addRecord_28 : decode cX5_addRecord 28 = .ok (.iastore, 1) := by decide +kernel
theorem dX5_addRecord_29 : decode cX5_addRecord 29 = .ok (.aload_n 0, 1) := by decide +kernel
theorem dX5_addRecord_30 : decode cX5_addRecord 30 = .ok (.dup, 1) := by decide +kernel
theorem dX5_addRecord_31 : decode cX5_addRecord 31 = .ok (.getfield 31, 3) := by decide +kernel
theorem dX5_addRecord_34 : decode cX5_addRecord 34 = .ok (.iconst 1, 1) := by decide +kernel
theorem dX5_addRecord_35 : decode cX5_addRecord 35 = .ok (.iadd, 1) := by decide +kernel
theorem dX5_addRecord_36 : decode cX5_addRecord 36 = .ok (.putfield 31, 3) := by decide +kernel
theorem dX5_addRecord_39 : decode cX5_addRecord 39 = .ok (.return_, 1) := by decide +kernel
theorem dX5_latestLength_0 : decode cX5_latestLength 0 = .ok (.aload_n 0, 1) := by decide +kernel
theorem dX5_latestLength_1 : decode cX5_latestLength 1 = .ok (.aload_n 0, 1) := by decide +kernel
theorem dX5_latestLength_2 : decode cX5_latestLength 2 = .ok (.getfield 31, 3) := by decide +kernel
theorem dX5_latestLength_5 : decode cX5_latestLength 5 = .ok (.iconst 1, 1) := by decide +kernel
theorem dX5_latestLength_6 : decode cX5_latestLength 6 = .ok (.isub, 1) := by decide +kernel
theorem dX5_latestLength_7 : decode cX5_latestLength 7 = .ok (.invokevirtual 38, 3) := by decide +kernel
theorem dX5_latestLength_10 : decode cX5_latestLength 10 = .ok (.ifCond .eq 17, 3) := by decide +kernel
theorem dX5_latestLength_13 : decode cX5_latestLength 13 = .ok (.aload_n 0, 1) := by decide +kernel
theorem dX5_latestLength_14 : decode cX5_latestLength 14 = .ok (.getfield 9, 3) := by decide +kernel
theorem dX5_latestLength_17 : decode cX5_latestLength 17 = .ok (.aload_n 0, 1) := by decide +kernel
theorem dX5_latestLength_18 : decode cX5_latestLength 18 = .ok (.getfield 31, 3) := by decide +kernel
theorem dX5_latestLength_21 : decode cX5_latestLength 21 = .ok (.iconst 1, 1) := by decide +kernel
theorem dX5_latestLength_22 : decode cX5_latestLength 22 = .ok (.isub, 1) := by decide +kernel
theorem dX5_latestLength_23 : decode cX5_latestLength 23 = .ok (.iaload, 1) := by decide +kernel
theorem dX5_latestLength_24 : decode cX5_latestLength 24 = .ok (.goto 4, 3) := by decide +kernel
theorem dX5_latestLength_27 : decode cX5_latestLength 27 = .ok (.iconst 0, 1) := by decide +kernel
theorem dX5_latestLength_28 : decode cX5_latestLength 28 = .ok (.ireturn, 1) := by decide +kernel
theorem dX5_note_0 : decode cX5_note 0 = .ok (.aload_n 0, 1) := by decide +kernel
theorem dX5_note_1 : decode cX5_note 1 = .ok (.aload_n 0, 1) := by decide +kernel
theorem dX5_note_2 : decode cX5_note 2 = .ok (.getfield 31, 3) := by decide +kernel
theorem dX5_note_5 : decode cX5_note 5 = .ok (.iconst 1, 1) := by decide +kernel
theorem dX5_note_6 : decode cX5_note 6 = .ok (.isub, 1) := by decide +kernel
theorem dX5_note_7 : decode cX5_note 7 = .ok (.invokevirtual 38, 3) := by decide +kernel
theorem dX5_note_10 : decode cX5_note 10 = .ok (.ifCond .eq 14, 3) := by decide +kernel
theorem dX5_note_13 : decode cX5_note 13 = .ok (.aload_n 0, 1) := by decide +kernel
theorem dX5_note_14 : decode cX5_note 14 = .ok (.aload_n 0, 1) := by decide +kernel
theorem dX5_note_15 : decode cX5_note 15 = .ok (.getfield 42, 3) := by decide +kernel
theorem dX5_note_18 : decode cX5_note 18 = .ok (.invokevirtual 45, 3) := by decide +kernel
theorem dX5_note_21 : decode cX5_note 21 = .ok (.ifCond .ne 4, 3) := by decide +kernel
theorem dX5_note_24 : decode cX5_note 24 = .ok (.return_, 1) := by decide +kernel
theorem dX5_note_25 : decode cX5_note 25 = .ok (.aload_n 0, 1) := by decide +kernel
theorem dX5_note_26 : decode cX5_note 26 = .ok (.getfield 23, 3) := by decide +kernel
theorem dX5_note_29 : decode cX5_note 29 = .ok (.aload_n 0, 1) := by decide +kernel
theorem dX5_note_30 : decode cX5_note 30 = .ok (.getfield 42, 3) := by decide +kernel
theorem dX5_note_33 : decode cX5_note 33 = .ok (.aload_n 1, 1) := by decide +kernel
theorem dX5_note_34 : decode cX5_note 34 = .ok (.aastore, 1) := by decide +kernel
theorem dX5_note_35 : decode cX5_note 35 = .ok (.aload_n 0, 1) := by decide +kernel
theorem dX5_note_36 : decode cX5_note 36 = .ok (.getfield 27, 3) := by decide +kernel
theorem dX5_note_39 : decode cX5_note 39 = .ok (.aload_n 0, 1) := by decide +kernel
theorem dX5_note_40 : decode cX5_note 40 = .ok (.getfield 42, 3) := by decide +kernel
theorem dX5_note_43 : decode cX5_note 43 = .ok (.iload_n 2, 1) := by decide +kernel
theorem dX5_note_44 : decode cX5_note 44 = .ok (.bastore, 1) := by decide +kernel
theorem dX5_note_45 : decode cX5_note 45 = .ok (.aload_n 0, 1) := by decide +kernel
theorem dX5_note_46 : decode cX5_note 46 = .ok (.dup, 1) := by decide +kernel
theorem dX5_note_47 : decode cX5_note 47 = .ok (.getfield 42, 3) := by decide +kernel
theorem dX5_note_50 : decode cX5_note 50 = .ok (.iconst 1, 1) := by decide +kernel
theorem dX5_note_51 : decode cX5_note 51 = .ok (.iadd, 1) := by decide +kernel
theorem dX5_note_52 : decode cX5_note 52 = .ok (.putfield 42, 3) := by decide +kernel
theorem dX5_note_55 : decode cX5_note 55 = .ok (.aload_n 0, 1) := by decide +kernel
theorem dX5_note_56 : decode cX5_note 56 = .ok (.getfield 9, 3) := by decide +kernel
theorem dX5_note_59 : decode cX5_note 59 = .ok (.aload_n 0, 1) := by decide +kernel
theorem dX5_note_60 : decode cX5_note 60 = .ok (.getfield 31, 3) := by decide +kernel
theorem dX5_note_63 : decode cX5_note 63 = .ok (.iconst 1, 1) := by decide +kernel
theorem dX5_note_64 : decode cX5_note 64 = .ok (.isub, 1) := by decide +kernel
theorem dX5_note_65 : decode cX5_note 65 = .ok (.dup2, 1) := by decide +kernel
theorem dX5_note_66 : decode cX5_note 66 = .ok (.iaload, 1) := by decide +kernel
theorem dX5_note_67 : decode cX5_note 67 = .ok (.iconst 1, 1) := by decide +kernel
theorem dX5_note_68 : decode cX5_note 68 = .ok (.iadd, 1) := by decide +kernel
theorem dX5_note_69 : decode cX5_note 69 = .ok (.iastore, 1) := by decide +kernel
theorem dX5_note_70 : decode cX5_note 70 = .ok (.iload_n 2, 1) := by decide +kernel
theorem dX5_note_71 : decode cX5_note 71 = .ok (.ifCond .eq 13, 3) := by decide +kernel
theorem dX5_note_74 : decode cX5_note 74 = .ok (.aload_n 0, 1) := by decide +kernel
theorem dX5_note_75 : decode cX5_note 75 = .ok (.dup, 1) := by decide +kernel
theorem dX5_note_76 : decode cX5_note 76 = .ok (.getfield 35, 3) := by decide +kernel
theorem dX5_note_79 : decode cX5_note 79 = .ok (.iconst 1, 1) := by decide +kernel
theorem dX5_note_80 : decode cX5_note 80 = .ok (.iadd, 1) := by decide +kernel
theorem dX5_note_81 : decode cX5_note 81 = .ok (.putfield 35, 3) := by decide +kernel
theorem dX5_note_84 : decode cX5_note 84 = .ok (.return_, 1) := by decide +kernel
theorem dX5_latestIsSpending_0 : decode cX5_latestIsSpending 0 = .ok (.aload_n 0, 1) := by decide +kernel
theorem dX5_latestIsSpending_1 : decode cX5_latestIsSpending 1 = .ok (.aload_n 0, 1) := by decide +kernel
theorem dX5_latestIsSpending_2 : decode cX5_latestIsSpending 2 = .ok (.getfield 42, 3) := by decide +kernel
theorem dX5_latestIsSpending_5 : decode cX5_latestIsSpending 5 = .ok (.iconst 1, 1) := by decide +kernel
theorem dX5_latestIsSpending_6 : decode cX5_latestIsSpending 6 = .ok (.isub, 1) := by decide +kernel
theorem dX5_latestIsSpending_7 : decode cX5_latestIsSpending 7 = .ok (.invokevirtual 45, 3) := by decide +kernel
theorem dX5_latestIsSpending_10 : decode cX5_latestIsSpending 10 = .ok (.ifCond .eq 21, 3) := by decide +kernel
theorem dX5_latestIsSpending_13 : decode cX5_latestIsSpending 13 = .ok (.aload_n 0, 1) := by decide +kernel
theorem dX5_latestIsSpending_14 : decode cX5_latestIsSpending 14 = .ok (.getfield 27, 3) := by decide +kernel
theorem dX5_latestIsSpending_17 : decode cX5_latestIsSpending 17 = .ok (.aload_n 0, 1) := by decide +kernel
theorem dX5_latestIsSpending_18 : decode cX5_latestIsSpending 18 = .ok (.getfield 42, 3) := by decide +kernel
theorem dX5_latestIsSpending_21 : decode cX5_latestIsSpending 21 = .ok (.iconst 1, 1) := by decide +kernel
theorem dX5_latestIsSpending_22 : decode cX5_latestIsSpending 22 = .ok (.isub, 1) := by decide +kernel
theorem dX5_latestIsSpending_23 : decode cX5_latestIsSpending 23 = .ok (.baload, 1) := by decide +kernel
theorem dX5_latestIsSpending_24 : decode cX5_latestIsSpending 24 = .ok (.ifCond .eq 7, 3) := by decide +kernel
theorem dX5_latestIsSpending_27 : decode cX5_latestIsSpending 27 = .ok (.iconst 1, 1) := by decide +kernel
theorem dX5_latestIsSpending_28 : decode cX5_latestIsSpending 28 = .ok (.goto 4, 3) := by decide +kernel
theorem dX5_latestIsSpending_31 : decode cX5_latestIsSpending 31 = .ok (.iconst 0, 1) := by decide +kernel
theorem dX5_latestIsSpending_32 : decode cX5_latestIsSpending 32 = .ok (.ireturn, 1) := by decide +kernel
theorem dX5_takeLatest_0 : decode cX5_takeLatest 0 = .ok (.aload_n 0, 1) := by decide +kernel
theorem dX5_takeLatest_1 : decode cX5_takeLatest 1 = .ok (.aload_n 0, 1) := by decide +kernel
theorem dX5_takeLatest_2 : decode cX5_takeLatest 2 = .ok (.getfield 42, 3) := by decide +kernel
theorem dX5_takeLatest_5 : decode cX5_takeLatest 5 = .ok (.iconst 1, 1) := by decide +kernel
theorem dX5_takeLatest_6 : decode cX5_takeLatest 6 = .ok (.isub, 1) := by decide +kernel
theorem dX5_takeLatest_7 : decode cX5_takeLatest 7 = .ok (.invokevirtual 45, 3) := by decide +kernel
theorem dX5_takeLatest_10 : decode cX5_takeLatest 10 = .ok (.ifCond .ne 5, 3) := by decide +kernel
theorem dX5_takeLatest_13 : decode cX5_takeLatest 13 = .ok (.aconst_null, 1) := by decide +kernel
theorem dX5_takeLatest_14 : decode cX5_takeLatest 14 = .ok (.areturn, 1) := by decide +kernel
theorem dX5_takeLatest_15 : decode cX5_takeLatest 15 = .ok (.aload_n 0, 1) := by decide +kernel
theorem dX5_takeLatest_16 : decode cX5_takeLatest 16 = .ok (.invokevirtual 48, 3) := by decide +kernel
theorem dX5_takeLatest_19 : decode cX5_takeLatest 19 = .ok (.ifCond .eq 13, 3) := by decide +kernel
theorem dX5_takeLatest_22 : decode cX5_takeLatest 22 = .ok (.aload_n 0, 1) := by decide +kernel
theorem dX5_takeLatest_23 : decode cX5_takeLatest 23 = .ok (.dup, 1) := by decide +kernel
theorem dX5_takeLatest_24 : decode cX5_takeLatest 24 = .ok (.getfield 35, 3) := by decide +kernel
theorem dX5_takeLatest_27 : decode cX5_takeLatest 27 = .ok (.iconst 1, 1) := by decide +kernel
theorem dX5_takeLatest_28 : decode cX5_takeLatest 28 = .ok (.isub, 1) := by decide +kernel
theorem dX5_takeLatest_29 : decode cX5_takeLatest 29 = .ok (.putfield 35, 3) := by decide +kernel
theorem dX5_takeLatest_32 : decode cX5_takeLatest 32 = .ok (.aload_n 0, 1) := by decide +kernel
theorem dX5_takeLatest_33 : decode cX5_takeLatest 33 = .ok (.dup, 1) := by decide +kernel
theorem dX5_takeLatest_34 : decode cX5_takeLatest 34 = .ok (.getfield 42, 3) := by decide +kernel
theorem dX5_takeLatest_37 : decode cX5_takeLatest 37 = .ok (.iconst 1, 1) := by decide +kernel
theorem dX5_takeLatest_38 : decode cX5_takeLatest 38 = .ok (.isub, 1) := by decide +kernel
theorem dX5_takeLatest_39 : decode cX5_takeLatest 39 = .ok (.putfield 42, 3) := by decide +kernel
theorem dX5_takeLatest_42 : decode cX5_takeLatest 42 = .ok (.aload_n 0, 1) := by decide +kernel
theorem dX5_takeLatest_43 : decode cX5_takeLatest 43 = .ok (.getfield 23, 3) := by decide +kernel
theorem dX5_takeLatest_46 : decode cX5_takeLatest 46 = .ok (.aload_n 0, 1) := by decide +kernel
theorem dX5_takeLatest_47 : decode cX5_takeLatest 47 = .ok (.getfield 42, 3) := by decide +kernel
theorem dX5_takeLatest_50 : decode cX5_takeLatest 50 = .ok (.aaload, 1) := by decide +kernel
theorem dX5_takeLatest_51 : decode cX5_takeLatest 51 = .ok (.areturn, 1) := by decide +kernel
theorem dX5_dropLatestRecord_0 : decode cX5_dropLatestRecord 0 = .ok (.aload_n 0, 1) := by decide +kernel
theorem dX5_dropLatestRecord_1 : decode cX5_dropLatestRecord 1 = .ok (.getfield 31, 3) := by decide +kernel
theorem dX5_dropLatestRecord_4 : decode cX5_dropLatestRecord 4 = .ok (.ifCond .le 13, 3) := by decide +kernel
theorem dX5_dropLatestRecord_7 : decode cX5_dropLatestRecord 7 = .ok (.aload_n 0, 1) := by decide +kernel
theorem dX5_dropLatestRecord_8 : decode cX5_dropLatestRecord 8 = .ok (.dup, 1) := by decide +kernel
theorem dX5_dropLatestRecord_9 : decode cX5_dropLatestRecord 9 = .ok (.getfield 31, 3) := by decide +kernel
theorem dX5_dropLatestRecord_12 : decode cX5_dropLatestRecord 12 = .ok (.iconst 1, 1) := by decide +kernel
theorem dX5_dropLatestRecord_13 : decode cX5_dropLatestRecord 13 = .ok (.isub, 1) := by decide +kernel
theorem dX5_dropLatestRecord_14 : decode cX5_dropLatestRecord 14 = .ok (.putfield 31, 3) := by decide +kernel
theorem dX5_dropLatestRecord_17 : decode cX5_dropLatestRecord 17 = .ok (.return_, 1) := by decide +kernel
theorem dX5_dropOldestRecord_0 : decode cX5_dropOldestRecord 0 = .ok (.aload_n 0, 1) := by decide +kernel
theorem dX5_dropOldestRecord_1 : decode cX5_dropOldestRecord 1 = .ok (.iconst 0, 1) := by decide +kernel
theorem dX5_dropOldestRecord_2 : decode cX5_dropOldestRecord 2 = .ok (.invokevirtual 38, 3) := by decide +kernel
theorem dX5_dropOldestRecord_5 : decode cX5_dropOldestRecord 5 = .ok (.ifCond .eq 12, 3) := by decide +kernel
theorem dX5_dropOldestRecord_8 : decode cX5_dropOldestRecord 8 = .ok (.aload_n 0, 1) := by decide +kernel
theorem dX5_dropOldestRecord_9 : decode cX5_dropOldestRecord 9 = .ok (.getfield 9, 3) := by decide +kernel
theorem dX5_dropOldestRecord_12 : decode cX5_dropOldestRecord 12 = .ok (.iconst 0, 1) := by decide +kernel
theorem dX5_dropOldestRecord_13 : decode cX5_dropOldestRecord 13 = .ok (.iaload, 1) := by decide +kernel
theorem dX5_dropOldestRecord_14 : decode cX5_dropOldestRecord 14 = .ok (.goto 4, 3) := by decide +kernel
theorem dX5_dropOldestRecord_17 : decode cX5_dropOldestRecord 17 = .ok (.iconst 0, 1) := by decide +kernel
theorem dX5_dropOldestRecord_18 : decode cX5_dropOldestRecord 18 = .ok (.istore_n 2, 1) := by decide +kernel
theorem dX5_dropOldestRecord_19 : decode cX5_dropOldestRecord 19 = .ok (.aload_n 0, 1) := by decide +kernel
theorem dX5_dropOldestRecord_20 : decode cX5_dropOldestRecord 20 = .ok (.getfield 35, 3) := by decide +kernel
theorem dX5_dropOldestRecord_23 : decode cX5_dropOldestRecord 23 = .ok (.istore_n 3, 1) := by decide +kernel
theorem dX5_dropOldestRecord_24 : decode cX5_dropOldestRecord 24 = .ok (.iconst 0, 1) := by decide +kernel
theorem dX5_dropOldestRecord_25 : decode cX5_dropOldestRecord 25 = .ok (.istore 4, 2) := by decide +kernel
theorem dX5_dropOldestRecord_27 : decode cX5_dropOldestRecord 27 = .ok (.iload 4, 2) := by decide +kernel
theorem dX5_dropOldestRecord_29 : decode cX5_dropOldestRecord 29 = .ok (.iload_n 2, 1) := by decide +kernel
theorem dX5_dropOldestRecord_30 : decode cX5_dropOldestRecord 30 = .ok (.if_icmp .ge 49, 3) := by decide +kernel
theorem dX5_dropOldestRecord_33 : decode cX5_dropOldestRecord 33 = .ok (.aload_n 0, 1) := by decide +kernel
theorem dX5_dropOldestRecord_34 : decode cX5_dropOldestRecord 34 = .ok (.iload 4, 2) := by decide +kernel
theorem dX5_dropOldestRecord_36 : decode cX5_dropOldestRecord 36 = .ok (.invokevirtual 45, 3) := by decide +kernel
theorem dX5_dropOldestRecord_39 : decode cX5_dropOldestRecord 39 = .ok (.ifCond .eq 40, 3) := by decide +kernel
theorem dX5_dropOldestRecord_42 : decode cX5_dropOldestRecord 42 = .ok (.aload_n 0, 1) := by decide +kernel
theorem dX5_dropOldestRecord_43 : decode cX5_dropOldestRecord 43 = .ok (.getfield 27, 3) := by decide +kernel
theorem dX5_dropOldestRecord_46 : decode cX5_dropOldestRecord 46 = .ok (.iload 4, 2) := by decide +kernel
theorem dX5_dropOldestRecord_48 : decode cX5_dropOldestRecord 48 = .ok (.baload, 1) := by decide +kernel
theorem dX5_dropOldestRecord_49 : decode cX5_dropOldestRecord 49 = .ok (.ifCond .eq 24, 3) := by decide +kernel
theorem dX5_dropOldestRecord_52 : decode cX5_dropOldestRecord 52 = .ok (.aload_n 1, 1) := by decide +kernel
theorem dX5_dropOldestRecord_53 : decode cX5_dropOldestRecord 53 = .ok (.aload_n 0, 1) := by decide +kernel
theorem dX5_dropOldestRecord_54 : decode cX5_dropOldestRecord 54 = .ok (.getfield 23, 3) := by decide +kernel
theorem dX5_dropOldestRecord_57 : decode cX5_dropOldestRecord 57 = .ok (.iload 4, 2) := by decide +kernel
theorem dX5_dropOldestRecord_59 : decode cX5_dropOldestRecord 59 = .ok (.aaload, 1) := by decide +kernel
theorem dX5_dropOldestRecord_60 : decode cX5_dropOldestRecord 60 = .ok (.invokevirtual 52, 3) := by decide +kernel
theorem dX5_dropOldestRecord_63 : decode cX5_dropOldestRecord 63 = .ok (.aload_n 0, 1) := by decide +kernel
theorem dX5_dropOldestRecord_64 : decode cX5_dropOldestRecord 64 = .ok (.dup, 1) := by decide +kernel
theorem dX5_dropOldestRecord_65 : decode cX5_dropOldestRecord 65 = .ok (.getfield 35, 3) := by decide +kernel
theorem dX5_dropOldestRecord_68 : decode cX5_dropOldestRecord 68 = .ok (.iconst 1, 1) := by decide +kernel
theorem dX5_dropOldestRecord_69 : decode cX5_dropOldestRecord 69 = .ok (.isub, 1) := by decide +kernel
theorem dX5_dropOldestRecord_70 : decode cX5_dropOldestRecord 70 = .ok (.putfield 35, 3) := by decide +kernel
theorem dX5_dropOldestRecord_73 : decode cX5_dropOldestRecord 73 = .ok (.iinc 4 1, 3) := by decide +kernel
theorem dX5_dropOldestRecord_76 : decode cX5_dropOldestRecord 76 = .ok (.goto (-49), 3) := by decide +kernel
theorem dX5_dropOldestRecord_79 : decode cX5_dropOldestRecord 79 = .ok (.aload_n 0, 1) := by decide +kernel
theorem dX5_dropOldestRecord_80 : decode cX5_dropOldestRecord 80 = .ok (.iload_n 2, 1) := by decide +kernel
theorem dX5_dropOldestRecord_81 : decode cX5_dropOldestRecord 81 = .ok (.invokevirtual 58, 3) := by decide +kernel
theorem dX5_dropOldestRecord_84 : decode cX5_dropOldestRecord 84 = .ok (.aload_n 0, 1) := by decide +kernel
theorem dX5_dropOldestRecord_85 : decode cX5_dropOldestRecord 85 = .ok (.invokevirtual 62, 3) := by decide +kernel
theorem dX5_dropOldestRecord_88 : decode cX5_dropOldestRecord 88 = .ok (.iload_n 3, 1) := by decide +kernel
theorem dX5_dropOldestRecord_89 : decode cX5_dropOldestRecord 89 = .ok (.aload_n 0, 1) := by decide +kernel
theorem dX5_dropOldestRecord_90 : decode cX5_dropOldestRecord 90 = .ok (.getfield 35, 3) := by decide +kernel
theorem dX5_dropOldestRecord_93 : decode cX5_dropOldestRecord 93 = .ok (.isub, 1) := by decide +kernel
theorem dX5_dropOldestRecord_94 : decode cX5_dropOldestRecord 94 = .ok (.ireturn, 1) := by decide +kernel
theorem dX5_moveThingsDown_0 : decode cX5_moveThingsDown 0 = .ok (.iload_n 1, 1) := by decide +kernel
theorem dX5_moveThingsDown_1 : decode cX5_moveThingsDown 1 = .ok (.istore_n 2, 1) := by decide +kernel
theorem dX5_moveThingsDown_2 : decode cX5_moveThingsDown 2 = .ok (.iload_n 2, 1) := by decide +kernel
theorem dX5_moveThingsDown_3 : decode cX5_moveThingsDown 3 = .ok (.aload_n 0, 1) := by decide +kernel
theorem dX5_moveThingsDown_4 : decode cX5_moveThingsDown 4 = .ok (.getfield 42, 3) := by decide +kernel
theorem dX5_moveThingsDown_7 : decode cX5_moveThingsDown 7 = .ok (.if_icmp .ge 53, 3) := by decide +kernel
theorem dX5_moveThingsDown_10 : decode cX5_moveThingsDown 10 = .ok (.iload_n 2, 1) := by decide +kernel
theorem dX5_moveThingsDown_11 : decode cX5_moveThingsDown 11 = .ok (.iload_n 1, 1) := by decide +kernel
theorem dX5_moveThingsDown_12 : decode cX5_moveThingsDown 12 = .ok (.isub, 1) := by decide +kernel
theorem dX5_moveThingsDown_13 : decode cX5_moveThingsDown 13 = .ok (.istore_n 3, 1) := by decide +kernel
theorem dX5_moveThingsDown_14 : decode cX5_moveThingsDown 14 = .ok (.aload_n 0, 1) := by decide +kernel
theorem dX5_moveThingsDown_15 : decode cX5_moveThingsDown 15 = .ok (.iload_n 2, 1) := by decide +kernel
theorem dX5_moveThingsDown_16 : decode cX5_moveThingsDown 16 = .ok (.invokevirtual 45, 3) := by decide +kernel
theorem dX5_moveThingsDown_19 : decode cX5_moveThingsDown 19 = .ok (.ifCond .eq 35, 3) := by decide +kernel
theorem dX5_moveThingsDown_22 : decode cX5_moveThingsDown 22 = .ok (.aload_n 0, 1) := by decide +kernel
theorem dX5_moveThingsDown_23 : decode cX5_moveThingsDown 23 = .ok (.iload_n 3, 1) := by decide +kernel
theorem dX5_moveThingsDown_24 : decode cX5_moveThingsDown 24 = .ok (.invokevirtual 45, 3) := by decide +kernel
theorem dX5_moveThingsDown_27 : decode cX5_moveThingsDown 27 = .ok (.ifCond .eq 27, 3) := by decide +kernel
theorem dX5_moveThingsDown_30 : decode cX5_moveThingsDown 30 = .ok (.aload_n 0, 1) := by decide +kernel
theorem dX5_moveThingsDown_31 : decode cX5_moveThingsDown 31 = .ok (.getfield 23, 3) := by decide +kernel
theorem dX5_moveThingsDown_34 : decode cX5_moveThingsDown 34 = .ok (.iload_n 3, 1) := by decide +kernel
theorem dX5_moveThingsDown_35 : decode cX5_moveThingsDown 35 = .ok (.aload_n 0, 1) := by decide +kernel
theorem dX5_moveThingsDown_36 : decode cX5_moveThingsDown 36 = .ok (.getfield 23, 3) := by decide +kernel
theorem dX5_moveThingsDown_39 : decode cX5_moveThingsDown 39 = .ok (.iload_n 2, 1) := by decide +kernel
theorem dX5_moveThingsDown_40 : decode cX5_moveThingsDown 40 = .ok (.aaload, 1) := by decide +kernel
theorem dX5_moveThingsDown_41 : decode cX5_moveThingsDown 41 = .ok (.aastore, 1) := by decide +kernel
theorem dX5_moveThingsDown_42 : decode cX5_moveThingsDown 42 = .ok (.aload_n 0, 1) := by decide +kernel
theorem dX5_moveThingsDown_43 : decode cX5_moveThingsDown 43 = .ok (.getfield 27, 3) := by decide +kernel
theorem dX5_moveThingsDown_46 : decode cX5_moveThingsDown 46 = .ok (.iload_n 3, 1) := by decide +kernel
theorem dX5_moveThingsDown_47 : decode cX5_moveThingsDown 47 = .ok (.aload_n 0, 1) := by decide +kernel
theorem dX5_moveThingsDown_48 : decode cX5_moveThingsDown 48 = .ok (.getfield 27, 3) := by decide +kernel
theorem dX5_moveThingsDown_51 : decode cX5_moveThingsDown 51 = .ok (.iload_n 2, 1) := by decide +kernel
theorem dX5_moveThingsDown_52 : decode cX5_moveThingsDown 52 = .ok (.baload, 1) := by decide +kernel
theorem dX5_moveThingsDown_53 : decode cX5_moveThingsDown 53 = .ok (.bastore, 1) := by decide +kernel
theorem dX5_moveThingsDown_54 : decode cX5_moveThingsDown 54 = .ok (.iinc 2 1, 3) := by decide +kernel
theorem dX5_moveThingsDown_57 : decode cX5_moveThingsDown 57 = .ok (.goto (-55), 3) := by decide +kernel
theorem dX5_moveThingsDown_60 : decode cX5_moveThingsDown 60 = .ok (.aload_n 0, 1) := by decide +kernel
theorem dX5_moveThingsDown_61 : decode cX5_moveThingsDown 61 = .ok (.dup, 1) := by decide +kernel
theorem dX5_moveThingsDown_62 : decode cX5_moveThingsDown 62 = .ok (.getfield 42, 3) := by decide +kernel
theorem dX5_moveThingsDown_65 : decode cX5_moveThingsDown 65 = .ok (.iload_n 1, 1) := by decide +kernel
theorem dX5_moveThingsDown_66 : decode cX5_moveThingsDown 66 = .ok (.isub, 1) := by decide +kernel
theorem dX5_moveThingsDown_67 : decode cX5_moveThingsDown 67 = .ok (.putfield 42, 3) := by decide +kernel
theorem dX5_moveThingsDown_70 : decode cX5_moveThingsDown 70 = .ok (.return_, 1) := by decide +kernel
theorem dX5_moveRecordsDown_0 : decode cX5_moveRecordsDown 0 = .ok (.iconst 1, 1) := by decide +kernel
theorem dX5_moveRecordsDown_1 : decode cX5_moveRecordsDown 1 = .ok (.istore_n 1, 1) := by decide +kernel
theorem dX5_moveRecordsDown_2 : decode cX5_moveRecordsDown 2 = .ok (.iload_n 1, 1) := by decide +kernel
theorem dX5_moveRecordsDown_3 : decode cX5_moveRecordsDown 3 = .ok (.aload_n 0, 1) := by decide +kernel
theorem dX5_moveRecordsDown_4 : decode cX5_moveRecordsDown 4 = .ok (.getfield 31, 3) := by decide +kernel
theorem dX5_moveRecordsDown_7 : decode cX5_moveRecordsDown 7 = .ok (.if_icmp .ge 32, 3) := by decide +kernel
theorem dX5_moveRecordsDown_10 : decode cX5_moveRecordsDown 10 = .ok (.iload_n 1, 1) := by decide +kernel
theorem dX5_moveRecordsDown_11 : decode cX5_moveRecordsDown 11 = .ok (.aload_n 0, 1) := by decide +kernel
theorem dX5_moveRecordsDown_12 : decode cX5_moveRecordsDown 12 = .ok (.getfield 9, 3) := by decide +kernel
theorem dX5_moveRecordsDown_15 : decode cX5_moveRecordsDown 15 = .ok (.arraylength, 1) := by decide +kernel
theorem dX5_moveRecordsDown_16 : decode cX5_moveRecordsDown 16 = .ok (.if_icmp .ge 23, 3) := by decide +kernel
theorem dX5_moveRecordsDown_19 : decode cX5_moveRecordsDown 19 = .ok (.aload_n 0, 1) := by decide +kernel
theorem dX5_moveRecordsDown_20 : decode cX5_moveRecordsDown 20 = .ok (.getfield 9, 3) := by decide +kernel
theorem dX5_moveRecordsDown_23 : decode cX5_moveRecordsDown 23 = .ok (.iload_n 1, 1) := by decide +kernel
theorem dX5_moveRecordsDown_24 : decode cX5_moveRecordsDown 24 = .ok (.iconst 1, 1) := by decide +kernel
theorem dX5_moveRecordsDown_25 : decode cX5_moveRecordsDown 25 = .ok (.isub, 1) := by decide +kernel
theorem dX5_moveRecordsDown_26 : decode cX5_moveRecordsDown 26 = .ok (.aload_n 0, 1) := by decide +kernel
theorem dX5_moveRecordsDown_27 : decode cX5_moveRecordsDown 27 = .ok (.getfield 9, 3) := by decide +kernel
theorem dX5_moveRecordsDown_30 : decode cX5_moveRecordsDown 30 = .ok (.iload_n 1, 1) := by decide +kernel
theorem dX5_moveRecordsDown_31 : decode cX5_moveRecordsDown 31 = .ok (.iaload, 1) := by decide +kernel
theorem dX5_moveRecordsDown_32 : decode cX5_moveRecordsDown 32 = .ok (.iastore, 1) := by decide +kernel
theorem dX5_moveRecordsDown_33 : decode cX5_moveRecordsDown 33 = .ok (.iinc 1 1, 3) := by decide +kernel
theorem dX5_moveRecordsDown_36 : decode cX5_moveRecordsDown 36 = .ok (.goto (-34), 3) := by decide +kernel
theorem dX5_moveRecordsDown_39 : decode cX5_moveRecordsDown 39 = .ok (.aload_n 0, 1) := by decide +kernel
theorem dX5_moveRecordsDown_40 : decode cX5_moveRecordsDown 40 = .ok (.invokevirtual 65, 3) := by decide +kernel
theorem dX5_moveRecordsDown_43 : decode cX5_moveRecordsDown 43 = .ok (.return_, 1) := by decide +kernel
theorem dX5_hasRecord_0 : decode cX5_hasRecord 0 = .ok (.iload_n 1, 1) := by decide +kernel
theorem dX5_hasRecord_1 : decode cX5_hasRecord 1 = .ok (.ifCond .lt 24, 3) := by decide +kernel
theorem dX5_hasRecord_4 : decode cX5_hasRecord 4 = .ok (.iload_n 1, 1) := by decide +kernel
theorem dX5_hasRecord_5 : decode cX5_hasRecord 5 = .ok (.aload_n 0, 1) := by decide +kernel
theorem dX5_hasRecord_6 : decode cX5_hasRecord 6 = .ok (.getfield 31, 3) := by decide +kernel
theorem dX5_hasRecord_9 : decode cX5_hasRecord 9 = .ok (.if_icmp .ge 16, 3) := by decide +kernel
theorem dX5_hasRecord_12 : decode cX5_hasRecord 12 = .ok (.iload_n 1, 1) := by decide +kernel
theorem dX5_hasRecord_13 : decode cX5_hasRecord 13 = .ok (.aload_n 0, 1) := by decide +kernel
theorem dX5_hasRecord_14 : decode cX5_hasRecord 14 = .ok (.getfield 9, 3) := by decide +kernel
theorem dX5_hasRecord_17 : decode cX5_hasRecord 17 = .ok (.arraylength, 1) := by decide +kernel
theorem dX5_hasRecord_18 : decode cX5_hasRecord 18 = .ok (.if_icmp .ge 7, 3) := by decide +kernel
theorem dX5_hasRecord_21 : decode cX5_hasRecord 21 = .ok (.iconst 1, 1) := by decide +kernel
theorem dX5_hasRecord_22 : decode cX5_hasRecord 22 = .ok (.goto 4, 3) := by decide +kernel
theorem dX5_hasRecord_25 : decode cX5_hasRecord 25 = .ok (.iconst 0, 1) := by decide +kernel
theorem dX5_hasRecord_26 : decode cX5_hasRecord 26 = .ok (.ireturn, 1) := by decide +kernel
theorem dX5_hasRoomAt_0 : decode cX5_hasRoomAt 0 = .ok (.iload_n 1, 1) := by decide +kernel
theorem dX5_hasRoomAt_1 : decode cX5_hasRoomAt 1 = .ok (.ifCond .lt 25, 3) := by decide +kernel
theorem dX5_hasRoomAt_4 : decode cX5_hasRoomAt 4 = .ok (.iload_n 1, 1) := by decide +kernel
theorem dX5_hasRoomAt_5 : decode cX5_hasRoomAt 5 = .ok (.aload_n 0, 1) := by decide +kernel
theorem dX5_hasRoomAt_6 : decode cX5_hasRoomAt 6 = .ok (.getfield 23, 3) := by decide +kernel
theorem dX5_hasRoomAt_9 : decode cX5_hasRoomAt 9 = .ok (.arraylength, 1) := by decide +kernel
theorem dX5_hasRoomAt_10 : decode cX5_hasRoomAt 10 = .ok (.if_icmp .ge 16, 3) := by decide +kernel
theorem dX5_hasRoomAt_13 : decode cX5_hasRoomAt 13 = .ok (.iload_n 1, 1) := by decide +kernel
theorem dX5_hasRoomAt_14 : decode cX5_hasRoomAt 14 = .ok (.aload_n 0, 1) := by decide +kernel
theorem dX5_hasRoomAt_15 : decode cX5_hasRoomAt 15 = .ok (.getfield 27, 3) := by decide +kernel
theorem dX5_hasRoomAt_18 : decode cX5_hasRoomAt 18 = .ok (.arraylength, 1) := by decide +kernel
theorem dX5_hasRoomAt_19 : decode cX5_hasRoomAt 19 = .ok (.if_icmp .ge 7, 3) := by decide +kernel
theorem dX5_hasRoomAt_22 : decode cX5_hasRoomAt 22 = .ok (.iconst 1, 1) := by decide +kernel
theorem dX5_hasRoomAt_23 : decode cX5_hasRoomAt 23 = .ok (.goto 4, 3) := by decide +kernel
theorem dX5_hasRoomAt_26 : decode cX5_hasRoomAt 26 = .ok (.iconst 0, 1) := by decide +kernel
theorem dX5_hasRoomAt_27 : decode cX5_hasRoomAt 27 = .ok (.ireturn, 1) := by decide +kernel
