theorem dX6_init_0 : decode cX6_init 0 = .ok (.aload_n 0, 1) := by decide +kernel
theorem dX6_init_1 : decode cX6_init 1 = .ok (.invokespecial 1, 3) := by decide +kernel
theorem dX6_init_4 : decode cX6_init 4 = .ok (.aload_n 0, 1) := by decide +kernel
theorem dX6_init_5 : decode cX6_init 5 = .ok (.sipush 600, 3) := by decide +kernel
theorem dX6_init_8 : decode cX6_init 8 = .ok (.newarray .int, 2) := by decide +kernel
theorem dX6_init_10 : decode cX6_init 10 = .ok (.putfield 7, 3) := by decide +kernel
theorem dX6_init_13 : decode cX6_init 13 = .ok (.aload_n 0, 1) := by decide +kernel
theorem dX6_init_14 : decode cX6_init 14 = .ok (.sipush 2400, 3) := by decide +kernel
theorem dX6_init_17 : decode cX6_init 17 = .ok (.newarray .long, 2) := by decide +kernel
theorem dX6_init_19 : decode cX6_init 19 = .ok (.putfield 13, 3) := by decide +kernel
theorem dX6_init_22 : decode cX6_init 22 = .ok (.aload_n 0, 1) := by decide +kernel
theorem dX6_init_23 : decode cX6_init 23 = .ok (.sipush 600, 3) := by decide +kernel
theorem dX6_init_26 : decode cX6_init 26 = .ok (.newarray .int, 2) := by decide +kernel
theorem dX6_init_28 : decode cX6_init 28 = .ok (.putfield 17, 3) := by decide +kernel
theorem dX6_init_31 : decode cX6_init 31 = .ok (.aload_n 0, 1) := by decide +kernel
theorem dX6_init_32 : decode cX6_init 32 = .ok (.sipush 600, 3) := by decide +kernel
theorem dX6_init_35 : decode cX6_init 35 = .ok (.newarray .long, 2) := by decide +kernel
theorem dX6_init_37 : decode cX6_init 37 = .ok (.putfield 20, 3) := by decide +kernel
theorem dX6_init_40 : decode cX6_init 40 = .ok (.aload_n 0, 1) := by decide +kernel
theorem dX6_init_41 : decode cX6_init 41 = .ok (.sipush 600, 3) := by decide +kernel
theorem dX6_init_44 : decode cX6_init 44 = .ok (.newarray .int, 2) := by decide +kernel
theorem dX6_init_46 : decode cX6_init 46 = .ok (.putfield 23, 3) := by decide +kernel
theorem dX6_init_49 : decode cX6_init 49 = .ok (.aload_n 0, 1) := by decide +kernel
theorem dX6_init_50 : decode cX6_init 50 = .ok (.sipush 600, 3) := by decide +kernel
theorem dX6_init_53 : decode cX6_init 53 = .ok (.newarray .boolean, 2) := by decide +kernel
theorem dX6_init_55 : decode cX6_init 55 = .ok (.putfield 26, 3) := by decide +kernel
theorem dX6_init_58 : decode cX6_init 58 = .ok (.aload_n 0, 1) := by decide +kernel
theorem dX6_init_59 : decode cX6_init 59 = .ok (.sipush 600, 3) := by decide +kernel
theorem dX6_init_62 : decode cX6_init 62 = .ok (.newarray .int, 2) := by decide +kernel
theorem dX6_init_64 : decode cX6_init 64 = .ok (.putfield 30, 3) := by decide +kernel
theorem dX6_init_67 : decode cX6_init 67 = .ok (.aload_n 0, 1) := by decide +kernel
theorem dX6_init_68 : decode cX6_init 68 = .ok (.sipush 19800, 3) := by decide +kernel
theorem dX6_init_71 : decode cX6_init 71 = .ok (.newarray .byte, 2) := by decide +kernel
theorem dX6_init_73 : decode cX6_init 73 = .ok (.putfield 33, 3) := by decide +kernel
theorem dX6_init_76 : decode cX6_init 76 = .ok (.aload_n 0, 1) := by decide +kernel
theorem dX6_init_77 : decode cX6_init 77 = .ok (.sipush 19800, 3) := by decide +kernel
theorem dX6_init_80 : decode cX6_init 80 = .ok (.newarray .byte, 2) := by decide +kernel
theorem dX6_init_82 : decode cX6_init 82 = .ok (.putfield 37, 3) := by decide +kernel
theorem dX6_init_85 : decode cX6_init 85 = .ok (.aload_n 0, 1) := by decide +kernel
theorem dX6_init_86 : decode cX6_init 86 = .ok (.sipush 19800, 3) := by decide +kernel
theorem dX6_init_89 : decode cX6_init 89 = .ok (.newarray .byte, 2) := by decide +kernel
theorem dX6_init_91 : decode cX6_init 91 = .ok (.putfield 40, 3) := by decide +kernel
theorem dX6_init_94 : decode cX6_init 94 = .ok (.aload_n 0, 1) := by decide +kernel
theorem dX6_init_95 : decode cX6_init 95 = .ok (.sipush 19800, 3) := by decide +kernel
theorem dX6_init_98 : decode cX6_init 98 = .ok (.newarray .byte, 2) := by decide +kernel
theorem dX6_init_100 : decode cX6_init 100 = .ok (.putfield 43, 3) := by decide +kernel
theorem dX6_init_103 : decode cX6_init 103 = .ok (.aload_n 0, 1) := by decide +kernel
theorem dX6_init_104 : decode cX6_init 104 = .ok (.sipush 19800, 3) := by decide +kernel
theorem dX6_init_107 : decode cX6_init 107 = .ok (.newarray .byte, 2) := by decide +kernel
theorem dX6_init_109 : decode cX6_init 109 = .ok (.putfield 46, 3) := by decide +kernel
theorem dX6_init_112 : decode cX6_init 112 = .ok (.aload_n 0, 1) := by decide +kernel
theorem dX6_init_113 : decode cX6_init 113 = .ok (.sipush 19800, 3) := by decide +kernel
theorem dX6_init_116 : decode cX6_init 116 = .ok (.newarray .byte, 2) := by decide +kernel
theorem dX6_init_118 : decode cX6_init 118 = .ok (.putfield 49, 3) := by decide +kernel
theorem dX6_init_121 : decode cX6_init 121 = .ok (.aload_n 0, 1) := by decide +kernel
theorem dX6_init_122 : decode cX6_init 122 = .ok (.sipush 19800, 3) := by decide +kernel
theorem dX6_init_125 : decode cX6_init 125 = .ok (.newarray .byte, 2) := by decide +kernel
theorem dX6_init_127 : decode cX6_init 127 = .ok (.putfield 52, 3) := by decide +kernel
theorem dX6_init_130 : decode cX6_init 130 = .ok (.aload_n 0, 1) := by decide +kernel
theorem dX6_init_131 : decode cX6_init 131 = .ok (.iconst 4, 1) := by decide +kernel
theorem dX6_init_132 : decode cX6_init 132 = .ok (.newarray .long, 2) := by decide +kernel
theorem dX6_init_134 : decode cX6_init 134 = .ok (.putfield 55, 3) := by decide +kernel
theorem dX6_init_137 : decode cX6_init 137 = .ok (.aload_n 0, 1) := by decide +kernel
theorem dX6_init_138 : decode cX6_init 138 = .ok (.sipush 200, 3) := by decide +kernel
theorem dX6_init_141 : decode cX6_init 141 = .ok (.newarray .byte, 2) := by decide +kernel
theorem dX6_init_143 : decode cX6_init 143 = .ok (.putfield 58, 3) := by decide +kernel
theorem dX6_init_146 : decode cX6_init 146 = .ok (.aload_n 0, 1) := by decide +kernel
theorem dX6_init_147 : decode cX6_init 147 = .ok (.sipush 1200, 3) := by decide +kernel
theorem dX6_init_150 : decode cX6_init 150 = .ok (.newarray .int, 2) := by decide +kernel
theorem dX6_init_152 : decode cX6_init 152 = .ok (.putfield 61, 3) := by decide +kernel
theorem dX6_init_155 : decode cX6_init 155 = .ok (.aload_n 0, 1) := by decide +kernel
theorem dX6_init_156 : decode cX6_init 156 = .ok (.sipush 1200, 3) := by decide +kernel
theorem dX6_init_159 : decode cX6_init 159 = .ok (.newarray .int, 2) := by decide +kernel
theorem dX6_init_161 : decode cX6_init 161 = .ok (.putfield 64, 3) := by decide +kernel
theorem dX6_init_164 : decode cX6_init 164 = .ok (.aload_n 0, 1) := by decide +kernel
theorem dX6_init_165 : decode cX6_init 165 = .ok (.sipush 1200, 3) := by decide +kernel
theorem dX6_init_168 : decode cX6_init 168 = .ok (.newarray .int, 2) := by decide +kernel
theorem dX6_init_170 : decode cX6_init 170 = .ok (.putfield 67, 3) := by decide +kernel
theorem dX6_init_173 : decode cX6_init 173 = .ok (.aload_n 0, 1) := by decide +kernel
theorem dX6_init_174 : decode cX6_init 174 = .ok (.iload_n 1, 1) := by decide +kernel
theorem dX6_init_175 : decode cX6_init 175 = .ok (.iconst 2, 1) := by decide +kernel
theorem dX6_init_176 : decode cX6_init 176 = .ok (.if_icmp .lt 14, 3) := by decide +kernel
theorem dX6_init_179 : decode cX6_init 179 = .ok (.iload_n 1, 1) := by decide +kernel
theorem dX6_init_180 : decode cX6_init 180 = .ok (.sipush 200, 3) := by decide +kernel
theorem dX6_init_183 : decode cX6_init 183 = .ok (.if_icmp .gt 7, 3) := by decide +kernel
theorem dX6_init_186 : decode cX6_init 186 = .ok (.iload_n 1, 1) := by decide +kernel
theorem dX6_init_187 : decode cX6_init 187 = .ok (.goto 5, 3) := by decide +kernel
theorem dX6_init_190 : decode cX6_init 190 = .ok (.bipush 60, 2) := by decide +kernel
theorem dX6_init_192 : decode cX6_init 192 = .ok (.putfield 70, 3) := by decide +kernel
theorem dX6_init_195 : decode cX6_init 195 = .ok (.return_, 1) := by decide +kernel
theorem dX6_key_0 : decode cX6_key 0 = .ok (.aload_n 0, 1) := by decide +kernel
theorem dX6_key_1 : decode cX6_key 1 = .ok (.getfield 55, 3) := by decide +kernel
theorem dX6_key_4 : decode cX6_key 4 = .ok (.iconst 0, 1) := by decide +kernel
theorem dX6_key_5 : decode cX6_key 5 = .ok (.lload_n 1, 1) := by decide +kernel
theorem dX6_key_6 : decode cX6_key 6 = .ok (.lastore, 1) := by decide +kernel
theorem dX6_key_7 : decode cX6_key 7 = .ok (.aload_n 0, 1) := by decide +kernel
theorem dX6_key_8 : decode cX6_key 8 = .ok (.getfield 55, 3) := by decide +kernel
theorem dX6_key_11 : decode cX6_key 11 = .ok (.iconst 1, 1) := by decide +kernel
theorem dX6_key_12 : decode cX6_key 12 = .ok (.lload_n 3, 1) := by decide +kernel
theorem dX6_key_13 : decode cX6_key 13 = .ok (.lastore, 1) := by decide +kernel
theorem dX6_key_14 : decode cX6_key 14 = .ok (.aload_n 0, 1) := by decide +kernel
theorem dX6_key_15 : decode cX6_key 15 = .ok (.getfield 55, 3) := by decide +kernel
theorem dX6_key_18 : decode cX6_key 18 = .ok (.iconst 2, 1) := by decide +kernel
theorem dX6_key_19 : decode cX6_key 19 = .ok (.lload 5, 2) := by decide +kernel
theorem dX6_key_21 : decode cX6_key 21 = .ok (.lastore, 1) := by decide +kernel
theorem dX6_key_22 : decode cX6_key 22 = .ok (.aload_n 0, 1) := by decide +kernel
theorem dX6_key_23 : decode cX6_key 23 = .ok (.getfield 55, 3) := by decide +kernel
theorem dX6_key_26 : decode cX6_key 26 = .ok (.iconst 3, 1) := by decide +kernel
theorem dX6_key_27 : decode cX6_key 27 = .ok (.lload 7, 2) := by decide +kernel
theorem dX6_key_29 : decode cX6_key 29 = .ok (.lastore, 1) := by decide +kernel
theorem dX6_key_30 : decode cX6_key 30 = .ok (.aload_n 0, 1) := by decide +kernel
theorem dX6_key_31 : decode cX6_key 31 = .ok (.iload 9, 2) := by decide +kernel
theorem dX6_key_33 : decode cX6_key 33 = .ok (.putfield 74, 3) := by decide +kernel
theorem dX6_key_36 : decode cX6_key 36 = .ok (.return_, 1) := by decide +kernel
theorem dX6_empty_0 : decode cX6_empty 0 = .ok (.aload_n 0, 1) := by decide +kernel
theorem dX6_empty_1 : decode cX6_empty 1 = .ok (.iconst 0, 1) := by decide +kernel
theorem dX6_empty_2 : decode cX6_empty 2 = .ok (.putfield 77, 3) := by decide +kernel
theorem dX6_empty_5 : decode cX6_empty 5 = .ok (.return_, 1) := by decide +kernel
theorem dX6_put_0 : decode cX6_put 0 = .ok (.iload_n 3, 1) := by decide +kernel
theorem dX6_put_1 : decode cX6_put 1 = .ok (.iconst 1, 1) := by decide +kernel
theorem dX6_put_2 : decode cX6_put 2 = .ok (.if_icmp .lt 21, 3) := by decide +kernel
theorem dX6_put_5 : decode cX6_put 5 = .ok (.iload_n 3, 1) := by decide +kernel
theorem dX6_put_6 : decode cX6_put 6 = .ok (.bipush 8, 2) := by decide +kernel
theorem dX6_put_8 : decode cX6_put 8 = .ok (.if_icmp .gt 15, 3) := by decide +kernel
theorem dX6_put_11 : decode cX6_put 11 = .ok (.aload_n 0, 1) := by decide +kernel
theorem dX6_put_12 : decode cX6_put 12 = .ok (.getfield 77, 3) := by decide +kernel
theorem dX6_put_15 : decode cX6_put 15 = .ok (.iload_n 3, 1) := by decide +kernel
theorem dX6_put_16 : decode cX6_put 16 = .ok (.iadd, 1) := by decide +kernel
theorem dX6_put_17 : decode cX6_put 17 = .ok (.sipush 200, 3) := by decide +kernel
theorem dX6_put_20 : decode cX6_put 20 = .ok (.if_icmp .le 5, 3) := by decide +kernel
theorem dX6_put_23 : decode cX6_put 23 = .ok (.iconst 0, 1) := by decide +kernel
theorem dX6_put_24 : decode cX6_put 24 = .ok (.ireturn, 1) := by decide +kernel
theorem dX6_put_25 : decode cX6_put 25 = .ok (.iconst 0, 1) := by decide +kernel
theorem dX6_put_26 : decode cX6_put 26 = .ok (.istore 4, 2) := by decide +kernel
theorem dX6_put_28 : decode cX6_put 28 = .ok (.iload 4, 2) := by decide +kernel
theorem dX6_put_30 : decode cX6_put 30 = .ok (.iload_n 3, 1) := by decide +kernel
theorem dX6_put_31 : decode cX6_put 31 = .ok (.if_icmp .ge 34, 3) := by decide +kernel
theorem dX6_put_34 : decode cX6_put 34 = .ok (.aload_n 0, 1) := by decide +kernel
theorem dX6_put_35 : decode cX6_put 35 = .ok (.getfield 58, 3) := by decide +kernel
theorem dX6_put_38 : decode cX6_put 38 = .ok (.aload_n 0, 1) := by decide +kernel
theorem dX6_put_39 : decode cX6_put 39 = .ok (.getfield 77, 3) := by decide +kernel
theorem dX6_put_42 : decode cX6_put 42 = .ok (.iload 4, 2) := by decide +kernel
theorem dX6_put_44 : decode cX6_put 44 = .ok (.iadd, 1) := by decide +kernel
theorem dX6_put_45 : decode cX6_put 45 = .ok (.lload_n 1, 1) := by decide +kernel
theorem dX6_put_46 : decode cX6_put 46 = .ok (.bipush 8, 2) := by decide +kernel
theorem dX6_put_48 : decode cX6_put 48 = .ok (.iload_n 3, 1) := by decide +kernel
theorem dX6_put_49 : decode cX6_put 49 = .ok (.iconst 1, 1) := by decide +kernel
theorem dX6_put_50 : decode cX6_put 50 = .ok (.isub, 1) := by decide +kernel
theorem dX6_put_51 : decode cX6_put 51 = .ok (.iload 4, 2) := by decide +kernel
theorem dX6_put_53 : decode cX6_put 53 = .ok (.isub, 1) := by decide +kernel
theorem dX6_put_54 : decode cX6_put 54 = .ok (.imul, 1) := by decide +kernel
theorem dX6_put_55 : decode cX6_put 55 = .ok (.lshr, 1) := by decide +kernel
theorem dX6_put_56 : decode cX6_put 56 = .ok (.l2i, 1) := by decide +kernel
theorem dX6_put_57 : decode cX6_put 57 = .ok (.i2b, 1) := by decide +kernel
theorem dX6_put_58 : decode cX6_put 58 = .ok (.bastore, 1) := by decide +kernel
theorem dX6_put_59 : decode cX6_put 59 = .ok (.iinc 4 1, 3) := by decide +kernel
theorem dX6_put_62 : decode cX6_put 62 = .ok (.goto (-34), 3) := by decide +kernel
theorem dX6_put_65 : decode cX6_put 65 = .ok (.aload_n 0, 1) := by decide +kernel
theorem dX6_put_66 : decode cX6_put 66 = .ok (.aload_n 0, 1) := by decide +kernel
theorem dX6_put_67 : decode cX6_put 67 = .ok (.getfield 77, 3) := by decide +kernel
theorem dX6_put_70 : decode cX6_put 70 = .ok (.iload_n 3, 1) := by decide +kernel
theorem dX6_put_71 : decode cX6_put 71 = .ok (.iadd, 1) := by decide +kernel
theorem dX6_put_72 : decode cX6_put 72 = .ok (.putfield 77, 3) := by decide +kernel
theorem dX6_put_75 : decode cX6_put 75 = .ok (.iconst 1, 1) := by decide +kernel
theorem dX6_put_76 : decode cX6_put 76 = .ok (.ireturn, 1) := by decide +kernel
theorem dX6_records_0 : decode cX6_records 0 = .ok (.aload_n 0, 1) := by decide +kernel
theorem dX6_records_1 : decode cX6_records 1 = .ok (.getfield 80, 3) := by decide +kernel
theorem dX6_records_4 : decode cX6_records 4 = .ok (.aload_n 0, 1) := by decide +kernel
theorem dX6_records_5 : decode cX6_records 5 = .ok (.getfield 83, 3) := by decide +kernel
theorem dX6_records_8 : decode cX6_records 8 = .ok (.isub, 1) := by decide +kernel
theorem dX6_records_9 : decode cX6_records 9 = .ok (.aload_n 0, 1) := by decide +kernel
theorem dX6_records_10 : decode cX6_records 10 = .ok (.getfield 86, 3) := by decide +kernel
theorem dX6_records_13 : decode cX6_records 13 = .ok (.ifCond .eq 7, 3) := by decide +kernel
theorem dX6_records_16 : decode cX6_records 16 = .ok (.iconst 1, 1) := by decide +kernel
theorem dX6_records_17 : decode cX6_records 17 = .ok (.goto 4, 3) := by decide +kernel
theorem dX6_records_20 : decode cX6_records 20 = .ok (.iconst 0, 1) := by decide +kernel
theorem dX6_records_21 : decode cX6_records 21 = .ok (.iadd, 1) := by decide +kernel
theorem dX6_records_22 : decode cX6_records 22 = .ok (.ireturn, 1) := by decide +kernel
theorem dX6_begin_0 : decode cX6_begin 0 = .ok (.aload_n 0, 1) := by decide +kernel
theorem dX6_begin_1 : decode cX6_begin 1 = .ok (.getfield 86, 3) := by decide +kernel
theorem dX6_begin_4 : decode cX6_begin 4 = .ok (.ifCond .ne 12, 3) := by decide +kernel
theorem dX6_begin_7 : decode cX6_begin 7 = .ok (.aload_n 0, 1) := by decide +kernel
theorem dX6_begin_8 : decode cX6_begin 8 = .ok (.invokevirtual 90, 3) := by decide +kernel
theorem dX6_begin_11 : decode cX6_begin 11 = .ok (.bipush 64, 2) := by decide +kernel
theorem dX6_begin_13 : decode cX6_begin 13 = .ok (.if_icmp .ne 5, 3) := by decide +kernel
theorem dX6_begin_16 : decode cX6_begin 16 = .ok (.iconst 0, 1) := by decide +kernel
theorem dX6_begin_17 : decode cX6_begin 17 = .ok (.ireturn, 1) := by decide +kernel
theorem dX6_begin_18 : decode cX6_begin 18 = .ok (.aload_n 0, 1) := by decide +kernel
theorem dX6_begin_19 : decode cX6_begin 19 = .ok (.iconst 1, 1) := by decide +kernel
theorem dX6_begin_20 : decode cX6_begin 20 = .ok (.putfield 86, 3) := by decide +kernel
theorem dX6_begin_23 : decode cX6_begin 23 = .ok (.iconst 1, 1) := by decide +kernel
theorem dX6_begin_24 : decode cX6_begin 24 = .ok (.ireturn, 1) := by decide +kernel
theorem dX6_lay_0 : decode cX6_lay 0 = .ok (.sipush 200, 3) := by decide +kernel
theorem dX6_lay_3 : decode cX6_lay 3 = .ok (.iload_n 1, 1) := by decide +kernel
theorem dX6_lay_4 : decode cX6_lay 4 = .ok (.bipush 99, 2) := by decide +kernel
theorem dX6_lay_6 : decode cX6_lay 6 = .ok (.irem, 1) := by decide +kernel
theorem dX6_lay_7 : decode cX6_lay 7 = .ok (.imul, 1) := by decide +kernel
theorem dX6_lay_8 : decode cX6_lay 8 = .ok (.iload_n 2, 1) := by decide +kernel
theorem dX6_lay_9 : decode cX6_lay 9 = .ok (.iadd, 1) := by decide +kernel
theorem dX6_lay_10 : decode cX6_lay 10 = .ok (.istore 4, 2) := by decide +kernel
theorem dX6_lay_12 : decode cX6_lay 12 = .ok (.iload_n 1, 1) := by decide +kernel
theorem dX6_lay_13 : decode cX6_lay 13 = .ok (.bipush 99, 2) := by decide +kernel
theorem dX6_lay_15 : decode cX6_lay 15 = .ok (.idiv, 1) := by decide +kernel
theorem dX6_lay_16 : decode cX6_lay 16 = .ok (.tableswitch 106 0 5 #[40, 51, 62, 73, 84, 95], 40) := by decide +kernel
theorem dX6_lay_56 : decode cX6_lay 56 = .ok (.aload_n 0, 1) := by decide +kernel
theorem dX6_lay_57 : decode cX6_lay 57 = .ok (.getfield 33, 3) := by decide +kernel
theorem dX6_lay_60 : decode cX6_lay 60 = .ok (.iload 4, 2) := by decide +kernel
theorem dX6_lay_62 : decode cX6_lay 62 = .ok (.iload_n 3, 1) := by decide +kernel
theorem dX6_lay_63 : decode cX6_lay 63 = .ok (.bastore, 1) := by decide +kernel
theorem dX6_lay_64 : decode cX6_lay 64 = .ok (.goto 66, 3) := by decide +kernel
theorem dX6_lay_67 : decode cX6_lay 67 = .ok (.aload_n 0, 1) := by decide +kernel
theorem dX6_lay_68 : decode cX6_lay 68 = .ok (.getfield 37, 3) := by decide +kernel
theorem dX6_lay_71 : decode cX6_lay 71 = .ok (.iload 4, 2) := by decide +kernel
theorem dX6_lay_73 : decode cX6_lay 73 = .ok (.iload_n 3, 1) := by decide +kernel
theorem dX6_lay_74 : decode cX6_lay 74 = .ok (.bastore, 1) := by decide +kernel
theorem dX6_lay_75 : decode cX6_lay 75 = .ok (.goto 55, 3) := by decide +kernel
theorem dX6_lay_78 : decode cX6_lay 78 = .ok (.aload_n 0, 1) := by decide +kernel
theorem dX6_lay_79 : decode cX6_lay 79 = .ok (.getfield 40, 3) := by decide +kernel
theorem dX6_lay_82 : decode cX6_lay 82 = .ok (.iload 4, 2) := by decide +kernel
theorem dX6_lay_84 : decode cX6_lay 84 = .ok (.iload_n 3, 1) := by decide +kernel
theorem dX6_lay_85 : decode cX6_lay 85 = .ok (.bastore, 1) := by decide +kernel
theorem dX6_lay_86 : decode cX6_lay 86 = .ok (.goto 44, 3) := by decide +kernel
theorem dX6_lay_89 : decode cX6_lay 89 = .ok (.aload_n 0, 1) := by decide +kernel
theorem dX6_lay_90 : decode cX6_lay 90 = .ok (.getfield 43, 3) := by decide +kernel
theorem dX6_lay_93 : decode cX6_lay 93 = .ok (.iload 4, 2) := by decide +kernel
theorem dX6_lay_95 : decode cX6_lay 95 = .ok (.iload_n 3, 1) := by decide +kernel
theorem dX6_lay_96 : decode cX6_lay 96 = .ok (.bastore, 1) := by decide +kernel
theorem dX6_lay_97 : decode cX6_lay 97 = .ok (.goto 33, 3) := by decide +kernel
theorem dX6_lay_100 : decode cX6_lay 100 = .ok (.aload_n 0, 1) := by decide +kernel
theorem dX6_lay_101 : decode cX6_lay 101 = .ok (.getfield 46, 3) := by decide +kernel
theorem dX6_lay_104 : decode cX6_lay 104 = .ok (.iload 4, 2) := by decide +kernel
theorem dX6_lay_106 : decode cX6_lay 106 = .ok (.iload_n 3, 1) := by decide +kernel
theorem dX6_lay_107 : decode cX6_lay 107 = .ok (.bastore, 1) := by decide +kernel
theorem dX6_lay_108 : decode cX6_lay 108 = .ok (.goto 22, 3) := by decide +kernel
theorem dX6_lay_111 : decode cX6_lay 111 = .ok (.aload_n 0, 1) := by decide +kernel
theorem dX6_lay_112 : decode cX6_lay 112 = .ok (.getfield 49, 3) := by decide +kernel
theorem dX6_lay_115 : decode cX6_lay 115 = .ok (.iload 4, 2) := by decide +kernel
theorem dX6_lay_117 : decode cX6_lay 117 = .ok (.iload_n 3, 1) := by decide +kernel
theorem dX6_lay_118 : decode cX6_lay 118 = .ok (.bastore, 1) := by decide +kernel
theorem dX6_lay_119 : decode cX6_lay 119 = .ok (.goto 11, 3) := by decide +kernel
theorem dX6_lay_122 : decode cX6_lay 122 = .ok (.aload_n 0, 1) := by decide +kernel
theorem dX6_lay_123 : decode cX6_lay 123 = .ok (.getfield 52, 3) := by decide +kernel
theorem dX6_lay_126 : decode cX6_lay 126 = .ok (.iload 4, 2) := by decide +kernel
theorem dX6_lay_128 : decode cX6_lay 128 = .ok (.iload_n 3, 1) := by decide +kernel
theorem dX6_lay_129 : decode cX6_lay 129 = .ok (.bastore, 1) := by decide +kernel
theorem dX6_lay_130 : decode cX6_lay 130 = .ok (.return_, 1) := by decide +kernel
theorem dX6_byteAt_0 : decode cX6_byteAt 0 = .ok (.sipush 200, 3) := by decide +kernel
theorem dX6_byteAt_3 : decode cX6_byteAt 3 = .ok (.iload_n 1, 1) := by decide +kernel
theorem dX6_byteAt_4 : decode cX6_byteAt 4 = .ok (.bipush 99, 2) := by decide +kernel
theorem dX6_byteAt_6 : decode cX6_byteAt 6 = .ok (.irem, 1) := by decide +kernel
theorem dX6_byteAt_7 : decode cX6_byteAt 7 = .ok (.imul, 1) := by decide +kernel
theorem dX6_byteAt_8 : decode cX6_byteAt 8 = .ok (.iload_n 2, 1) := by decide +kernel
theorem dX6_byteAt_9 : decode cX6_byteAt 9 = .ok (.iadd, 1) := by decide +kernel
theorem dX6_byteAt_10 : decode cX6_byteAt 10 = .ok (.istore_n 3, 1) := by decide +kernel
theorem dX6_byteAt_11 : decode cX6_byteAt 11 = .ok (.iload_n 1, 1) := by decide +kernel
theorem dX6_byteAt_12 : decode cX6_byteAt 12 = .ok (.bipush 99, 2) := by decide +kernel
theorem dX6_byteAt_14 : decode cX6_byteAt 14 = .ok (.idiv, 1) := by decide +kernel
theorem dX6_byteAt_15 : decode cX6_byteAt 15 = .ok (.tableswitch 103 0 5 #[37, 48, 59, 70, 81, 92], 37) := by decide +kernel
theorem dX6_byteAt_52 : decode cX6_byteAt 52 = .ok (.aload_n 0, 1) := by decide +kernel
theorem dX6_byteAt_53 : decode cX6_byteAt 53 = .ok (.getfield 33, 3) := by decide +kernel
theorem dX6_byteAt_56 : decode cX6_byteAt 56 = .ok (.iload_n 3, 1) := by decide +kernel
theorem dX6_byteAt_57 : decode cX6_byteAt 57 = .ok (.baload, 1) := by decide +kernel
theorem dX6_byteAt_58 : decode cX6_byteAt 58 = .ok (.sipush 255, 3) := by decide +kernel
theorem dX6_byteAt_61 : decode cX6_byteAt 61 = .ok (.iand, 1) := by decide +kernel
theorem dX6_byteAt_62 : decode cX6_byteAt 62 = .ok (.ireturn, 1) := by decide +kernel
theorem dX6_byteAt_63 : decode cX6_byteAt 63 = .ok (.aload_n 0, 1) := by decide +kernel
theorem dX6_byteAt_64 : decode cX6_byteAt 64 = .ok (.getfield 37, 3) := by decide +kernel
theorem dX6_byteAt_67 : decode cX6_byteAt 67 = .ok (.iload_n 3, 1) := by decide +kernel
theorem dX6_byteAt_68 : decode cX6_byteAt 68 = .ok (.baload, 1) := by decide +kernel
theorem dX6_byteAt_69 : decode cX6_byteAt 69 = .ok (.sipush 255, 3) := by decide +kernel
theorem dX6_byteAt_72 : decode cX6_byteAt 72 = .ok (.iand, 1) := by decide +kernel
theorem dX6_byteAt_73 : decode cX6_byteAt 73 = .ok (.ireturn, 1) := by decide +kernel
theorem dX6_byteAt_74 : decode cX6_byteAt 74 = .ok (.aload_n 0, 1) := by decide +kernel
theorem dX6_byteAt_75 : decode cX6_byteAt 75 = .ok (.getfield 40, 3) := by decide +kernel
theorem dX6_byteAt_78 : decode cX6_byteAt 78 = .ok (.iload_n 3, 1) := by decide +kernel
theorem dX6_byteAt_79 : decode cX6_byteAt 79 = .ok (.baload, 1) := by decide +kernel
theorem dX6_byteAt_80 : decode cX6_byteAt 80 = .ok (.sipush 255, 3) := by decide +kernel
theorem dX6_byteAt_83 : decode cX6_byteAt 83 = .ok (.iand, 1) := by decide +kernel
theorem dX6_byteAt_84 : decode cX6_byteAt 84 = .ok (.ireturn, 1) := by decide +kernel
theorem dX6_byteAt_85 : decode cX6_byteAt 85 = .ok (.aload_n 0, 1) := by decide +kernel
theorem dX6_byteAt_86 : decode cX6_byteAt 86 = .ok (.getfield 43, 3) := by decide +kernel
theorem dX6_byteAt_89 : decode cX6_byteAt 89 = .ok (.iload_n 3, 1) := by decide +kernel
theorem dX6_byteAt_90 : decode cX6_byteAt 90 = .ok (.baload, 1) := by decide +kernel
theorem dX6_byteAt_91 : decode cX6_byteAt 91 = .ok (.sipush 255, 3) := by decide +kernel
theorem dX6_byteAt_94 : decode cX6_byteAt 94 = .ok (.iand, 1) := by decide +kernel
theorem dX6_byteAt_95 : decode cX6_byteAt 95 = .ok (.ireturn, 1) := by decide +kernel
theorem dX6_byteAt_96 : decode cX6_byteAt 96 = .ok (.aload_n 0, 1) := by decide +kernel
theorem dX6_byteAt_97 : decode cX6_byteAt 97 = .ok (.getfield 46, 3) := by decide +kernel
theorem dX6_byteAt_100 : decode cX6_byteAt 100 = .ok (.iload_n 3, 1) := by decide +kernel
theorem dX6_byteAt_101 : decode cX6_byteAt 101 = .ok (.baload, 1) := by decide +kernel
theorem dX6_byteAt_102 : decode cX6_byteAt 102 = .ok (.sipush 255, 3) := by decide +kernel
theorem dX6_byteAt_105 : decode cX6_byteAt 105 = .ok (.iand, 1) := by decide +kernel
theorem dX6_byteAt_106 : decode cX6_byteAt 106 = .ok (.ireturn, 1) := by decide +kernel
theorem dX6_byteAt_107 : decode cX6_byteAt 107 = .ok (.aload_n 0, 1) := by decide +kernel
theorem dX6_byteAt_108 : decode cX6_byteAt 108 = .ok (.getfield 49, 3) := by decide +kernel
theorem dX6_byteAt_111 : decode cX6_byteAt 111 = .ok (.iload_n 3, 1) := by decide +kernel
theorem dX6_byteAt_112 : decode cX6_byteAt 112 = .ok (.baload, 1) := by decide +kernel
theorem dX6_byteAt_113 : decode cX6_byteAt 113 = .ok (.sipush 255, 3) := by decide +kernel
theorem dX6_byteAt_116 : decode cX6_byteAt 116 = .ok (.iand, 1) := by decide +kernel
theorem dX6_byteAt_117 : decode cX6_byteAt 117 = .ok (.ireturn, 1) := by decide +kernel
theorem dX6_byteAt_118 : decode cX6_byteAt 118 = .ok (.aload_n 0, 1) := by decide +kernel
theorem dX6_byteAt_119 : decode cX6_byteAt 119 = .ok (.getfield 52, 3) := by decide +kernel
theorem dX6_byteAt_122 : decode cX6_byteAt 122 = .ok (.iload_n 3, 1) := by decide +kernel
theorem dX6_byteAt_123 : decode cX6_byteAt 123 = .ok (.baload, 1) := by decide +kernel
theorem dX6_byteAt_124 : decode cX6_byteAt 124 = .ok (.sipush 255, 3) := by decide +kernel
theorem dX6_byteAt_127 : decode cX6_byteAt 127 = .ok (.iand, 1) := by decide +kernel
theorem dX6_byteAt_128 : decode cX6_byteAt 128 = .ok (.ireturn, 1) := by decide +kernel
theorem dX6_countOf_0 : decode cX6_countOf 0 = .ok (.iconst 0, 1) := by decide +kernel
theorem dX6_countOf_1 : decode cX6_countOf 1 = .ok (.istore_n 2, 1) := by decide +kernel
theorem dX6_countOf_2 : decode cX6_countOf 2 = .ok (.iconst 0, 1) := by decide +kernel
theorem dX6_countOf_3 : decode cX6_countOf 3 = .ok (.istore_n 3, 1) := by decide +kernel
theorem dX6_countOf_4 : decode cX6_countOf 4 = .ok (.iload_n 3, 1) := by decide +kernel
theorem dX6_countOf_5 : decode cX6_countOf 5 = .ok (.sipush 600, 3) := by decide +kernel
theorem dX6_countOf_8 : decode cX6_countOf 8 = .ok (.if_icmp .ge 27, 3) := by decide +kernel
theorem dX6_countOf_11 : decode cX6_countOf 11 = .ok (.iload_n 2, 1) := by decide +kernel
theorem dX6_countOf_12 : decode cX6_countOf 12 = .ok (.aload_n 0, 1) := by decide +kernel
theorem dX6_countOf_13 : decode cX6_countOf 13 = .ok (.getfield 7, 3) := by decide +kernel
theorem dX6_countOf_16 : decode cX6_countOf 16 = .ok (.iload_n 3, 1) := by decide +kernel
theorem dX6_countOf_17 : decode cX6_countOf 17 = .ok (.iaload, 1) := by decide +kernel
theorem dX6_countOf_18 : decode cX6_countOf 18 = .ok (.iload_n 1, 1) := by decide +kernel
theorem dX6_countOf_19 : decode cX6_countOf 19 = .ok (.if_icmp .ne 7, 3) := by decide +kernel
theorem dX6_countOf_22 : decode cX6_countOf 22 = .ok (.iconst 1, 1) := by decide +kernel
theorem dX6_countOf_23 : decode cX6_countOf 23 = .ok (.goto 4, 3) := by decide +kernel
theorem dX6_countOf_26 : decode cX6_countOf 26 = .ok (.iconst 0, 1) := by decide +kernel
theorem dX6_countOf_27 : decode cX6_countOf 27 = .ok (.iadd, 1) := by decide +kernel
theorem dX6_countOf_28 : decode cX6_countOf 28 = .ok (.istore_n 2, 1) := by decide +kernel
theorem dX6_countOf_29 : decode cX6_countOf 29 = .ok (.iinc 3 1, 3) := by decide +kernel
theorem dX6_countOf_32 : decode cX6_countOf 32 = .ok (.goto (-28), 3) := by decide +kernel
theorem dX6_countOf_35 : decode cX6_countOf 35 = .ok (.iload_n 2, 1) := by decide +kernel
theorem dX6_countOf_36 : decode cX6_countOf 36 = .ok (.ireturn, 1) := by decide +kernel
theorem dX6_find_0 : decode cX6_find 0 = .ok (.iconst 0, 1) := by decide +kernel
theorem dX6_find_1 : decode cX6_find 1 = .ok (.istore_n 1, 1) := by decide +kernel
theorem dX6_find_2 : decode cX6_find 2 = .ok (.iload_n 1, 1) := by decide +kernel
theorem dX6_find_3 : decode cX6_find 3 = .ok (.sipush 600, 3) := by decide +kernel
theorem dX6_find_6 : decode cX6_find 6 = .ok (.if_icmp .ge 87, 3) := by decide +kernel
theorem dX6_find_9 : decode cX6_find 9 = .ok (.aload_n 0, 1) := by decide +kernel
theorem dX6_find_10 : decode cX6_find 10 = .ok (.getfield 7, 3) := by decide +kernel
theorem dX6_find_13 : decode cX6_find 13 = .ok (.iload_n 1, 1) := by decide +kernel
theorem dX6_find_14 : decode cX6_find 14 = .ok (.iaload, 1) := by decide +kernel
theorem dX6_find_15 : decode cX6_find 15 = .ok (.iconst 1, 1) := by decide +kernel
theorem dX6_find_16 : decode cX6_find 16 = .ok (.if_icmp .ne 20, 3) := by decide +kernel
theorem dX6_find_19 : decode cX6_find 19 = .ok (.aload_n 0, 1) := by decide +kernel
theorem dX6_find_20 : decode cX6_find 20 = .ok (.getfield 17, 3) := by decide +kernel
theorem dX6_find_23 : decode cX6_find 23 = .ok (.iload_n 1, 1) := by decide +kernel
theorem dX6_find_24 : decode cX6_find 24 = .ok (.iaload, 1) := by decide +kernel
theorem dX6_find_25 : decode cX6_find 25 = .ok (.aload_n 0, 1) := by decide +kernel
theorem dX6_find_26 : decode cX6_find 26 = .ok (.getfield 74, 3) := by decide +kernel
theorem dX6_find_29 : decode cX6_find 29 = .ok (.if_icmp .ne 7, 3) := by decide +kernel
theorem dX6_find_32 : decode cX6_find 32 = .ok (.iconst 1, 1) := by decide +kernel
theorem dX6_find_33 : decode cX6_find 33 = .ok (.goto 4, 3) := by decide +kernel
theorem dX6_find_36 : decode cX6_find 36 = .ok (.iconst 0, 1) := by decide +kernel
theorem dX6_find_37 : decode cX6_find 37 = .ok (.istore_n 2, 1) := by decide +kernel
theorem dX6_find_38 : decode cX6_find 38 = .ok (.iconst 0, 1) := by decide +kernel
theorem dX6_find_39 : decode cX6_find 39 = .ok (.istore_n 3, 1) := by decide +kernel
theorem dX6_find_40 : decode cX6_find 40 = .ok (.iload_n 3, 1) := by decide +kernel
theorem dX6_find_41 : decode cX6_find 41 = .ok (.iconst 4, 1) := by decide +kernel
theorem dX6_find_42 : decode cX6_find 42 = .ok (.if_icmp .ge 39, 3) := by decide +kernel
theorem dX6_find_45 : decode cX6_find 45 = .ok (.iload_n 2, 1) := by decide +kernel
theorem dX6_find_46 : decode cX6_find 46 = .ok (.ifCond .eq 27, 3) := by decide +kernel
theorem dX6_find_49 : decode cX6_find 49 = .ok (.aload_n 0, 1) := by decide +kernel
theorem dX6_find_50 : decode cX6_find 50 = .ok (.getfield 13, 3) := by decide +kernel
theorem dX6_find_53 : decode cX6_find 53 = .ok (.iconst 4, 1) := by decide +kernel
theorem dX6_find_54 : decode cX6_find 54 = .ok (.iload_n 1, 1) := by decide +kernel
theorem dX6_find_55 : decode cX6_find 55 = .ok (.imul, 1) := by decide +kernel
theorem dX6_find_56 : decode cX6_find 56 = .ok (.iload_n 3, 1) := by decide +kernel
theorem dX6_find_57 : decode cX6_find 57 = .ok (.iadd, 1) := by decide +kernel
theorem dX6_find_58 : decode cX6_find 58 = .ok (.laload, 1) := by decide +kernel
theorem dX6_find_59 : decode cX6_find 59 = .ok (.aload_n 0, 1) := by decide +kernel
theorem dX6_find_60 : decode cX6_find 60 = .ok (.getfield 55, 3) := by decide +kernel
theorem dX6_find_63 : decode cX6_find 63 = .ok (.iload_n 3, 1) := by decide +kernel
theorem dX6_find_64 : decode cX6_find 64 = .ok (.laload, 1) := by decide +kernel
theorem dX6_find_65 : decode cX6_find 65 = .ok (.lcmp, 1) := by decide +kernel
theorem dX6_find_66 : decode cX6_find 66 = .ok (.ifCond .ne 7, 3) := by decide +kernel
theorem dX6_find_69 : decode cX6_find 69 = .ok (.iconst 1, 1) := by decide +kernel
theorem dX6_find_70 : decode cX6_find 70 = .ok (.goto 4, 3) := by decide +kernel
theorem dX6_find_73 : decode cX6_find 73 = .ok (.iconst 0, 1) := by decide +kernel
theorem dX6_find_74 : decode cX6_find 74 = .ok (.istore_n 2, 1) := by decide +kernel
theorem dX6_find_75 : decode cX6_find 75 = .ok (.iinc 3 1, 3) := by decide +kernel
theorem dX6_find_78 : decode cX6_find 78 = .ok (.goto (-38), 3) := by decide +kernel
theorem dX6_find_81 : decode cX6_find 81 = .ok (.iload_n 2, 1) := by decide +kernel
theorem dX6_find_82 : decode cX6_find 82 = .ok (.ifCond .eq 5, 3) := by decide +kernel
theorem dX6_find_85 : decode cX6_find 85 = .ok (.iload_n 1, 1) := by decide +kernel
theorem dX6_find_86 : decode cX6_find 86 = .ok (.ireturn, 1) := by decide +kernel
theorem dX6_find_87 : decode cX6_find 87 = .ok (.iinc 1 1, 3) := by decide +kernel
theorem dX6_find_90 : decode cX6_find 90 = .ok (.goto (-88), 3) := by decide +kernel
theorem dX6_find_93 : decode cX6_find 93 = .ok (.iconst (-1), 1) := by decide +kernel
theorem dX6_find_94 : decode cX6_find 94 = .ok (.ireturn, 1) := by decide +kernel
theorem dX6_note_0 : decode cX6_note 0 = .ok (.aload_n 0, 1) := by decide +kernel
theorem dX6_note_1 : decode cX6_note 1 = .ok (.getfield 61, 3) := by decide +kernel
theorem dX6_note_4 : decode cX6_note 4 = .ok (.aload_n 0, 1) := by decide +kernel
theorem dX6_note_5 : decode cX6_note 5 = .ok (.getfield 94, 3) := by decide +kernel
theorem dX6_note_8 : decode cX6_note 8 = .ok (.iload_n 1, 1) := by decide +kernel
theorem dX6_note_9 : decode cX6_note 9 = .ok (.iastore, 1) := by decide +kernel
theorem dX6_note_10 : decode cX6_note 10 = .ok (.aload_n 0, 1) := by decide +kernel
theorem dX6_note_11 : decode cX6_note 11 = .ok (.getfield 64, 3) := by decide +kernel
theorem dX6_note_14 : decode cX6_note 14 = .ok (.aload_n 0, 1) := by decide +kernel
theorem dX6_note_15 : decode cX6_note 15 = .ok (.getfield 94, 3) := by decide +kernel
theorem dX6_note_18 : decode cX6_note 18 = .ok (.iload_n 2, 1) := by decide +kernel
theorem dX6_note_19 : decode cX6_note 19 = .ok (.iastore, 1) := by decide +kernel
theorem dX6_note_20 : decode cX6_note 20 = .ok (.aload_n 0, 1) := by decide +kernel
theorem dX6_note_21 : decode cX6_note 21 = .ok (.getfield 67, 3) := by decide +kernel
theorem dX6_note_24 : decode cX6_note 24 = .ok (.aload_n 0, 1) := by decide +kernel
theorem dX6_note_25 : decode cX6_note 25 = .ok (.getfield 94, 3) := by decide +kernel
theorem dX6_note_28 : decode cX6_note 28 = .ok (.aload_n 0, 1) := by decide +kernel
theorem dX6_note_29 : decode cX6_note 29 = .ok (.getfield 80, 3) := by decide +kernel
theorem dX6_note_32 : decode cX6_note 32 = .ok (.iastore, 1) := by decide +kernel
theorem dX6_note_33 : decode cX6_note 33 = .ok (.aload_n 0, 1) := by decide +kernel
theorem dX6_note_34 : decode cX6_note 34 = .ok (.aload_n 0, 1) := by decide +kernel
theorem dX6_note_35 : decode cX6_note 35 = .ok (.getfield 94, 3) := by decide +kernel
theorem dX6_note_38 : decode cX6_note 38 = .ok (.iconst 1, 1) := by decide +kernel
theorem dX6_note_39 : decode cX6_note 39 = .ok (.iadd, 1) := by decide +kernel
theorem dX6_note_40 : decode cX6_note 40 = .ok (.putfield 94, 3) := by decide +kernel
theorem dX6_note_43 : decode cX6_note 43 = .ok (.return_, 1) := by decide +kernel
theorem dX6_make_0 : decode cX6_make 0 = .ok (.aload_n 0, 1) := by decide +kernel
theorem dX6_make_1 : decode cX6_make 1 = .ok (.getfield 86, 3) := by decide +kernel
theorem dX6_make_4 : decode cX6_make 4 = .ok (.ifCond .ne 5, 3) := by decide +kernel
theorem dX6_make_7 : decode cX6_make 7 = .ok (.iconst 1, 1) := by decide +kernel
theorem dX6_make_8 : decode cX6_make 8 = .ok (.ireturn, 1) := by decide +kernel
theorem dX6_make_9 : decode cX6_make 9 = .ok (.aload_n 0, 1) := by decide +kernel
theorem dX6_make_10 : decode cX6_make 10 = .ok (.invokevirtual 97, 3) := by decide +kernel
theorem dX6_make_13 : decode cX6_make 13 = .ok (.ifCond .lt 5, 3) := by decide +kernel
theorem dX6_make_16 : decode cX6_make 16 = .ok (.iconst 2, 1) := by decide +kernel
theorem dX6_make_17 : decode cX6_make 17 = .ok (.ireturn, 1) := by decide +kernel
theorem dX6_make_18 : decode cX6_make 18 = .ok (.aload_n 0, 1) := by decide +kernel
theorem dX6_make_19 : decode cX6_make 19 = .ok (.iconst 1, 1) := by decide +kernel
theorem dX6_make_20 : decode cX6_make 20 = .ok (.invokevirtual 100, 3) := by decide +kernel
theorem dX6_make_23 : decode cX6_make 23 = .ok (.aload_n 0, 1) := by decide +kernel
theorem dX6_make_24 : decode cX6_make 24 = .ok (.getfield 70, 3) := by decide +kernel
theorem dX6_make_27 : decode cX6_make 27 = .ok (.if_icmp .ne 5, 3) := by decide +kernel
theorem dX6_make_30 : decode cX6_make 30 = .ok (.iconst 3, 1) := by decide +kernel
theorem dX6_make_31 : decode cX6_make 31 = .ok (.ireturn, 1) := by decide +kernel
theorem dX6_make_32 : decode cX6_make 32 = .ok (.iconst 0, 1) := by decide +kernel
theorem dX6_make_33 : decode cX6_make 33 = .ok (.istore 4, 2) := by decide +kernel
theorem dX6_make_35 : decode cX6_make 35 = .ok (.aload_n 0, 1) := by decide +kernel
theorem dX6_make_36 : decode cX6_make 36 = .ok (.getfield 7, 3) := by decide +kernel
theorem dX6_make_39 : decode cX6_make 39 = .ok (.iload 4, 2) := by decide +kernel
theorem dX6_make_41 : decode cX6_make 41 = .ok (.iaload, 1) := by decide +kernel
theorem dX6_make_42 : decode cX6_make 42 = .ok (.ifCond .eq 12, 3) := by decide +kernel
theorem dX6_make_45 : decode cX6_make 45 = .ok (.iload 4, 2) := by decide +kernel
theorem dX6_make_47 : decode cX6_make 47 = .ok (.iconst 1, 1) := by decide +kernel
theorem dX6_make_48 : decode cX6_make 48 = .ok (.iadd, 1) := by decide +kernel
theorem dX6_make_49 : decode cX6_make 49 = .ok (.istore 4, 2) := by decide +kernel
theorem dX6_make_51 : decode cX6_make 51 = .ok (.goto (-16), 3) := by decide +kernel
theorem dX6_make_54 : decode cX6_make 54 = .ok (.aload_n 0, 1) := by decide +kernel
theorem dX6_make_55 : decode cX6_make 55 = .ok (.getfield 7, 3) := by decide +kernel
theorem dX6_make_58 : decode cX6_make 58 = .ok (.iload 4, 2) := by decide +kernel
theorem dX6_make_60 : decode cX6_make 60 = .ok (.iconst 1, 1) := by decide +kernel
theorem dX6_make_61 : decode cX6_make 61 = .ok (.iastore, 1) := by decide +kernel
theorem dX6_make_62 : decode cX6_make 62 = .ok (.iconst 0, 1) := by decide +kernel
theorem dX6_make_63 : decode cX6_make 63 = .ok (.istore 5, 2) := by decide +kernel
theorem dX6_make_65 : decode cX6_make 65 = .ok (.iload 5, 2) := by decide +kernel
theorem dX6_make_67 : decode cX6_make 67 = .ok (.iconst 4, 1) := by decide +kernel
theorem dX6_make_68 : decode cX6_make 68 = .ok (.if_icmp .ge 28, 3) := by decide +kernel
theorem dX6_make_71 : decode cX6_make 71 = .ok (.aload_n 0, 1) := by decide +kernel
theorem dX6_make_72 : decode cX6_make 72 = .ok (.getfield 13, 3) := by decide +kernel
theorem dX6_make_75 : decode cX6_make 75 = .ok (.iconst 4, 1) := by decide +kernel
theorem dX6_make_76 : decode cX6_make 76 = .ok (.iload 4, 2) := by decide +kernel
theorem dX6_make_78 : decode cX6_make 78 = .ok (.imul, 1) := by decide +kernel
theorem dX6_make_79 : decode cX6_make 79 = .ok (.iload 5, 2) := by decide +kernel
theorem dX6_make_81 : decode cX6_make 81 = .ok (.iadd, 1) := by decide +kernel
theorem dX6_make_82 : decode cX6_make 82 = .ok (.aload_n 0, 1) := by decide +kernel
theorem dX6_make_83 : decode cX6_make 83 = .ok (.getfield 55, 3) := by decide +kernel
theorem dX6_make_86 : decode cX6_make 86 = .ok (.iload 5, 2) := by decide +kernel
theorem dX6_make_88 : decode cX6_make 88 = .ok (.laload, 1) := by decide +kernel
theorem dX6_make_89 : decode cX6_make 89 = .ok (.lastore, 1) := by decide +kernel
theorem dX6_make_90 : decode cX6_make 90 = .ok (.iinc 5 1, 3) := by decide +kernel
theorem dX6_make_93 : decode cX6_make 93 = .ok (.goto (-28), 3) := by decide +kernel
theorem dX6_make_96 : decode cX6_make 96 = .ok (.aload_n 0, 1) := by decide +kernel
theorem dX6_make_97 : decode cX6_make 97 = .ok (.getfield 17, 3) := by decide +kernel
theorem dX6_make_100 : decode cX6_make 100 = .ok (.iload 4, 2) := by decide +kernel
theorem dX6_make_102 : decode cX6_make 102 = .ok (.aload_n 0, 1) := by decide +kernel
theorem dX6_make_103 : decode cX6_make 103 = .ok (.getfield 74, 3) := by decide +kernel
theorem dX6_make_106 : decode cX6_make 106 = .ok (.iastore, 1) := by decide +kernel
theorem dX6_make_107 : decode cX6_make 107 = .ok (.aload_n 0, 1) := by decide +kernel
theorem dX6_make_108 : decode cX6_make 108 = .ok (.getfield 20, 3) := by decide +kernel
theorem dX6_make_111 : decode cX6_make 111 = .ok (.iload 4, 2) := by decide +kernel
theorem dX6_make_113 : decode cX6_make 113 = .ok (.lload_n 1, 1) := by decide +kernel
theorem dX6_make_114 : decode cX6_make 114 = .ok (.lastore, 1) := by decide +kernel
theorem dX6_make_115 : decode cX6_make 115 = .ok (.aload_n 0, 1) := by decide +kernel
theorem dX6_make_116 : decode cX6_make 116 = .ok (.getfield 23, 3) := by decide +kernel
theorem dX6_make_119 : decode cX6_make 119 = .ok (.iload 4, 2) := by decide +kernel
theorem dX6_make_121 : decode cX6_make 121 = .ok (.aload_n 0, 1) := by decide +kernel
theorem dX6_make_122 : decode cX6_make 122 = .ok (.getfield 80, 3) := by decide +kernel
theorem dX6_make_125 : decode cX6_make 125 = .ok (.iastore, 1) := by decide +kernel
theorem dX6_make_126 : decode cX6_make 126 = .ok (.aload_n 0, 1) := by decide +kernel
theorem dX6_make_127 : decode cX6_make 127 = .ok (.getfield 26, 3) := by decide +kernel
theorem dX6_make_130 : decode cX6_make 130 = .ok (.iload 4, 2) := by decide +kernel
theorem dX6_make_132 : decode cX6_make 132 = .ok (.iload_n 3, 1) := by decide +kernel
theorem dX6_make_133 : decode cX6_make 133 = .ok (.bastore, 1) := by decide +kernel
theorem dX6_make_134 : decode cX6_make 134 = .ok (.aload_n 0, 1) := by decide +kernel
theorem dX6_make_135 : decode cX6_make 135 = .ok (.getfield 30, 3) := by decide +kernel
theorem dX6_make_138 : decode cX6_make 138 = .ok (.iload 4, 2) := by decide +kernel
theorem dX6_make_140 : decode cX6_make 140 = .ok (.aload_n 0, 1) := by decide +kernel
theorem dX6_make_141 : decode cX6_make 141 = .ok (.getfield 77, 3) := by decide +kernel
theorem dX6_make_144 : decode cX6_make 144 = .ok (.iastore, 1) := by decide +kernel
theorem dX6_make_145 : decode cX6_make 145 = .ok (.iconst 0, 1) := by decide +kernel
theorem dX6_make_146 : decode cX6_make 146 = .ok (.istore 5, 2) := by decide +kernel
theorem dX6_make_148 : decode cX6_make 148 = .ok (.iload 5, 2) := by decide +kernel
theorem dX6_make_150 : decode cX6_make 150 = .ok (.aload_n 0, 1) := by decide +kernel
theorem dX6_make_151 : decode cX6_make 151 = .ok (.getfield 77, 3) := by decide +kernel
theorem dX6_make_154 : decode cX6_make 154 = .ok (.if_icmp .ge 24, 3) := by decide +kernel
theorem dX6_make_157 : decode cX6_make 157 = .ok (.aload_n 0, 1) := by decide +kernel
theorem dX6_make_158 : decode cX6_make 158 = .ok (.iload 4, 2) := by decide +kernel
theorem dX6_make_160 : decode cX6_make 160 = .ok (.iload 5, 2) := by decide +kernel
theorem dX6_make_162 : decode cX6_make 162 = .ok (.aload_n 0, 1) := by decide +kernel
theorem dX6_make_163 : decode cX6_make 163 = .ok (.getfield 58, 3) := by decide +kernel
theorem dX6_make_166 : decode cX6_make 166 = .ok (.iload 5, 2) := by decide +kernel
theorem dX6_make_168 : decode cX6_make 168 = .ok (.baload, 1) := by decide +kernel
theorem dX6_make_169 : decode cX6_make 169 = .ok (.invokevirtual 104, 3) := by decide +kernel
theorem dX6_make_172 : decode cX6_make 172 = .ok (.iinc 5 1, 3) := by decide +kernel
theorem dX6_make_175 : decode cX6_make 175 = .ok (.goto (-27), 3) := by decide +kernel
theorem dX6_make_178 : decode cX6_make 178 = .ok (.aload_n 0, 1) := by decide +kernel
theorem dX6_make_179 : decode cX6_make 179 = .ok (.iload 4, 2) := by decide +kernel
theorem dX6_make_181 : decode cX6_make 181 = .ok (.iconst 1, 1) := by decide +kernel
theorem dX6_make_182 : decode cX6_make 182 = .ok (.invokevirtual 108, 3) := by decide +kernel
theorem dX6_make_185 : decode cX6_make 185 = .ok (.iconst 0, 1) := by decide +kernel
theorem dX6_make_186 : decode cX6_make 186 = .ok (.ireturn, 1) := by decide +kernel
theorem dX6_spend_0 : decode cX6_spend 0 = .ok (.aload_n 0, 1) := by decide +kernel
theorem dX6_spend_1 : decode cX6_spend 1 = .ok (.getfield 86, 3) := by decide +kernel
theorem dX6_spend_4 : decode cX6_spend 4 = .ok (.ifCond .ne 5, 3) := by decide +kernel
theorem dX6_spend_7 : decode cX6_spend 7 = .ok (.iconst 1, 1) := by decide +kernel
theorem dX6_spend_8 : decode cX6_spend 8 = .ok (.ireturn, 1) := by decide +kernel
theorem dX6_spend_9 : decode cX6_spend 9 = .ok (.aload_n 0, 1) := by decide +kernel
theorem dX6_spend_10 : decode cX6_spend 10 = .ok (.invokevirtual 97, 3) := by decide +kernel
theorem dX6_spend_13 : decode cX6_spend 13 = .ok (.istore_n 1, 1) := by decide +kernel
theorem dX6_spend_14 : decode cX6_spend 14 = .ok (.iload_n 1, 1) := by decide +kernel
theorem dX6_spend_15 : decode cX6_spend 15 = .ok (.ifCond .ge 5, 3) := by decide +kernel
theorem dX6_spend_18 : decode cX6_spend 18 = .ok (.iconst 2, 1) := by decide +kernel
theorem dX6_spend_19 : decode cX6_spend 19 = .ok (.ireturn, 1) := by decide +kernel
theorem dX6_spend_20 : decode cX6_spend 20 = .ok (.aload_n 0, 1) := by decide +kernel
theorem dX6_spend_21 : decode cX6_spend 21 = .ok (.iconst 2, 1) := by decide +kernel
theorem dX6_spend_22 : decode cX6_spend 22 = .ok (.invokevirtual 100, 3) := by decide +kernel
theorem dX6_spend_25 : decode cX6_spend 25 = .ok (.iconst 2, 1) := by decide +kernel
theorem dX6_spend_26 : decode cX6_spend 26 = .ok (.aload_n 0, 1) := by decide +kernel
theorem dX6_spend_27 : decode cX6_spend 27 = .ok (.getfield 70, 3) := by decide +kernel
theorem dX6_spend_30 : decode cX6_spend 30 = .ok (.imul, 1) := by decide +kernel
theorem dX6_spend_31 : decode cX6_spend 31 = .ok (.if_icmp .ne 5, 3) := by decide +kernel
theorem dX6_spend_34 : decode cX6_spend 34 = .ok (.iconst 3, 1) := by decide +kernel
theorem dX6_spend_35 : decode cX6_spend 35 = .ok (.ireturn, 1) := by decide +kernel
theorem dX6_spend_36 : decode cX6_spend 36 = .ok (.aload_n 0, 1) := by decide +kernel
theorem dX6_spend_37 : decode cX6_spend 37 = .ok (.getfield 7, 3) := by decide +kernel
theorem dX6_spend_40 : decode cX6_spend 40 = .ok (.iload_n 1, 1) := by decide +kernel
theorem dX6_spend_41 : decode cX6_spend 41 = .ok (.iconst 2, 1) := by decide +kernel
theorem dX6_spend_42 : decode cX6_spend 42 = .ok (.iastore, 1) := by decide +kernel
theorem dX6_spend_43 : decode cX6_spend 43 = .ok (.aload_n 0, 1) := by decide +kernel
theorem dX6_spend_44 : decode cX6_spend 44 = .ok (.iload_n 1, 1) := by decide +kernel
theorem dX6_spend_45 : decode cX6_spend 45 = .ok (.iconst 2, 1) := by decide +kernel
theorem dX6_spend_46 : decode cX6_spend 46 = .ok (.invokevirtual 108, 3) := by decide +kernel
theorem dX6_spend_49 : decode cX6_spend 49 = .ok (.iconst 0, 1) := by decide +kernel
theorem dX6_spend_50 : decode cX6_spend 50 = .ok (.ireturn, 1) := by decide +kernel
theorem dX6_end_0 : decode cX6_end 0 = .ok (.aload_n 0, 1) := by decide +kernel
theorem dX6_end_1 : decode cX6_end 1 = .ok (.getfield 86, 3) := by decide +kernel
theorem dX6_end_4 : decode cX6_end 4 = .ok (.ifCond .ne 5, 3) := by decide +kernel
theorem dX6_end_7 : decode cX6_end 7 = .ok (.iconst (-1), 1) := by decide +kernel
theorem dX6_end_8 : decode cX6_end 8 = .ok (.ireturn, 1) := by decide +kernel
theorem dX6_end_9 : decode cX6_end 9 = .ok (.iconst 0, 1) := by decide +kernel
theorem dX6_end_10 : decode cX6_end 10 = .ok (.istore_n 1, 1) := by decide +kernel
theorem dX6_end_11 : decode cX6_end 11 = .ok (.iconst 0, 1) := by decide +kernel
theorem dX6_end_12 : decode cX6_end 12 = .ok (.istore_n 2, 1) := by decide +kernel
theorem dX6_end_13 : decode cX6_end 13 = .ok (.iload_n 2, 1) := by decide +kernel
theorem dX6_end_14 : decode cX6_end 14 = .ok (.aload_n 0, 1) := by decide +kernel
theorem dX6_end_15 : decode cX6_end 15 = .ok (.getfield 94, 3) := by decide +kernel
theorem dX6_end_18 : decode cX6_end 18 = .ok (.if_icmp .ge 30, 3) := by decide +kernel
theorem dX6_end_21 : decode cX6_end 21 = .ok (.iload_n 1, 1) := by decide +kernel
theorem dX6_end_22 : decode cX6_end 22 = .ok (.aload_n 0, 1) := by decide +kernel
theorem dX6_end_23 : decode cX6_end 23 = .ok (.getfield 67, 3) := by decide +kernel
theorem dX6_end_26 : decode cX6_end 26 = .ok (.iload_n 2, 1) := by decide +kernel
theorem dX6_end_27 : decode cX6_end 27 = .ok (.iaload, 1) := by decide +kernel
theorem dX6_end_28 : decode cX6_end 28 = .ok (.aload_n 0, 1) := by decide +kernel
theorem dX6_end_29 : decode cX6_end 29 = .ok (.getfield 80, 3) := by decide +kernel
theorem dX6_end_32 : decode cX6_end 32 = .ok (.if_icmp .ne 7, 3) := by decide +kernel
theorem dX6_end_35 : decode cX6_end 35 = .ok (.iconst 1, 1) := by decide +kernel
theorem dX6_end_36 : decode cX6_end 36 = .ok (.goto 4, 3) := by decide +kernel
theorem dX6_end_39 : decode cX6_end 39 = .ok (.iconst 0, 1) := by decide +kernel
theorem dX6_end_40 : decode cX6_end 40 = .ok (.iadd, 1) := by decide +kernel
theorem dX6_end_41 : decode cX6_end 41 = .ok (.istore_n 1, 1) := by decide +kernel
theorem dX6_end_42 : decode cX6_end 42 = .ok (.iinc 2 1, 3) := by decide +kernel
theorem dX6_end_45 : decode cX6_end 45 = .ok (.goto (-32), 3) := by decide +kernel
theorem dX6_end_48 : decode cX6_end 48 = .ok (.aload_n 0, 1) := by decide +kernel
theorem dX6_end_49 : decode cX6_end 49 = .ok (.iconst 0, 1) := by decide +kernel
theorem dX6_end_50 : decode cX6_end 50 = .ok (.putfield 86, 3) := by decide +kernel
theorem dX6_end_53 : decode cX6_end 53 = .ok (.aload_n 0, 1) := by decide +kernel
theorem dX6_end_54 : decode cX6_end 54 = .ok (.aload_n 0, 1) := by decide +kernel
theorem dX6_end_55 : decode cX6_end 55 = .ok (.getfield 80, 3) := by decide +kernel
theorem dX6_end_58 : decode cX6_end 58 = .ok (.iconst 1, 1) := by decide +kernel
theorem dX6_end_59 : decode cX6_end 59 = .ok (.iadd, 1) := by decide +kernel
theorem dX6_end_60 : decode cX6_end 60 = .ok (.putfield 80, 3) := by decide +kernel
theorem dX6_end_63 : decode cX6_end 63 = .ok (.iload_n 1, 1) := by decide +kernel
theorem dX6_end_64 : decode cX6_end 64 = .ok (.ireturn, 1) := by decide +kernel
theorem dX6_back_0 : decode cX6_back 0 = .ok (.aload_n 0, 1) := by decide +kernel
theorem dX6_back_1 : decode cX6_back 1 = .ok (.invokevirtual 90, 3) := by decide +kernel
theorem dX6_back_4 : decode cX6_back 4 = .ok (.ifCond .ne 5, 3) := by decide +kernel
theorem dX6_back_7 : decode cX6_back 7 = .ok (.iconst (-1), 1) := by decide +kernel
theorem dX6_back_8 : decode cX6_back 8 = .ok (.ireturn, 1) := by decide +kernel
theorem dX6_back_9 : decode cX6_back 9 = .ok (.aload_n 0, 1) := by decide +kernel
theorem dX6_back_10 : decode cX6_back 10 = .ok (.getfield 86, 3) := by decide +kernel
theorem dX6_back_13 : decode cX6_back 13 = .ok (.ifCond .ne 13, 3) := by decide +kernel
theorem dX6_back_16 : decode cX6_back 16 = .ok (.aload_n 0, 1) := by decide +kernel
theorem dX6_back_17 : decode cX6_back 17 = .ok (.aload_n 0, 1) := by decide +kernel
theorem dX6_back_18 : decode cX6_back 18 = .ok (.getfield 80, 3) := by decide +kernel
theorem dX6_back_21 : decode cX6_back 21 = .ok (.iconst 1, 1) := by decide +kernel
theorem dX6_back_22 : decode cX6_back 22 = .ok (.isub, 1) := by decide +kernel
theorem dX6_back_23 : decode cX6_back 23 = .ok (.putfield 80, 3) := by decide +kernel
theorem dX6_back_26 : decode cX6_back 26 = .ok (.aload_n 0, 1) := by decide +kernel
theorem dX6_back_27 : decode cX6_back 27 = .ok (.iconst 0, 1) := by decide +kernel
theorem dX6_back_28 : decode cX6_back 28 = .ok (.putfield 86, 3) := by decide +kernel
theorem dX6_back_31 : decode cX6_back 31 = .ok (.iconst 0, 1) := by decide +kernel
theorem dX6_back_32 : decode cX6_back 32 = .ok (.istore_n 1, 1) := by decide +kernel
theorem dX6_back_33 : decode cX6_back 33 = .ok (.aload_n 0, 1) := by decide +kernel
theorem dX6_back_34 : decode cX6_back 34 = .ok (.getfield 94, 3) := by decide +kernel
theorem dX6_back_37 : decode cX6_back 37 = .ok (.ifCond .le 70, 3) := by decide +kernel
theorem dX6_back_40 : decode cX6_back 40 = .ok (.aload_n 0, 1) := by decide +kernel
theorem dX6_back_41 : decode cX6_back 41 = .ok (.getfield 67, 3) := by decide +kernel
theorem dX6_back_44 : decode cX6_back 44 = .ok (.aload_n 0, 1) := by decide +kernel
theorem dX6_back_45 : decode cX6_back 45 = .ok (.getfield 94, 3) := by decide +kernel
theorem dX6_back_48 : decode cX6_back 48 = .ok (.iconst 1, 1) := by decide +kernel
theorem dX6_back_49 : decode cX6_back 49 = .ok (.isub, 1) := by decide +kernel
theorem dX6_back_50 : decode cX6_back 50 = .ok (.iaload, 1) := by decide +kernel
theorem dX6_back_51 : decode cX6_back 51 = .ok (.aload_n 0, 1) := by decide +kernel
theorem dX6_back_52 : decode cX6_back 52 = .ok (.getfield 80, 3) := by decide +kernel
theorem dX6_back_55 : decode cX6_back 55 = .ok (.if_icmp .ne 52, 3) := by decide +kernel
theorem dX6_back_58 : decode cX6_back 58 = .ok (.aload_n 0, 1) := by decide +kernel
theorem dX6_back_59 : decode cX6_back 59 = .ok (.aload_n 0, 1) := by decide +kernel
theorem dX6_back_60 : decode cX6_back 60 = .ok (.getfield 94, 3) := by decide +kernel
theorem dX6_back_63 : decode cX6_back 63 = .ok (.iconst 1, 1) := by decide +kernel
theorem dX6_back_64 : decode cX6_back 64 = .ok (.isub, 1) := by decide +kernel
theorem dX6_back_65 : decode cX6_back 65 = .ok (.putfield 94, 3) := by decide +kernel
theorem dX6_back_68 : decode cX6_back 68 = .ok (.aload_n 0, 1) := by decide +kernel
theorem dX6_back_69 : decode cX6_back 69 = .ok (.getfield 7, 3) := by decide +kernel
theorem dX6_back_72 : decode cX6_back 72 = .ok (.aload_n 0, 1) := by decide +kernel
theorem dX6_back_73 : decode cX6_back 73 = .ok (.getfield 61, 3) := by decide +kernel
theorem dX6_back_76 : decode cX6_back 76 = .ok (.aload_n 0, 1) := by decide +kernel
theorem dX6_back_77 : decode cX6_back 77 = .ok (.getfield 94, 3) := by decide +kernel
theorem dX6_back_80 : decode cX6_back 80 = .ok (.iaload, 1) := by decide +kernel
theorem dX6_back_81 : decode cX6_back 81 = .ok (.aload_n 0, 1) := by decide +kernel
theorem dX6_back_82 : decode cX6_back 82 = .ok (.getfield 64, 3) := by decide +kernel
theorem dX6_back_85 : decode cX6_back 85 = .ok (.aload_n 0, 1) := by decide +kernel
theorem dX6_back_86 : decode cX6_back 86 = .ok (.getfield 94, 3) := by decide +kernel
theorem dX6_back_89 : decode cX6_back 89 = .ok (.iaload, 1) := by decide +kernel
theorem dX6_back_90 : decode cX6_back 90 = .ok (.iconst 1, 1) := by decide +kernel
theorem dX6_back_91 : decode cX6_back 91 = .ok (.if_icmp .ne 7, 3) := by decide +kernel
theorem dX6_back_94 : decode cX6_back 94 = .ok (.iconst 0, 1) := by decide +kernel
theorem dX6_back_95 : decode cX6_back 95 = .ok (.goto 4, 3) := by decide +kernel
theorem dX6_back_98 : decode cX6_back 98 = .ok (.iconst 1, 1) := by decide +kernel
theorem dX6_back_99 : decode cX6_back 99 = .ok (.iastore, 1) := by decide +kernel
theorem dX6_back_100 : decode cX6_back 100 = .ok (.iload_n 1, 1) := by decide +kernel
theorem dX6_back_101 : decode cX6_back 101 = .ok (.iconst 1, 1) := by decide +kernel
theorem dX6_back_102 : decode cX6_back 102 = .ok (.iadd, 1) := by decide +kernel
theorem dX6_back_103 : decode cX6_back 103 = .ok (.istore_n 1, 1) := by decide +kernel
theorem dX6_back_104 : decode cX6_back 104 = .ok (.goto (-71), 3) := by decide +kernel
theorem dX6_back_107 : decode cX6_back 107 = .ok (.iload_n 1, 1) := by decide +kernel
theorem dX6_back_108 : decode cX6_back 108 = .ok (.ireturn, 1) := by decide +kernel
theorem dX6_forget_0 : decode cX6_forget 0 = .ok (.aload_n 0, 1) := by decide +kernel
theorem dX6_forget_1 : decode cX6_forget 1 = .ok (.getfield 80, 3) := by decide +kernel
theorem dX6_forget_4 : decode cX6_forget 4 = .ok (.aload_n 0, 1) := by decide +kernel
theorem dX6_forget_5 : decode cX6_forget 5 = .ok (.getfield 83, 3) := by decide +kernel
theorem dX6_forget_8 : decode cX6_forget 8 = .ok (.if_icmp .ne 5, 3) := by decide +kernel
theorem dX6_forget_11 : decode cX6_forget 11 = .ok (.iconst (-1), 1) := by decide +kernel
theorem dX6_forget_12 : decode cX6_forget 12 = .ok (.ireturn, 1) := by decide +kernel
theorem dX6_forget_13 : decode cX6_forget 13 = .ok (.iconst 0, 1) := by decide +kernel
theorem dX6_forget_14 : decode cX6_forget 14 = .ok (.istore_n 1, 1) := by decide +kernel
theorem dX6_forget_15 : decode cX6_forget 15 = .ok (.iconst 0, 1) := by decide +kernel
theorem dX6_forget_16 : decode cX6_forget 16 = .ok (.istore_n 2, 1) := by decide +kernel
theorem dX6_forget_17 : decode cX6_forget 17 = .ok (.iconst 0, 1) := by decide +kernel
theorem dX6_forget_18 : decode cX6_forget 18 = .ok (.istore_n 3, 1) := by decide +kernel
theorem dX6_forget_19 : decode cX6_forget 19 = .ok (.iload_n 3, 1) := by decide +kernel
theorem dX6_forget_20 : decode cX6_forget 20 = .ok (.aload_n 0, 1) := by decide +kernel
theorem dX6_forget_21 : decode cX6_forget 21 = .ok (.getfield 94, 3) := by decide +kernel
theorem dX6_forget_24 : decode cX6_forget 24 = .ok (.if_icmp .ge 91, 3) := by decide +kernel
theorem dX6_forget_27 : decode cX6_forget 27 = .ok (.aload_n 0, 1) := by decide +kernel
theorem dX6_forget_28 : decode cX6_forget 28 = .ok (.getfield 67, 3) := by decide +kernel
theorem dX6_forget_31 : decode cX6_forget 31 = .ok (.iload_n 3, 1) := by decide +kernel
theorem dX6_forget_32 : decode cX6_forget 32 = .ok (.iaload, 1) := by decide +kernel
theorem dX6_forget_33 : decode cX6_forget 33 = .ok (.aload_n 0, 1) := by decide +kernel
theorem dX6_forget_34 : decode cX6_forget 34 = .ok (.getfield 83, 3) := by decide +kernel
theorem dX6_forget_37 : decode cX6_forget 37 = .ok (.if_icmp .ne 32, 3) := by decide +kernel
theorem dX6_forget_40 : decode cX6_forget 40 = .ok (.aload_n 0, 1) := by decide +kernel
theorem dX6_forget_41 : decode cX6_forget 41 = .ok (.getfield 64, 3) := by decide +kernel
theorem dX6_forget_44 : decode cX6_forget 44 = .ok (.iload_n 3, 1) := by decide +kernel
theorem dX6_forget_45 : decode cX6_forget 45 = .ok (.iaload, 1) := by decide +kernel
theorem dX6_forget_46 : decode cX6_forget 46 = .ok (.iconst 2, 1) := by decide +kernel
theorem dX6_forget_47 : decode cX6_forget 47 = .ok (.if_icmp .ne 62, 3) := by decide +kernel
theorem dX6_forget_50 : decode cX6_forget 50 = .ok (.aload_n 0, 1) := by decide +kernel
theorem dX6_forget_51 : decode cX6_forget 51 = .ok (.getfield 7, 3) := by decide +kernel
theorem dX6_forget_54 : decode cX6_forget 54 = .ok (.aload_n 0, 1) := by decide +kernel
theorem dX6_forget_55 : decode cX6_forget 55 = .ok (.getfield 61, 3) := by decide +kernel
theorem dX6_forget_58 : decode cX6_forget 58 = .ok (.iload_n 3, 1) := by decide +kernel
theorem dX6_forget_59 : decode cX6_forget 59 = .ok (.iaload, 1) := by decide +kernel
theorem dX6_forget_60 : decode cX6_forget 60 = .ok (.iconst 0, 1) := by decide +kernel
theorem dX6_forget_61 : decode cX6_forget 61 = .ok (.iastore, 1) := by decide +kernel
theorem dX6_forget_62 : decode cX6_forget 62 = .ok (.iload_n 1, 1) := by decide +kernel
theorem dX6_forget_63 : decode cX6_forget 63 = .ok (.iconst 1, 1) := by decide +kernel
theorem dX6_forget_64 : decode cX6_forget 64 = .ok (.iadd, 1) := by decide +kernel
theorem dX6_forget_65 : decode cX6_forget 65 = .ok (.istore_n 1, 1) := by decide +kernel
theorem dX6_forget_66 : decode cX6_forget 66 = .ok (.goto 43, 3) := by decide +kernel
theorem dX6_forget_69 : decode cX6_forget 69 = .ok (.aload_n 0, 1) := by decide +kernel
theorem dX6_forget_70 : decode cX6_forget 70 = .ok (.getfield 61, 3) := by decide +kernel
theorem dX6_forget_73 : decode cX6_forget 73 = .ok (.iload_n 2, 1) := by decide +kernel
theorem dX6_forget_74 : decode cX6_forget 74 = .ok (.aload_n 0, 1) := by decide +kernel
theorem dX6_forget_75 : decode cX6_forget 75 = .ok (.getfield 61, 3) := by decide +kernel
theorem dX6_forget_78 : decode cX6_forget 78 = .ok (.iload_n 3, 1) := by decide +kernel
theorem dX6_forget_79 : decode cX6_forget 79 = .ok (.iaload, 1) := by decide +kernel
theorem dX6_forget_80 : decode cX6_forget 80 = .ok (.iastore, 1) := by decide +kernel
theorem dX6_forget_81 : decode cX6_forget 81 = .ok (.aload_n 0, 1) := by decide +kernel
theorem dX6_forget_82 : decode cX6_forget 82 = .ok (.getfield 64, 3) := by decide +kernel
theorem dX6_forget_85 : decode cX6_forget 85 = .ok (.iload_n 2, 1) := by decide +kernel
theorem dX6_forget_86 : decode cX6_forget 86 = .ok (.aload_n 0, 1) := by decide +kernel
theorem dX6_forget_87 : decode cX6_forget 87 = .ok (.getfield 64, 3) := by decide +kernel
theorem dX6_forget_90 : decode cX6_forget 90 = .ok (.iload_n 3, 1) := by decide +kernel
theorem dX6_forget_91 : decode cX6_forget 91 = .ok (.iaload, 1) := by decide +kernel
theorem dX6_forget_92 : decode cX6_forget 92 = .ok (.iastore, 1) := by decide +kernel
theorem dX6_forget_93 : decode cX6_forget 93 = .ok (.aload_n 0, 1) := by decide +kernel
theorem dX6_forget_94 : decode cX6_forget 94 = .ok (.getfield 67, 3) := by decide +kernel
theorem dX6_forget_97 : decode cX6_forget 97 = .ok (.iload_n 2, 1) := by decide +kernel
theorem dX6_forget_98 : decode cX6_forget 98 = .ok (.aload_n 0, 1) := by decide +kernel
theorem dX6_forget_99 : decode cX6_forget 99 = .ok (.getfield 67, 3) := by decide +kernel
theorem dX6_forget_102 : decode cX6_forget 102 = .ok (.iload_n 3, 1) := by decide +kernel
theorem dX6_forget_103 : decode cX6_forget 103 = .ok (.iaload, 1) := by decide +kernel
theorem dX6_forget_104 : decode cX6_forget 104 = .ok (.iastore, 1) := by decide +kernel
theorem dX6_forget_105 : decode cX6_forget 105 = .ok (.iload_n 2, 1) := by decide +kernel
theorem dX6_forget_106 : decode cX6_forget 106 = .ok (.iconst 1, 1) := by decide +kernel
theorem dX6_forget_107 : decode cX6_forget 107 = .ok (.iadd, 1) := by decide +kernel
theorem dX6_forget_108 : decode cX6_forget 108 = .ok (.istore_n 2, 1) := by decide +kernel
theorem dX6_forget_109 : decode cX6_forget 109 = .ok (.iinc 3 1, 3) := by decide +kernel
theorem dX6_forget_112 : decode cX6_forget 112 = .ok (.goto (-93), 3) := by decide +kernel
theorem dX6_forget_115 : decode cX6_forget 115 = .ok (.aload_n 0, 1) := by decide +kernel
theorem dX6_forget_116 : decode cX6_forget 116 = .ok (.iload_n 2, 1) := by decide +kernel
theorem dX6_forget_117 : decode cX6_forget 117 = .ok (.putfield 94, 3) := by decide +kernel
theorem dX6_forget_120 : decode cX6_forget 120 = .ok (.aload_n 0, 1) := by decide +kernel
theorem dX6_forget_121 : decode cX6_forget 121 = .ok (.aload_n 0, 1) := by decide +kernel
theorem dX6_forget_122 : decode cX6_forget 122 = .ok (.getfield 83, 3) := by decide +kernel
theorem dX6_forget_125 : decode cX6_forget 125 = .ok (.iconst 1, 1) := by decide +kernel
theorem dX6_forget_126 : decode cX6_forget 126 = .ok (.iadd, 1) := by decide +kernel
theorem dX6_forget_127 : decode cX6_forget 127 = .ok (.putfield 83, 3) := by decide +kernel
theorem dX6_forget_130 : decode cX6_forget 130 = .ok (.iload_n 1, 1) := by decide +kernel
theorem dX6_forget_131 : decode cX6_forget 131 = .ok (.ireturn, 1) := by decide +kernel
theorem dX6_has_0 : decode cX6_has 0 = .ok (.aload_n 0, 1) := by decide +kernel
theorem dX6_has_1 : decode cX6_has 1 = .ok (.invokevirtual 97, 3) := by decide +kernel
theorem dX6_has_4 : decode cX6_has 4 = .ok (.ifCond .lt 7, 3) := by decide +kernel
theorem dX6_has_7 : decode cX6_has 7 = .ok (.iconst 1, 1) := by decide +kernel
theorem dX6_has_8 : decode cX6_has 8 = .ok (.goto 4, 3) := by decide +kernel
theorem dX6_has_11 : decode cX6_has 11 = .ok (.iconst 0, 1) := by decide +kernel
theorem dX6_has_12 : decode cX6_has 12 = .ok (.ireturn, 1) := by decide +kernel
theorem dX6_look_0 : decode cX6_look 0 = .ok (.aload_n 0, 1) := by decide +kernel
theorem dX6_look_1 : decode cX6_look 1 = .ok (.invokevirtual 97, 3) := by decide +kernel
theorem dX6_look_4 : decode cX6_look 4 = .ok (.istore_n 2, 1) := by decide +kernel
theorem dX6_look_5 : decode cX6_look 5 = .ok (.iload_n 2, 1) := by decide +kernel
theorem dX6_look_6 : decode cX6_look 6 = .ok (.ifCond .ge 7, 3) := by decide +kernel
theorem dX6_look_9 : decode cX6_look 9 = .ok (.ldc2_w 112, 3) := by decide +kernel
theorem dX6_look_12 : decode cX6_look 12 = .ok (.lreturn, 1) := by decide +kernel
theorem dX6_look_13 : decode cX6_look 13 = .ok (.iload_n 1, 1) := by decide +kernel
theorem dX6_look_14 : decode cX6_look 14 = .ok (.tableswitch 68 0 3 #[30, 37, 45, 60], 30) := by decide +kernel
theorem dX6_look_44 : decode cX6_look 44 = .ok (.aload_n 0, 1) := by decide +kernel
theorem dX6_look_45 : decode cX6_look 45 = .ok (.getfield 20, 3) := by decide +kernel
theorem dX6_look_48 : decode cX6_look 48 = .ok (.iload_n 2, 1) := by decide +kernel
theorem dX6_look_49 : decode cX6_look 49 = .ok (.laload, 1) := by decide +kernel
theorem dX6_look_50 : decode cX6_look 50 = .ok (.lreturn, 1) := by decide +kernel
theorem dX6_look_51 : decode cX6_look 51 = .ok (.aload_n 0, 1) := by decide +kernel
theorem dX6_look_52 : decode cX6_look 52 = .ok (.getfield 23, 3) := by decide +kernel
theorem dX6_look_55 : decode cX6_look 55 = .ok (.iload_n 2, 1) := by decide +kernel
theorem dX6_look_56 : decode cX6_look 56 = .ok (.iaload, 1) := by decide +kernel
theorem dX6_look_57 : decode cX6_look 57 = .ok (.i2l, 1) := by decide +kernel
theorem dX6_look_58 : decode cX6_look 58 = .ok (.lreturn, 1) := by decide +kernel
theorem dX6_look_59 : decode cX6_look 59 = .ok (.aload_n 0, 1) := by decide +kernel
theorem dX6_look_60 : decode cX6_look 60 = .ok (.getfield 26, 3) := by decide +kernel
theorem dX6_look_63 : decode cX6_look 63 = .ok (.iload_n 2, 1) := by decide +kernel
theorem dX6_look_64 : decode cX6_look 64 = .ok (.baload, 1) := by decide +kernel
theorem dX6_look_65 : decode cX6_look 65 = .ok (.ifCond .eq 7, 3) := by decide +kernel
theorem dX6_look_68 : decode cX6_look 68 = .ok (.lconst 1, 1) := by decide +kernel
theorem dX6_look_69 : decode cX6_look 69 = .ok (.goto 4, 3) := by decide +kernel
theorem dX6_look_72 : decode cX6_look 72 = .ok (.lconst 0, 1) := by decide +kernel
theorem dX6_look_73 : decode cX6_look 73 = .ok (.lreturn, 1) := by decide +kernel
theorem dX6_look_74 : decode cX6_look 74 = .ok (.aload_n 0, 1) := by decide +kernel
theorem dX6_look_75 : decode cX6_look 75 = .ok (.getfield 30, 3) := by decide +kernel
theorem dX6_look_78 : decode cX6_look 78 = .ok (.iload_n 2, 1) := by decide +kernel
theorem dX6_look_79 : decode cX6_look 79 = .ok (.iaload, 1) := by decide +kernel
theorem dX6_look_80 : decode cX6_look 80 = .ok (.i2l, 1) := by decide +kernel
theorem dX6_look_81 : decode cX6_look 81 = .ok (.lreturn, 1) := by decide +kernel
theorem dX6_look_82 : decode cX6_look 82 = .ok (.ldc2_w 112, 3) := by decide +kernel
theorem dX6_look_85 : decode cX6_look 85 = .ok (.lreturn, 1) := by decide +kernel
theorem dX6_byteOf_0 : decode cX6_byteOf 0 = .ok (.aload_n 0, 1) := by decide +kernel
theorem dX6_byteOf_1 : decode cX6_byteOf 1 = .ok (.invokevirtual 97, 3) := by decide +kernel
theorem dX6_byteOf_4 : decode cX6_byteOf 4 = .ok (.istore_n 2, 1) := by decide +kernel
theorem dX6_byteOf_5 : decode cX6_byteOf 5 = .ok (.iload_n 2, 1) := by decide +kernel
theorem dX6_byteOf_6 : decode cX6_byteOf 6 = .ok (.ifCond .lt 26, 3) := by decide +kernel
theorem dX6_byteOf_9 : decode cX6_byteOf 9 = .ok (.iload_n 1, 1) := by decide +kernel
theorem dX6_byteOf_10 : decode cX6_byteOf 10 = .ok (.ifCond .lt 22, 3) := by decide +kernel
theorem dX6_byteOf_13 : decode cX6_byteOf 13 = .ok (.iload_n 1, 1) := by decide +kernel
theorem dX6_byteOf_14 : decode cX6_byteOf 14 = .ok (.aload_n 0, 1) := by decide +kernel
theorem dX6_byteOf_15 : decode cX6_byteOf 15 = .ok (.getfield 30, 3) := by decide +kernel
theorem dX6_byteOf_18 : decode cX6_byteOf 18 = .ok (.iload_n 2, 1) := by decide +kernel
theorem dX6_byteOf_19 : decode cX6_byteOf 19 = .ok (.iaload, 1) := by decide +kernel
theorem dX6_byteOf_20 : decode cX6_byteOf 20 = .ok (.if_icmp .ge 12, 3) := by decide +kernel
theorem dX6_byteOf_23 : decode cX6_byteOf 23 = .ok (.aload_n 0, 1) := by decide +kernel
theorem dX6_byteOf_24 : decode cX6_byteOf 24 = .ok (.iload_n 2, 1) := by decide +kernel
theorem dX6_byteOf_25 : decode cX6_byteOf 25 = .ok (.iload_n 1, 1) := by decide +kernel
theorem dX6_byteOf_26 : decode cX6_byteOf 26 = .ok (.invokevirtual 114, 3) := by decide +kernel
theorem dX6_byteOf_29 : decode cX6_byteOf 29 = .ok (.goto 4, 3) := by decide +kernel
theorem dX6_byteOf_32 : decode cX6_byteOf 32 = .ok (.iconst (-1), 1) := by decide +kernel
theorem dX6_byteOf_33 : decode cX6_byteOf 33 = .ok (.ireturn, 1) := by decide +kernel
theorem dX6_count_0 : decode cX6_count 0 = .ok (.iload_n 1, 1) := by decide +kernel
theorem dX6_count_1 : decode cX6_count 1 = .ok (.tableswitch 70 0 4 #[35, 40, 46, 52, 57], 35) := by decide +kernel
theorem dX6_count_36 : decode cX6_count 36 = .ok (.aload_n 0, 1) := by decide +kernel
theorem dX6_count_37 : decode cX6_count 37 = .ok (.getfield 80, 3) := by decide +kernel
theorem dX6_count_40 : decode cX6_count 40 = .ok (.ireturn, 1) := by decide +kernel
theorem dX6_count_41 : decode cX6_count 41 = .ok (.aload_n 0, 1) := by decide +kernel
theorem dX6_count_42 : decode cX6_count 42 = .ok (.iconst 1, 1) := by decide +kernel
theorem dX6_count_43 : decode cX6_count 43 = .ok (.invokevirtual 100, 3) := by decide +kernel
theorem dX6_count_46 : decode cX6_count 46 = .ok (.ireturn, 1) := by decide +kernel
theorem dX6_count_47 : decode cX6_count 47 = .ok (.aload_n 0, 1) := by decide +kernel
theorem dX6_count_48 : decode cX6_count 48 = .ok (.iconst 2, 1) := by decide +kernel
theorem dX6_count_49 : decode cX6_count 49 = .ok (.invokevirtual 100, 3) := by decide +kernel
theorem dX6_count_52 : decode cX6_count 52 = .ok (.ireturn, 1) := by decide +kernel
theorem dX6_count_53 : decode cX6_count 53 = .ok (.aload_n 0, 1) := by decide +kernel
theorem dX6_count_54 : decode cX6_count 54 = .ok (.invokevirtual 90, 3) := by decide +kernel
theorem dX6_count_57 : decode cX6_count 57 = .ok (.ireturn, 1) := by decide +kernel
theorem dX6_count_58 : decode cX6_count 58 = .ok (.aload_n 0, 1) := by decide +kernel
theorem dX6_count_59 : decode cX6_count 59 = .ok (.getfield 86, 3) := by decide +kernel
theorem dX6_count_62 : decode cX6_count 62 = .ok (.ifCond .eq 7, 3) := by decide +kernel
theorem dX6_count_65 : decode cX6_count 65 = .ok (.iconst 1, 1) := by decide +kernel
theorem dX6_count_66 : decode cX6_count 66 = .ok (.goto 4, 3) := by decide +kernel
theorem dX6_count_69 : decode cX6_count 69 = .ok (.iconst 0, 1) := by decide +kernel
theorem dX6_count_70 : decode cX6_count 70 = .ok (.ireturn, 1) := by decide +kernel
theorem dX6_count_71 : decode cX6_count 71 = .ok (.iconst (-1), 1) := by decide +kernel
theorem dX6_count_72 : decode cX6_count 72 = .ok (.ireturn, 1) := by decide +kernel
theorem dX6_total_0 : decode cX6_total 0 = .ok (.lconst 0, 1) := by decide +kernel
theorem dX6_total_1 : decode cX6_total 1 = .ok (.lstore_n 1, 1) := by decide +kernel
theorem dX6_total_2 : decode cX6_total 2 = .ok (.iconst 0, 1) := by decide +kernel
theorem dX6_total_3 : decode cX6_total 3 = .ok (.istore_n 3, 1) := by decide +kernel
theorem dX6_total_4 : decode cX6_total 4 = .ok (.iload_n 3, 1) := by decide +kernel
theorem dX6_total_5 : decode cX6_total 5 = .ok (.sipush 600, 3) := by decide +kernel
theorem dX6_total_8 : decode cX6_total 8 = .ok (.if_icmp .ge 32, 3) := by decide +kernel
theorem dX6_total_11 : decode cX6_total 11 = .ok (.lload_n 1, 1) := by decide +kernel
theorem dX6_total_12 : decode cX6_total 12 = .ok (.aload_n 0, 1) := by decide +kernel
theorem dX6_total_13 : decode cX6_total 13 = .ok (.getfield 7, 3) := by decide +kernel
theorem dX6_total_16 : decode cX6_total 16 = .ok (.iload_n 3, 1) := by decide +kernel
theorem dX6_total_17 : decode cX6_total 17 = .ok (.iaload, 1) := by decide +kernel
theorem dX6_total_18 : decode cX6_total 18 = .ok (.iconst 1, 1) := by decide +kernel
theorem dX6_total_19 : decode cX6_total 19 = .ok (.if_icmp .ne 12, 3) := by decide +kernel
theorem dX6_total_22 : decode cX6_total 22 = .ok (.aload_n 0, 1) := by decide +kernel
theorem dX6_total_23 : decode cX6_total 23 = .ok (.getfield 20, 3) := by decide +kernel
theorem dX6_total_26 : decode cX6_total 26 = .ok (.iload_n 3, 1) := by decide +kernel
theorem dX6_total_27 : decode cX6_total 27 = .ok (.laload, 1) := by decide +kernel
theorem dX6_total_28 : decode cX6_total 28 = .ok (.goto 4, 3) := by decide +kernel
theorem dX6_total_31 : decode cX6_total 31 = .ok (.lconst 0, 1) := by decide +kernel
theorem dX6_total_32 : decode cX6_total 32 = .ok (.ladd, 1) := by decide +kernel
theorem dX6_total_33 : decode cX6_total 33 = .ok (.lstore_n 1, 1) := by decide +kernel
theorem dX6_total_34 : decode cX6_total 34 = .ok (.iinc 3 1, 3) := by decide +kernel
theorem dX6_total_37 : decode cX6_total 37 = .ok (.goto (-33), 3) := by decide +kernel
theorem dX6_total_40 : decode cX6_total 40 = .ok (.lload_n 1, 1) := by decide +kernel
theorem dX6_total_41 : decode cX6_total 41 = .ok (.lreturn, 1) := by decide +kernel
theorem dX7_cell_0 : decode cX7_cell 0 = .ok (.iload_n 1, 1) := by decide +kernel
theorem dX7_cell_1 : decode cX7_cell 1 = .ok (.aload_n 0, 1) := by decide +kernel
theorem dX7_cell_2 : decode cX7_cell 2 = .ok (.arraylength, 1) := by decide +kernel
theorem dX7_cell_3 : decode cX7_cell 3 = .ok (.if_icmp .ge 9, 3) := by decide +kernel
theorem dX7_cell_6 : decode cX7_cell 6 = .ok (.aload_n 0, 1) := by decide +kernel
theorem dX7_cell_7 : decode cX7_cell 7 = .ok (.iload_n 1, 1) := by decide +kernel
theorem dX7_cell_8 : decode cX7_cell 8 = .ok (.iaload, 1) := by decide +kernel
theorem dX7_cell_9 : decode cX7_cell 9 = .ok (.goto 4, 3) := by decide +kernel
theorem dX7_cell_12 : decode cX7_cell 12 = .ok (.iconst 0, 1) := by decide +kernel
theorem dX7_cell_13 : decode cX7_cell 13 = .ok (.ireturn, 1) := by decide +kernel
theorem dX7_law_0 : decode cX7_law 0 = .ok (.new 7, 3) := by decide +kernel
theorem dX7_law_3 : decode cX7_law 3 = .ok (.dup, 1) := by decide +kernel
theorem dX7_law_4 : decode cX7_law 4 = .ok (.aload_n 0, 1) := by decide +kernel
theorem dX7_law_5 : decode cX7_law 5 = .ok (.iconst 0, 1) := by decide +kernel
theorem dX7_law_6 : decode cX7_law 6 = .ok (.invokestatic 9, 3) := by decide +kernel
theorem dX7_law_9 : decode cX7_law 9 = .ok (.invokespecial 15, 3) := by decide +kernel
theorem dX7_law_12 : decode cX7_law 12 = .ok (.astore_n 1, 1) := by decide +kernel
theorem dX7_law_13 : decode cX7_law 13 = .ok (.new 18, 3) := by decide +kernel
theorem dX7_law_16 : decode cX7_law 16 = .ok (.dup, 1) := by decide +kernel
theorem dX7_law_17 : decode cX7_law 17 = .ok (.aload_n 0, 1) := by decide +kernel
theorem dX7_law_18 : decode cX7_law 18 = .ok (.iconst 0, 1) := by decide +kernel
theorem dX7_law_19 : decode cX7_law 19 = .ok (.invokestatic 9, 3) := by decide +kernel
theorem dX7_law_22 : decode cX7_law 22 = .ok (.invokespecial 20, 3) := by decide +kernel
theorem dX7_law_25 : decode cX7_law 25 = .ok (.astore_n 2, 1) := by decide +kernel
theorem dX7_law_26 : decode cX7_law 26 = .ok (.iconst 1, 1) := by decide +kernel
theorem dX7_law_27 : decode cX7_law 27 = .ok (.istore_n 3, 1) := by decide +kernel
theorem dX7_law_28 : decode cX7_law 28 = .ok (.iload_n 3, 1) := by decide +kernel
theorem dX7_law_29 : decode cX7_law 29 = .ok (.aload_n 0, 1) := by decide +kernel
theorem dX7_law_30 : decode cX7_law 30 = .ok (.arraylength, 1) := by decide +kernel
theorem dX7_law_31 : decode cX7_law 31 = .ok (.bipush 10, 2) := by decide +kernel
theorem dX7_law_33 : decode cX7_law 33 = .ok (.isub, 1) := by decide +kernel
theorem dX7_law_34 : decode cX7_law 34 = .ok (.if_icmp .gt 588, 3) := by decide +kernel
theorem dX7_law_37 : decode cX7_law 37 = .ok (.aload_n 0, 1) := by decide +kernel
theorem dX7_law_38 : decode cX7_law 38 = .ok (.iload_n 3, 1) := by decide +kernel
theorem dX7_law_39 : decode cX7_law 39 = .ok (.iaload, 1) := by decide +kernel
theorem dX7_law_40 : decode cX7_law 40 = .ok (.bipush 15, 2) := by decide +kernel
theorem dX7_law_42 : decode cX7_law 42 = .ok (.iand, 1) := by decide +kernel
theorem dX7_law_43 : decode cX7_law 43 = .ok (.tableswitch 573 0 13 #[69, 258, 269, 332, 345, 424, 437, 450, 463, 476, 489, 513, 536, 559], 69) := by decide +kernel
theorem dX7_law_112 : decode cX7_law 112 = .ok (.aload_n 1, 1) := by decide +kernel
theorem dX7_law_113 : decode cX7_law 113 = .ok (.aload_n 0, 1) := by decide +kernel
theorem dX7_law_114 : decode cX7_law 114 = .ok (.iload_n 3, 1) := by decide +kernel
theorem dX7_law_115 : decode cX7_law 115 = .ok (.iconst 1, 1) := by decide +kernel
theorem dX7_law_116 : decode cX7_law 116 = .ok (.iadd, 1) := by decide +kernel
theorem dX7_law_117 : decode cX7_law 117 = .ok (.iaload, 1) := by decide +kernel
theorem dX7_law_118 : decode cX7_law 118 = .ok (.i2l, 1) := by decide +kernel
theorem dX7_law_119 : decode cX7_law 119 = .ok (.bipush 32, 2) := by decide +kernel
theorem dX7_law_121 : decode cX7_law 121 = .ok (.lshl, 1) := by decide +kernel
theorem dX7_law_122 : decode cX7_law 122 = .ok (.aload_n 0, 1) := by decide +kernel
theorem dX7_law_123 : decode cX7_law 123 = .ok (.iload_n 3, 1) := by decide +kernel
theorem dX7_law_124 : decode cX7_law 124 = .ok (.iconst 2, 1) := by decide +kernel
theorem dX7_law_125 : decode cX7_law 125 = .ok (.iadd, 1) := by decide +kernel
theorem dX7_law_126 : decode cX7_law 126 = .ok (.iaload, 1) := by decide +kernel
theorem dX7_law_127 : decode cX7_law 127 = .ok (.i2l, 1) := by decide +kernel
theorem dX7_law_128 : decode cX7_law 128 = .ok (.ldc2_w 21, 3) := by decide +kernel
theorem dX7_law_131 : decode cX7_law 131 = .ok (.land, 1) := by decide +kernel
theorem dX7_law_132 : decode cX7_law 132 = .ok (.lor, 1) := by decide +kernel
theorem dX7_law_133 : decode cX7_law 133 = .ok (.aload_n 0, 1) := by decide +kernel
theorem dX7_law_134 : decode cX7_law 134 = .ok (.iload_n 3, 1) := by decide +kernel
theorem dX7_law_135 : decode cX7_law 135 = .ok (.iconst 3, 1) := by decide +kernel
theorem dX7_law_136 : decode cX7_law 136 = .ok (.iadd, 1) := by decide +kernel
theorem dX7_law_137 : decode cX7_law 137 = .ok (.iaload, 1) := by decide +kernel
theorem dX7_law_138 : decode cX7_law 138 = .ok (.i2l, 1) := by decide +kernel
theorem dX7_law_139 : decode cX7_law 139 = .ok (.bipush 32, 2) := by decide +kernel
theorem dX7_law_141 : decode cX7_law 141 = .ok (.lshl, 1) := by decide +kernel
theorem dX7_law_142 : decode cX7_law 142 = .ok (.aload_n 0, 1) := by decide +kernel
theorem dX7_law_143 : decode cX7_law 143 = .ok (.iload_n 3, 1) := by decide +kernel
theorem dX7_law_144 : decode cX7_law 144 = .ok (.iconst 4, 1) := by decide +kernel
theorem dX7_law_145 : decode cX7_law 145 = .ok (.iadd, 1) := by decide +kernel
theorem dX7_law_146 : decode cX7_law 146 = .ok (.iaload, 1) := by decide +kernel
theorem dX7_law_147 : decode cX7_law 147 = .ok (.i2l, 1) := by decide +kernel
theorem dX7_law_148 : decode cX7_law 148 = .ok (.ldc2_w 21, 3) := by decide +kernel
theorem dX7_law_151 : decode cX7_law 151 = .ok (.land, 1) := by decide +kernel
theorem dX7_law_152 : decode cX7_law 152 = .ok (.lor, 1) := by decide +kernel
theorem dX7_law_153 : decode cX7_law 153 = .ok (.aload_n 0, 1) := by decide +kernel
theorem dX7_law_154 : decode cX7_law 154 = .ok (.iload_n 3, 1) := by decide +kernel
theorem dX7_law_155 : decode cX7_law 155 = .ok (.iconst 5, 1) := by decide +kernel
theorem dX7_law_156 : decode cX7_law 156 = .ok (.iadd, 1) := by decide +kernel
theorem dX7_law_157 : decode cX7_law 157 = .ok (.iaload, 1) := by decide +kernel
theorem dX7_law_158 : decode cX7_law 158 = .ok (.i2l, 1) := by decide +kernel
theorem dX7_law_159 : decode cX7_law 159 = .ok (.bipush 32, 2) := by decide +kernel
theorem dX7_law_161 : decode cX7_law 161 = .ok (.lshl, 1) := by decide +kernel
theorem dX7_law_162 : decode cX7_law 162 = .ok (.aload_n 0, 1) := by decide +kernel
theorem dX7_law_163 : decode cX7_law 163 = .ok (.iload_n 3, 1) := by decide +kernel
theorem dX7_law_164 : decode cX7_law 164 = .ok (.bipush 6, 2) := by decide +kernel
theorem dX7_law_166 : decode cX7_law 166 = .ok (.iadd, 1) := by decide +kernel
theorem dX7_law_167 : decode cX7_law 167 = .ok (.iaload, 1) := by decide +kernel
theorem dX7_law_168 : decode cX7_law 168 = .ok (.i2l, 1) := by decide +kernel
theorem dX7_law_169 : decode cX7_law 169 = .ok (.ldc2_w 21, 3) := by decide +kernel
theorem dX7_law_172 : decode cX7_law 172 = .ok (.land, 1) := by decide +kernel
theorem dX7_law_173 : decode cX7_law 173 = .ok (.lor, 1) := by decide +kernel
theorem dX7_law_174 : decode cX7_law 174 = .ok (.aload_n 0, 1) := by decide +kernel
theorem dX7_law_175 : decode cX7_law 175 = .ok (.iload_n 3, 1) := by decide +kernel
theorem dX7_law_176 : decode cX7_law 176 = .ok (.bipush 7, 2) := by decide +kernel
theorem dX7_law_178 : decode cX7_law 178 = .ok (.iadd, 1) := by decide +kernel
theorem dX7_law_179 : decode cX7_law 179 = .ok (.iaload, 1) := by decide +kernel
theorem dX7_law_180 : decode cX7_law 180 = .ok (.i2l, 1) := by decide +kernel
theorem dX7_law_181 : decode cX7_law 181 = .ok (.bipush 32, 2) := by decide +kernel
theorem dX7_law_183 : decode cX7_law 183 = .ok (.lshl, 1) := by decide +kernel
theorem dX7_law_184 : decode cX7_law 184 = .ok (.aload_n 0, 1) := by decide +kernel
theorem dX7_law_185 : decode cX7_law 185 = .ok (.iload_n 3, 1) := by decide +kernel
theorem dX7_law_186 : decode cX7_law 186 = .ok (.bipush 8, 2) := by decide +kernel
theorem dX7_law_188 : decode cX7_law 188 = .ok (.iadd, 1) := by decide +kernel
theorem dX7_law_189 : decode cX7_law 189 = .ok (.iaload, 1) := by decide +kernel
theorem dX7_law_190 : decode cX7_law 190 = .ok (.i2l, 1) := by decide +kernel
theorem dX7_law_191 : decode cX7_law 191 = .ok (.ldc2_w 21, 3) := by decide +kernel
theorem dX7_law_194 : decode cX7_law 194 = .ok (.land, 1) := by decide +kernel
theorem dX7_law_195 : decode cX7_law 195 = .ok (.lor, 1) := by decide +kernel
theorem dX7_law_196 : decode cX7_law 196 = .ok (.aload_n 0, 1) := by decide +kernel
theorem dX7_law_197 : decode cX7_law 197 = .ok (.iload_n 3, 1) := by decide +kernel
theorem dX7_law_198 : decode cX7_law 198 = .ok (.bipush 9, 2) := by decide +kernel
theorem dX7_law_200 : decode cX7_law 200 = .ok (.iadd, 1) := by decide +kernel
theorem dX7_law_201 : decode cX7_law 201 = .ok (.iaload, 1) := by decide +kernel
theorem dX7_law_202 : decode cX7_law 202 = .ok (.invokevirtual 23, 3) := by decide +kernel
theorem dX7_law_205 : decode cX7_law 205 = .ok (.aload_n 2, 1) := by decide +kernel
theorem dX7_law_206 : decode cX7_law 206 = .ok (.aload_n 0, 1) := by decide +kernel
theorem dX7_law_207 : decode cX7_law 207 = .ok (.iload_n 3, 1) := by decide +kernel
theorem dX7_law_208 : decode cX7_law 208 = .ok (.iconst 1, 1) := by decide +kernel
theorem dX7_law_209 : decode cX7_law 209 = .ok (.iadd, 1) := by decide +kernel
theorem dX7_law_210 : decode cX7_law 210 = .ok (.iaload, 1) := by decide +kernel
theorem dX7_law_211 : decode cX7_law 211 = .ok (.i2l, 1) := by decide +kernel
theorem dX7_law_212 : decode cX7_law 212 = .ok (.bipush 32, 2) := by decide +kernel
theorem dX7_law_214 : decode cX7_law 214 = .ok (.lshl, 1) := by decide +kernel
theorem dX7_law_215 : decode cX7_law 215 = .ok (.aload_n 0, 1) := by decide +kernel
theorem dX7_law_216 : decode cX7_law 216 = .ok (.iload_n 3, 1) := by decide +kernel
theorem dX7_law_217 : decode cX7_law 217 = .ok (.iconst 2, 1) := by decide +kernel
theorem dX7_law_218 : decode cX7_law 218 = .ok (.iadd, 1) := by decide +kernel
theorem dX7_law_219 : decode cX7_law 219 = .ok (.iaload, 1) := by decide +kernel
theorem dX7_law_220 : decode cX7_law 220 = .ok (.i2l, 1) := by decide +kernel
theorem dX7_law_221 : decode cX7_law 221 = .ok (.ldc2_w 21, 3) := by decide +kernel
theorem dX7_law_224 : decode cX7_law 224 = .ok (.land, 1) := by decide +kernel
theorem dX7_law_225 : decode cX7_law 225 = .ok (.lor, 1) := by decide +kernel
theorem dX7_law_226 : decode cX7_law 226 = .ok (.aload_n 0, 1) := by decide +kernel
theorem dX7_law_227 : decode cX7_law 227 = .ok (.iload_n 3, 1) := by decide +kernel
theorem dX7_law_228 : decode cX7_law 228 = .ok (.iconst 3, 1) := by decide +kernel
theorem dX7_law_229 : decode cX7_law 229 = .ok (.iadd, 1) := by decide +kernel
theorem dX7_law_230 : decode cX7_law 230 = .ok (.iaload, 1) := by decide +kernel
theorem dX7_law_231 : decode cX7_law 231 = .ok (.i2l, 1) := by decide +kernel
theorem dX7_law_232 : decode cX7_law 232 = .ok (.bipush 32, 2) := by decide +kernel
theorem dX7_law_234 : decode cX7_law 234 = .ok (.lshl, 1) := by decide +kernel
theorem dX7_law_235 : decode cX7_law 235 = .ok (.aload_n 0, 1) := by decide +kernel
theorem dX7_law_236 : decode cX7_law 236 = .ok (.iload_n 3, 1) := by decide +kernel
theorem dX7_law_237 : decode cX7_law 237 = .ok (.iconst 4, 1) := by decide +kernel
theorem dX7_law_238 : decode cX7_law 238 = .ok (.iadd, 1) := by decide +kernel
theorem dX7_law_239 : decode cX7_law 239 = .ok (.iaload, 1) := by decide +kernel
theorem dX7_law_240 : decode cX7_law 240 = .ok (.i2l, 1) := by decide +kernel
theorem dX7_law_241 : decode cX7_law 241 = .ok (.ldc2_w 21, 3) := by decide +kernel
theorem dX7_law_244 : decode cX7_law 244 = .ok (.land, 1) := by decide +kernel
theorem dX7_law_245 : decode cX7_law 245 = .ok (.lor, 1) := by decide +kernel
theorem dX7_law_246 : decode cX7_law 246 = .ok (.aload_n 0, 1) := by decide +kernel
theorem dX7_law_247 : decode cX7_law 247 = .ok (.iload_n 3, 1) := by decide +kernel
theorem dX7_law_248 : decode cX7_law 248 = .ok (.iconst 5, 1) := by decide +kernel
theorem dX7_law_249 : decode cX7_law 249 = .ok (.iadd, 1) := by decide +kernel
theorem dX7_law_250 : decode cX7_law 250 = .ok (.iaload, 1) := by decide +kernel
theorem dX7_law_251 : decode cX7_law 251 = .ok (.i2l, 1) := by decide +kernel
theorem dX7_law_252 : decode cX7_law 252 = .ok (.bipush 32, 2) := by decide +kernel
theorem dX7_law_254 : decode cX7_law 254 = .ok (.lshl, 1) := by decide +kernel
theorem dX7_law_255 : decode cX7_law 255 = .ok (.aload_n 0, 1) := by decide +kernel
theorem dX7_law_256 : decode cX7_law 256 = .ok (.iload_n 3, 1) := by decide +kernel
theorem dX7_law_257 : decode cX7_law 257 = .ok (.bipush 6, 2) := by decide +kernel
theorem dX7_law_259 : decode cX7_law 259 = .ok (.iadd, 1) := by decide +kernel
theorem dX7_law_260 : decode cX7_law 260 = .ok (.iaload, 1) := by decide +kernel
theorem dX7_law_261 : decode cX7_law 261 = .ok (.i2l, 1) := by decide +kernel
theorem dX7_law_262 : decode cX7_law 262 = .ok (.ldc2_w 21, 3) := by decide +kernel
theorem dX7_law_265 : decode cX7_law 265 = .ok (.land, 1) := by decide +kernel
theorem dX7_law_266 : decode cX7_law 266 = .ok (.lor, 1) := by decide +kernel
theorem dX7_law_267 : decode cX7_law 267 = .ok (.aload_n 0, 1) := by decide +kernel
theorem dX7_law_268 : decode cX7_law 268 = .ok (.iload_n 3, 1) := by decide +kernel
theorem dX7_law_269 : decode cX7_law 269 = .ok (.bipush 7, 2) := by decide +kernel
theorem dX7_law_271 : decode cX7_law 271 = .ok (.iadd, 1) := by decide +kernel
theorem dX7_law_272 : decode cX7_law 272 = .ok (.iaload, 1) := by decide +kernel
theorem dX7_law_273 : decode cX7_law 273 = .ok (.i2l, 1) := by decide +kernel
theorem dX7_law_274 : decode cX7_law 274 = .ok (.bipush 32, 2) := by decide +kernel
theorem dX7_law_276 : decode cX7_law 276 = .ok (.lshl, 1) := by decide +kernel
theorem dX7_law_277 : decode cX7_law 277 = .ok (.aload_n 0, 1) := by decide +kernel
theorem dX7_law_278 : decode cX7_law 278 = .ok (.iload_n 3, 1) := by decide +kernel
theorem dX7_law_279 : decode cX7_law 279 = .ok (.bipush 8, 2) := by decide +kernel
theorem dX7_law_281 : decode cX7_law 281 = .ok (.iadd, 1) := by decide +kernel
theorem dX7_law_282 : decode cX7_law 282 = .ok (.iaload, 1) := by decide +kernel
theorem dX7_law_283 : decode cX7_law 283 = .ok (.i2l, 1) := by decide +kernel
theorem dX7_law_284 : decode cX7_law 284 = .ok (.ldc2_w 21, 3) := by decide +kernel
theorem dX7_law_287 : decode cX7_law 287 = .ok (.land, 1) := by decide +kernel
theorem dX7_law_288 : decode cX7_law 288 = .ok (.lor, 1) := by decide +kernel
theorem dX7_law_289 : decode cX7_law 289 = .ok (.aload_n 0, 1) := by decide +kernel
theorem dX7_law_290 : decode cX7_law 290 = .ok (.iload_n 3, 1) := by decide +kernel
theorem dX7_law_291 : decode cX7_law 291 = .ok (.bipush 9, 2) := by decide +kernel
theorem dX7_law_293 : decode cX7_law 293 = .ok (.iadd, 1) := by decide +kernel
theorem dX7_law_294 : decode cX7_law 294 = .ok (.iaload, 1) := by decide +kernel
theorem dX7_law_295 : decode cX7_law 295 = .ok (.invokevirtual 27, 3) := by decide +kernel
theorem dX7_law_298 : decode cX7_law 298 = .ok (.goto 318, 3) := by decide +kernel
theorem dX7_law_301 : decode cX7_law 301 = .ok (.aload_n 1, 1) := by decide +kernel
theorem dX7_law_302 : decode cX7_law 302 = .ok (.invokevirtual 28, 3) := by decide +kernel
theorem dX7_law_305 : decode cX7_law 305 = .ok (.aload_n 2, 1) := by decide +kernel
theorem dX7_law_306 : decode cX7_law 306 = .ok (.invokevirtual 31, 3) := by decide +kernel
theorem dX7_law_309 : decode cX7_law 309 = .ok (.goto 307, 3) := by decide +kernel
theorem dX7_law_312 : decode cX7_law 312 = .ok (.aload_n 1, 1) := by decide +kernel
theorem dX7_law_313 : decode cX7_law 313 = .ok (.aload_n 0, 1) := by decide +kernel
theorem dX7_law_314 : decode cX7_law 314 = .ok (.iload_n 3, 1) := by decide +kernel
theorem dX7_law_315 : decode cX7_law 315 = .ok (.iconst 1, 1) := by decide +kernel
theorem dX7_law_316 : decode cX7_law 316 = .ok (.iadd, 1) := by decide +kernel
theorem dX7_law_317 : decode cX7_law 317 = .ok (.iaload, 1) := by decide +kernel
theorem dX7_law_318 : decode cX7_law 318 = .ok (.i2l, 1) := by decide +kernel
theorem dX7_law_319 : decode cX7_law 319 = .ok (.bipush 32, 2) := by decide +kernel
theorem dX7_law_321 : decode cX7_law 321 = .ok (.lshl, 1) := by decide +kernel
theorem dX7_law_322 : decode cX7_law 322 = .ok (.aload_n 0, 1) := by decide +kernel
theorem dX7_law_323 : decode cX7_law 323 = .ok (.iload_n 3, 1) := by decide +kernel
theorem dX7_law_324 : decode cX7_law 324 = .ok (.iconst 2, 1) := by decide +kernel
theorem dX7_law_325 : decode cX7_law 325 = .ok (.iadd, 1) := by decide +kernel
theorem dX7_law_326 : decode cX7_law 326 = .ok (.iaload, 1) := by decide +kernel
theorem dX7_law_327 : decode cX7_law 327 = .ok (.i2l, 1) := by decide +kernel
theorem dX7_law_328 : decode cX7_law 328 = .ok (.ldc2_w 21, 3) := by decide +kernel
theorem dX7_law_331 : decode cX7_law 331 = .ok (.land, 1) := by decide +kernel
theorem dX7_law_332 : decode cX7_law 332 = .ok (.lor, 1) := by decide +kernel
theorem dX7_law_333 : decode cX7_law 333 = .ok (.aload_n 0, 1) := by decide +kernel
theorem dX7_law_334 : decode cX7_law 334 = .ok (.iload_n 3, 1) := by decide +kernel
theorem dX7_law_335 : decode cX7_law 335 = .ok (.iconst 3, 1) := by decide +kernel
theorem dX7_law_336 : decode cX7_law 336 = .ok (.iadd, 1) := by decide +kernel
theorem dX7_law_337 : decode cX7_law 337 = .ok (.iaload, 1) := by decide +kernel
theorem dX7_law_338 : decode cX7_law 338 = .ok (.invokevirtual 32, 3) := by decide +kernel
theorem dX7_law_341 : decode cX7_law 341 = .ok (.aload_n 2, 1) := by decide +kernel
theorem dX7_law_342 : decode cX7_law 342 = .ok (.aload_n 0, 1) := by decide +kernel
theorem dX7_law_343 : decode cX7_law 343 = .ok (.iload_n 3, 1) := by decide +kernel
theorem dX7_law_344 : decode cX7_law 344 = .ok (.iconst 1, 1) := by decide +kernel
theorem dX7_law_345 : decode cX7_law 345 = .ok (.iadd, 1) := by decide +kernel
theorem dX7_law_346 : decode cX7_law 346 = .ok (.iaload, 1) := by decide +kernel
theorem dX7_law_347 : decode cX7_law 347 = .ok (.i2l, 1) := by decide +kernel
theorem dX7_law_348 : decode cX7_law 348 = .ok (.bipush 32, 2) := by decide +kernel
theorem dX7_law_350 : decode cX7_law 350 = .ok (.lshl, 1) := by decide +kernel
theorem dX7_law_351 : decode cX7_law 351 = .ok (.aload_n 0, 1) := by decide +kernel
theorem dX7_law_352 : decode cX7_law 352 = .ok (.iload_n 3, 1) := by decide +kernel
theorem dX7_law_353 : decode cX7_law 353 = .ok (.iconst 2, 1) := by decide +kernel
theorem dX7_law_354 : decode cX7_law 354 = .ok (.iadd, 1) := by decide +kernel
theorem dX7_law_355 : decode cX7_law 355 = .ok (.iaload, 1) := by decide +kernel
theorem dX7_law_356 : decode cX7_law 356 = .ok (.i2l, 1) := by decide +kernel
theorem dX7_law_357 : decode cX7_law 357 = .ok (.ldc2_w 21, 3) := by decide +kernel
theorem dX7_law_360 : decode cX7_law 360 = .ok (.land, 1) := by decide +kernel
theorem dX7_law_361 : decode cX7_law 361 = .ok (.lor, 1) := by decide +kernel
theorem dX7_law_362 : decode cX7_law 362 = .ok (.aload_n 0, 1) := by decide +kernel
theorem dX7_law_363 : decode cX7_law 363 = .ok (.iload_n 3, 1) := by decide +kernel
theorem dX7_law_364 : decode cX7_law 364 = .ok (.iconst 3, 1) := by decide +kernel
theorem dX7_law_365 : decode cX7_law 365 = .ok (.iadd, 1) := by decide +kernel
theorem dX7_law_366 : decode cX7_law 366 = .ok (.iaload, 1) := by decide +kernel
theorem dX7_law_367 : decode cX7_law 367 = .ok (.invokevirtual 36, 3) := by decide +kernel
theorem dX7_law_370 : decode cX7_law 370 = .ok (.if_icmp .eq 246, 3) := by decide +kernel
theorem dX7_law_373 : decode cX7_law 373 = .ok (.iconst 0, 1) := by decide +kernel
theorem dX7_law_374 : decode cX7_law 374 = .ok (.ireturn, 1) := by decide +kernel
theorem dX7_law_375 : decode cX7_law 375 = .ok (.aload_n 1, 1) := by decide +kernel
theorem dX7_law_376 : decode cX7_law 376 = .ok (.invokevirtual 37, 3) := by decide +kernel
theorem dX7_law_379 : decode cX7_law 379 = .ok (.aload_n 2, 1) := by decide +kernel
theorem dX7_law_380 : decode cX7_law 380 = .ok (.invokevirtual 41, 3) := by decide +kernel
theorem dX7_law_383 : decode cX7_law 383 = .ok (.if_icmp .eq 233, 3) := by decide +kernel
theorem dX7_law_386 : decode cX7_law 386 = .ok (.iconst 0, 1) := by decide +kernel
theorem dX7_law_387 : decode cX7_law 387 = .ok (.ireturn, 1) := by decide +kernel
theorem dX7_law_388 : decode cX7_law 388 = .ok (.aload_n 1, 1) := by decide +kernel
theorem dX7_law_389 : decode cX7_law 389 = .ok (.aload_n 0, 1) := by decide +kernel
theorem dX7_law_390 : decode cX7_law 390 = .ok (.iload_n 3, 1) := by decide +kernel
theorem dX7_law_391 : decode cX7_law 391 = .ok (.iconst 1, 1) := by decide +kernel
theorem dX7_law_392 : decode cX7_law 392 = .ok (.iadd, 1) := by decide +kernel
theorem dX7_law_393 : decode cX7_law 393 = .ok (.iaload, 1) := by decide +kernel
theorem dX7_law_394 : decode cX7_law 394 = .ok (.i2l, 1) := by decide +kernel
theorem dX7_law_395 : decode cX7_law 395 = .ok (.bipush 32, 2) := by decide +kernel
theorem dX7_law_397 : decode cX7_law 397 = .ok (.lshl, 1) := by decide +kernel
theorem dX7_law_398 : decode cX7_law 398 = .ok (.aload_n 0, 1) := by decide +kernel
theorem dX7_law_399 : decode cX7_law 399 = .ok (.iload_n 3, 1) := by decide +kernel
theorem dX7_law_400 : decode cX7_law 400 = .ok (.iconst 2, 1) := by decide +kernel
theorem dX7_law_401 : decode cX7_law 401 = .ok (.iadd, 1) := by decide +kernel
theorem dX7_law_402 : decode cX7_law 402 = .ok (.iaload, 1) := by decide +kernel
theorem dX7_law_403 : decode cX7_law 403 = .ok (.i2l, 1) := by decide +kernel
theorem dX7_law_404 : decode cX7_law 404 = .ok (.ldc2_w 21, 3) := by decide +kernel
theorem dX7_law_407 : decode cX7_law 407 = .ok (.land, 1) := by decide +kernel
theorem dX7_law_408 : decode cX7_law 408 = .ok (.lor, 1) := by decide +kernel
theorem dX7_law_409 : decode cX7_law 409 = .ok (.aload_n 0, 1) := by decide +kernel
theorem dX7_law_410 : decode cX7_law 410 = .ok (.iload_n 3, 1) := by decide +kernel
theorem dX7_law_411 : decode cX7_law 411 = .ok (.iconst 3, 1) := by decide +kernel
theorem dX7_law_412 : decode cX7_law 412 = .ok (.iadd, 1) := by decide +kernel
theorem dX7_law_413 : decode cX7_law 413 = .ok (.iaload, 1) := by decide +kernel
theorem dX7_law_414 : decode cX7_law 414 = .ok (.ifCond .eq 7, 3) := by decide +kernel
theorem dX7_law_417 : decode cX7_law 417 = .ok (.iconst 1, 1) := by decide +kernel
theorem dX7_law_418 : decode cX7_law 418 = .ok (.goto 4, 3) := by decide +kernel
theorem dX7_law_421 : decode cX7_law 421 = .ok (.iconst 0, 1) := by decide +kernel
theorem dX7_law_422 : decode cX7_law 422 = .ok (.invokevirtual 42, 3) := by decide +kernel
theorem dX7_law_425 : decode cX7_law 425 = .ok (.aload_n 2, 1) := by decide +kernel
theorem dX7_law_426 : decode cX7_law 426 = .ok (.aload_n 0, 1) := by decide +kernel
theorem dX7_law_427 : decode cX7_law 427 = .ok (.iload_n 3, 1) := by decide +kernel
theorem dX7_law_428 : decode cX7_law 428 = .ok (.iconst 1, 1) := by decide +kernel
theorem dX7_law_429 : decode cX7_law 429 = .ok (.iadd, 1) := by decide +kernel
theorem dX7_law_430 : decode cX7_law 430 = .ok (.iaload, 1) := by decide +kernel
theorem dX7_law_431 : decode cX7_law 431 = .ok (.i2l, 1) := by decide +kernel
theorem dX7_law_432 : decode cX7_law 432 = .ok (.bipush 32, 2) := by decide +kernel
theorem dX7_law_434 : decode cX7_law 434 = .ok (.lshl, 1) := by decide +kernel
theorem dX7_law_435 : decode cX7_law 435 = .ok (.aload_n 0, 1) := by decide +kernel
theorem dX7_law_436 : decode cX7_law 436 = .ok (.iload_n 3, 1) := by decide +kernel
theorem dX7_law_437 : decode cX7_law 437 = .ok (.iconst 2, 1) := by decide +kernel
theorem dX7_law_438 : decode cX7_law 438 = .ok (.iadd, 1) := by decide +kernel
theorem dX7_law_439 : decode cX7_law 439 = .ok (.iaload, 1) := by decide +kernel
theorem dX7_law_440 : decode cX7_law 440 = .ok (.i2l, 1) := by decide +kernel
theorem dX7_law_441 : decode cX7_law 441 = .ok (.ldc2_w 21, 3) := by decide +kernel
theorem dX7_law_444 : decode cX7_law 444 = .ok (.land, 1) := by decide +kernel
theorem dX7_law_445 : decode cX7_law 445 = .ok (.lor, 1) := by decide +kernel
theorem dX7_law_446 : decode cX7_law 446 = .ok (.aload_n 0, 1) := by decide +kernel
theorem dX7_law_447 : decode cX7_law 447 = .ok (.iload_n 3, 1) := by decide +kernel
theorem dX7_law_448 : decode cX7_law 448 = .ok (.iconst 3, 1) := by decide +kernel
theorem dX7_law_449 : decode cX7_law 449 = .ok (.iadd, 1) := by decide +kernel
theorem dX7_law_450 : decode cX7_law 450 = .ok (.iaload, 1) := by decide +kernel
theorem dX7_law_451 : decode cX7_law 451 = .ok (.ifCond .eq 7, 3) := by decide +kernel
theorem dX7_law_454 : decode cX7_law 454 = .ok (.iconst 1, 1) := by decide +kernel
theorem dX7_law_455 : decode cX7_law 455 = .ok (.goto 4, 3) := by decide +kernel
theorem dX7_law_458 : decode cX7_law 458 = .ok (.iconst 0, 1) := by decide +kernel
theorem dX7_law_459 : decode cX7_law 459 = .ok (.invokevirtual 46, 3) := by decide +kernel
theorem dX7_law_462 : decode cX7_law 462 = .ok (.if_icmp .eq 154, 3) := by decide +kernel
theorem dX7_law_465 : decode cX7_law 465 = .ok (.iconst 0, 1) := by decide +kernel
theorem dX7_law_466 : decode cX7_law 466 = .ok (.ireturn, 1) := by decide +kernel
theorem dX7_law_467 : decode cX7_law 467 = .ok (.aload_n 1, 1) := by decide +kernel
theorem dX7_law_468 : decode cX7_law 468 = .ok (.invokevirtual 47, 3) := by decide +kernel
theorem dX7_law_471 : decode cX7_law 471 = .ok (.aload_n 2, 1) := by decide +kernel
theorem dX7_law_472 : decode cX7_law 472 = .ok (.invokevirtual 51, 3) := by decide +kernel
theorem dX7_law_475 : decode cX7_law 475 = .ok (.if_icmp .eq 141, 3) := by decide +kernel
theorem dX7_law_478 : decode cX7_law 478 = .ok (.iconst 0, 1) := by decide +kernel
theorem dX7_law_479 : decode cX7_law 479 = .ok (.ireturn, 1) := by decide +kernel
theorem dX7_law_480 : decode cX7_law 480 = .ok (.aload_n 1, 1) := by decide +kernel
theorem dX7_law_481 : decode cX7_law 481 = .ok (.invokevirtual 52, 3) := by decide +kernel
theorem dX7_law_484 : decode cX7_law 484 = .ok (.aload_n 2, 1) := by decide +kernel
theorem dX7_law_485 : decode cX7_law 485 = .ok (.invokevirtual 55, 3) := by decide +kernel
theorem dX7_law_488 : decode cX7_law 488 = .ok (.if_icmp .eq 128, 3) := by decide +kernel
theorem dX7_law_491 : decode cX7_law 491 = .ok (.iconst 0, 1) := by decide +kernel
theorem dX7_law_492 : decode cX7_law 492 = .ok (.ireturn, 1) := by decide +kernel
theorem dX7_law_493 : decode cX7_law 493 = .ok (.aload_n 1, 1) := by decide +kernel
theorem dX7_law_494 : decode cX7_law 494 = .ok (.invokevirtual 56, 3) := by decide +kernel
theorem dX7_law_497 : decode cX7_law 497 = .ok (.aload_n 2, 1) := by decide +kernel
theorem dX7_law_498 : decode cX7_law 498 = .ok (.invokevirtual 59, 3) := by decide +kernel
theorem dX7_law_501 : decode cX7_law 501 = .ok (.if_icmp .eq 115, 3) := by decide +kernel
theorem dX7_law_504 : decode cX7_law 504 = .ok (.iconst 0, 1) := by decide +kernel
theorem dX7_law_505 : decode cX7_law 505 = .ok (.ireturn, 1) := by decide +kernel
theorem dX7_law_506 : decode cX7_law 506 = .ok (.aload_n 1, 1) := by decide +kernel
theorem dX7_law_507 : decode cX7_law 507 = .ok (.invokevirtual 60, 3) := by decide +kernel
theorem dX7_law_510 : decode cX7_law 510 = .ok (.aload_n 2, 1) := by decide +kernel
theorem dX7_law_511 : decode cX7_law 511 = .ok (.invokevirtual 63, 3) := by decide +kernel
theorem dX7_law_514 : decode cX7_law 514 = .ok (.if_icmp .eq 102, 3) := by decide +kernel
theorem dX7_law_517 : decode cX7_law 517 = .ok (.iconst 0, 1) := by decide +kernel
theorem dX7_law_518 : decode cX7_law 518 = .ok (.ireturn, 1) := by decide +kernel
theorem dX7_law_519 : decode cX7_law 519 = .ok (.aload_n 1, 1) := by decide +kernel
theorem dX7_law_520 : decode cX7_law 520 = .ok (.invokevirtual 64, 3) := by decide +kernel
theorem dX7_law_523 : decode cX7_law 523 = .ok (.aload_n 2, 1) := by decide +kernel
theorem dX7_law_524 : decode cX7_law 524 = .ok (.invokevirtual 67, 3) := by decide +kernel
theorem dX7_law_527 : decode cX7_law 527 = .ok (.if_icmp .eq 89, 3) := by decide +kernel
theorem dX7_law_530 : decode cX7_law 530 = .ok (.iconst 0, 1) := by decide +kernel
theorem dX7_law_531 : decode cX7_law 531 = .ok (.ireturn, 1) := by decide +kernel
theorem dX7_law_532 : decode cX7_law 532 = .ok (.aload_n 1, 1) := by decide +kernel
theorem dX7_law_533 : decode cX7_law 533 = .ok (.aload_n 0, 1) := by decide +kernel
theorem dX7_law_534 : decode cX7_law 534 = .ok (.iload_n 3, 1) := by decide +kernel
theorem dX7_law_535 : decode cX7_law 535 = .ok (.iconst 1, 1) := by decide +kernel
theorem dX7_law_536 : decode cX7_law 536 = .ok (.iadd, 1) := by decide +kernel
theorem dX7_law_537 : decode cX7_law 537 = .ok (.iaload, 1) := by decide +kernel
theorem dX7_law_538 : decode cX7_law 538 = .ok (.invokevirtual 68, 3) := by decide +kernel
theorem dX7_law_541 : decode cX7_law 541 = .ok (.aload_n 2, 1) := by decide +kernel
theorem dX7_law_542 : decode cX7_law 542 = .ok (.aload_n 0, 1) := by decide +kernel
theorem dX7_law_543 : decode cX7_law 543 = .ok (.iload_n 3, 1) := by decide +kernel
theorem dX7_law_544 : decode cX7_law 544 = .ok (.iconst 1, 1) := by decide +kernel
theorem dX7_law_545 : decode cX7_law 545 = .ok (.iadd, 1) := by decide +kernel
theorem dX7_law_546 : decode cX7_law 546 = .ok (.iaload, 1) := by decide +kernel
theorem dX7_law_547 : decode cX7_law 547 = .ok (.invokevirtual 72, 3) := by decide +kernel
theorem dX7_law_550 : decode cX7_law 550 = .ok (.lcmp, 1) := by decide +kernel
theorem dX7_law_551 : decode cX7_law 551 = .ok (.ifCond .eq 65, 3) := by decide +kernel
theorem dX7_law_554 : decode cX7_law 554 = .ok (.iconst 0, 1) := by decide +kernel
theorem dX7_law_555 : decode cX7_law 555 = .ok (.ireturn, 1) := by decide +kernel
theorem dX7_law_556 : decode cX7_law 556 = .ok (.aload_n 1, 1) := by decide +kernel
theorem dX7_law_557 : decode cX7_law 557 = .ok (.aload_n 0, 1) := by decide +kernel
theorem dX7_law_558 : decode cX7_law 558 = .ok (.iload_n 3, 1) := by decide +kernel
theorem dX7_law_559 : decode cX7_law 559 = .ok (.iconst 1, 1) := by decide +kernel
theorem dX7_law_560 : decode cX7_law 560 = .ok (.iadd, 1) := by decide +kernel
theorem dX7_law_561 : decode cX7_law 561 = .ok (.iaload, 1) := by decide +kernel
theorem dX7_law_562 : decode cX7_law 562 = .ok (.invokevirtual 73, 3) := by decide +kernel
theorem dX7_law_565 : decode cX7_law 565 = .ok (.aload_n 2, 1) := by decide +kernel
theorem dX7_law_566 : decode cX7_law 566 = .ok (.aload_n 0, 1) := by decide +kernel
theorem dX7_law_567 : decode cX7_law 567 = .ok (.iload_n 3, 1) := by decide +kernel
theorem dX7_law_568 : decode cX7_law 568 = .ok (.iconst 1, 1) := by decide +kernel
theorem dX7_law_569 : decode cX7_law 569 = .ok (.iadd, 1) := by decide +kernel
theorem dX7_law_570 : decode cX7_law 570 = .ok (.iaload, 1) := by decide +kernel
theorem dX7_law_571 : decode cX7_law 571 = .ok (.invokevirtual 77, 3) := by decide +kernel
theorem dX7_law_574 : decode cX7_law 574 = .ok (.if_icmp .eq 42, 3) := by decide +kernel
theorem dX7_law_577 : decode cX7_law 577 = .ok (.iconst 0, 1) := by decide +kernel
theorem dX7_law_578 : decode cX7_law 578 = .ok (.ireturn, 1) := by decide +kernel
theorem dX7_law_579 : decode cX7_law 579 = .ok (.aload_n 1, 1) := by decide +kernel
theorem dX7_law_580 : decode cX7_law 580 = .ok (.aload_n 0, 1) := by decide +kernel
theorem dX7_law_581 : decode cX7_law 581 = .ok (.iload_n 3, 1) := by decide +kernel
theorem dX7_law_582 : decode cX7_law 582 = .ok (.iconst 1, 1) := by decide +kernel
theorem dX7_law_583 : decode cX7_law 583 = .ok (.iadd, 1) := by decide +kernel
theorem dX7_law_584 : decode cX7_law 584 = .ok (.iaload, 1) := by decide +kernel
theorem dX7_law_585 : decode cX7_law 585 = .ok (.invokevirtual 78, 3) := by decide +kernel
theorem dX7_law_588 : decode cX7_law 588 = .ok (.aload_n 2, 1) := by decide +kernel
theorem dX7_law_589 : decode cX7_law 589 = .ok (.aload_n 0, 1) := by decide +kernel
theorem dX7_law_590 : decode cX7_law 590 = .ok (.iload_n 3, 1) := by decide +kernel
theorem dX7_law_591 : decode cX7_law 591 = .ok (.iconst 1, 1) := by decide +kernel
theorem dX7_law_592 : decode cX7_law 592 = .ok (.iadd, 1) := by decide +kernel
theorem dX7_law_593 : decode cX7_law 593 = .ok (.iaload, 1) := by decide +kernel
theorem dX7_law_594 : decode cX7_law 594 = .ok (.invokevirtual 81, 3) := by decide +kernel
theorem dX7_law_597 : decode cX7_law 597 = .ok (.if_icmp .eq 19, 3) := by decide +kernel
theorem dX7_law_600 : decode cX7_law 600 = .ok (.iconst 0, 1) := by decide +kernel
theorem dX7_law_601 : decode cX7_law 601 = .ok (.ireturn, 1) := by decide +kernel
theorem dX7_law_602 : decode cX7_law 602 = .ok (.aload_n 1, 1) := by decide +kernel
theorem dX7_law_603 : decode cX7_law 603 = .ok (.invokevirtual 82, 3) := by decide +kernel
theorem dX7_law_606 : decode cX7_law 606 = .ok (.aload_n 2, 1) := by decide +kernel
theorem dX7_law_607 : decode cX7_law 607 = .ok (.invokevirtual 86, 3) := by decide +kernel
theorem dX7_law_610 : decode cX7_law 610 = .ok (.lcmp, 1) := by decide +kernel
theorem dX7_law_611 : decode cX7_law 611 = .ok (.ifCond .eq 5, 3) := by decide +kernel
theorem dX7_law_614 : decode cX7_law 614 = .ok (.iconst 0, 1) := by decide +kernel
theorem dX7_law_615 : decode cX7_law 615 = .ok (.ireturn, 1) := by decide +kernel
theorem dX7_law_616 : decode cX7_law 616 = .ok (.iinc 3 10, 3) := by decide +kernel
theorem dX7_law_619 : decode cX7_law 619 = .ok (.goto (-591), 3) := by decide +kernel
theorem dX7_law_622 : decode cX7_law 622 = .ok (.iconst 1, 1) := by decide +kernel
theorem dX7_law_623 : decode cX7_law 623 = .ok (.ireturn, 1) := by decide +kernel
