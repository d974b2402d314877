theorem dX11_init_0 : decode cX11_init 0 = .ok (.aload_n 0, 1) := by decide +kernel
theorem dX11_init_1 : decode cX11_init 1 = .ok (.invokespecial 1, 3) := by decide +kernel
theorem dX11_init_4 : decode cX11_init 4 = .ok (.aload_n 0, 1) := by decide +kernel
theorem dX11_init_5 : decode cX11_init 5 = .ok (.new 7, 3) := by decide +kernel
theorem dX11_init_8 : decode cX11_init 8 = .ok (.dup, 1) := by decide +kernel
theorem dX11_init_9 : decode cX11_init 9 = .ok (.invokespecial 9, 3) := by decide +kernel
theorem dX11_init_12 : decode cX11_init 12 = .ok (.putfield 10, 3) := by decide +kernel
theorem dX11_init_15 : decode cX11_init 15 = .ok (.aload_n 0, 1) := by decide +kernel
theorem dX11_init_16 : decode cX11_init 16 = .ok (.new 16, 3) := by decide +kernel
theorem dX11_init_19 : decode cX11_init 19 = .ok (.dup, 1) := by decide +kernel
theorem dX11_init_20 : decode cX11_init 20 = .ok (.invokespecial 18, 3) := by decide +kernel
theorem dX11_init_23 : decode cX11_init 23 = .ok (.putfield 19, 3) := by decide +kernel
theorem dX11_init_26 : decode cX11_init 26 = .ok (.aload_n 0, 1) := by decide +kernel
theorem dX11_init_27 : decode cX11_init 27 = .ok (.new 23, 3) := by decide +kernel
theorem dX11_init_30 : decode cX11_init 30 = .ok (.dup, 1) := by decide +kernel
theorem dX11_init_31 : decode cX11_init 31 = .ok (.invokespecial 25, 3) := by decide +kernel
theorem dX11_init_34 : decode cX11_init 34 = .ok (.putfield 26, 3) := by decide +kernel
theorem dX11_init_37 : decode cX11_init 37 = .ok (.aload_n 0, 1) := by decide +kernel
theorem dX11_init_38 : decode cX11_init 38 = .ok (.new 30, 3) := by decide +kernel
theorem dX11_init_41 : decode cX11_init 41 = .ok (.dup, 1) := by decide +kernel
theorem dX11_init_42 : decode cX11_init 42 = .ok (.invokespecial 32, 3) := by decide +kernel
theorem dX11_init_45 : decode cX11_init 45 = .ok (.putfield 33, 3) := by decide +kernel
theorem dX11_init_48 : decode cX11_init 48 = .ok (.aload_n 0, 1) := by decide +kernel
theorem dX11_init_49 : decode cX11_init 49 = .ok (.new 37, 3) := by decide +kernel
theorem dX11_init_52 : decode cX11_init 52 = .ok (.dup, 1) := by decide +kernel
theorem dX11_init_53 : decode cX11_init 53 = .ok (.aload_n 0, 1) := by decide +kernel
theorem dX11_init_54 : decode cX11_init 54 = .ok (.getfield 19, 3) := by decide +kernel
theorem dX11_init_57 : decode cX11_init 57 = .ok (.aload_n 0, 1) := by decide +kernel
theorem dX11_init_58 : decode cX11_init 58 = .ok (.getfield 26, 3) := by decide +kernel
theorem dX11_init_61 : decode cX11_init 61 = .ok (.invokespecial 39, 3) := by decide +kernel
theorem dX11_init_64 : decode cX11_init 64 = .ok (.putfield 42, 3) := by decide +kernel
theorem dX11_init_67 : decode cX11_init 67 = .ok (.aload_n 0, 1) := by decide +kernel
theorem dX11_init_68 : decode cX11_init 68 = .ok (.new 46, 3) := by decide +kernel
theorem dX11_init_71 : decode cX11_init 71 = .ok (.dup, 1) := by decide +kernel
theorem dX11_init_72 : decode cX11_init 72 = .ok (.invokespecial 48, 3) := by decide +kernel
theorem dX11_init_75 : decode cX11_init 75 = .ok (.putfield 49, 3) := by decide +kernel
theorem dX11_init_78 : decode cX11_init 78 = .ok (.aload_n 0, 1) := by decide +kernel
theorem dX11_init_79 : decode cX11_init 79 = .ok (.new 46, 3) := by decide +kernel
theorem dX11_init_82 : decode cX11_init 82 = .ok (.dup, 1) := by decide +kernel
theorem dX11_init_83 : decode cX11_init 83 = .ok (.invokespecial 48, 3) := by decide +kernel
theorem dX11_init_86 : decode cX11_init 86 = .ok (.putfield 53, 3) := by decide +kernel
theorem dX11_init_89 : decode cX11_init 89 = .ok (.aload_n 0, 1) := by decide +kernel
theorem dX11_init_90 : decode cX11_init 90 = .ok (.new 46, 3) := by decide +kernel
theorem dX11_init_93 : decode cX11_init 93 = .ok (.dup, 1) := by decide +kernel
theorem dX11_init_94 : decode cX11_init 94 = .ok (.invokespecial 48, 3) := by decide +kernel
theorem dX11_init_97 : decode cX11_init 97 = .ok (.putfield 56, 3) := by decide +kernel
theorem dX11_init_100 : decode cX11_init 100 = .ok (.aload_n 0, 1) := by decide +kernel
theorem dX11_init_101 : decode cX11_init 101 = .ok (.new 59, 3) := by decide +kernel
theorem dX11_init_104 : decode cX11_init 104 = .ok (.dup, 1) := by decide +kernel
theorem dX11_init_105 : decode cX11_init 105 = .ok (.invokespecial 61, 3) := by decide +kernel
theorem dX11_init_108 : decode cX11_init 108 = .ok (.putfield 62, 3) := by decide +kernel
theorem dX11_init_111 : decode cX11_init 111 = .ok (.aload_n 0, 1) := by decide +kernel
theorem dX11_init_112 : decode cX11_init 112 = .ok (.new 66, 3) := by decide +kernel
theorem dX11_init_115 : decode cX11_init 115 = .ok (.dup, 1) := by decide +kernel
theorem dX11_init_116 : decode cX11_init 116 = .ok (.invokespecial 68, 3) := by decide +kernel
theorem dX11_init_119 : decode cX11_init 119 = .ok (.putfield 69, 3) := by decide +kernel
theorem dX11_init_122 : decode cX11_init 122 = .ok (.aload_n 0, 1) := by decide +kernel
theorem dX11_init_123 : decode cX11_init 123 = .ok (.new 73, 3) := by decide +kernel
theorem dX11_init_126 : decode cX11_init 126 = .ok (.dup, 1) := by decide +kernel
theorem dX11_init_127 : decode cX11_init 127 = .ok (.invokespecial 75, 3) := by decide +kernel
theorem dX11_init_130 : decode cX11_init 130 = .ok (.putfield 76, 3) := by decide +kernel
theorem dX11_init_133 : decode cX11_init 133 = .ok (.aload_n 0, 1) := by decide +kernel
theorem dX11_init_134 : decode cX11_init 134 = .ok (.new 80, 3) := by decide +kernel
theorem dX11_init_137 : decode cX11_init 137 = .ok (.dup, 1) := by decide +kernel
theorem dX11_init_138 : decode cX11_init 138 = .ok (.invokespecial 82, 3) := by decide +kernel
theorem dX11_init_141 : decode cX11_init 141 = .ok (.putfield 83, 3) := by decide +kernel
theorem dX11_init_144 : decode cX11_init 144 = .ok (.aload_n 0, 1) := by decide +kernel
theorem dX11_init_145 : decode cX11_init 145 = .ok (.bipush 8, 2) := by decide +kernel
theorem dX11_init_147 : decode cX11_init 147 = .ok (.newarray .int, 2) := by decide +kernel
theorem dX11_init_149 : decode cX11_init 149 = .ok (.putfield 87, 3) := by decide +kernel
theorem dX11_init_152 : decode cX11_init 152 = .ok (.aload_n 0, 1) := by decide +kernel
theorem dX11_init_153 : decode cX11_init 153 = .ok (.bipush 12, 2) := by decide +kernel
theorem dX11_init_155 : decode cX11_init 155 = .ok (.newarray .int, 2) := by decide +kernel
theorem dX11_init_157 : decode cX11_init 157 = .ok (.putfield 91, 3) := by decide +kernel
theorem dX11_init_160 : decode cX11_init 160 = .ok (.aload_n 0, 1) := by decide +kernel
theorem dX11_init_161 : decode cX11_init 161 = .ok (.new 94, 3) := by decide +kernel
theorem dX11_init_164 : decode cX11_init 164 = .ok (.dup, 1) := by decide +kernel
theorem dX11_init_165 : decode cX11_init 165 = .ok (.invokespecial 96, 3) := by decide +kernel
theorem dX11_init_168 : decode cX11_init 168 = .ok (.putfield 97, 3) := by decide +kernel
theorem dX11_init_171 : decode cX11_init 171 = .ok (.aload_n 0, 1) := by decide +kernel
theorem dX11_init_172 : decode cX11_init 172 = .ok (.new 94, 3) := by decide +kernel
theorem dX11_init_175 : decode cX11_init 175 = .ok (.dup, 1) := by decide +kernel
theorem dX11_init_176 : decode cX11_init 176 = .ok (.invokespecial 96, 3) := by decide +kernel
theorem dX11_init_179 : decode cX11_init 179 = .ok (.putfield 101, 3) := by decide +kernel
theorem dX11_init_182 : decode cX11_init 182 = .ok (.return_, 1) := by decide +kernel
theorem dX11_sign_0 : decode cX11_sign 0 = .ok (.aload_n 0, 1) := by decide +kernel
theorem dX11_sign_1 : decode cX11_sign 1 = .ok (.getfield 10, 3) := by decide +kernel
theorem dX11_sign_4 : decode cX11_sign 4 = .ok (.iload_n 1, 1) := by decide +kernel
theorem dX11_sign_5 : decode cX11_sign 5 = .ok (.invokevirtual 104, 3) := by decide +kernel
theorem dX11_sign_8 : decode cX11_sign 8 = .ok (.ifCond .eq 13, 3) := by decide +kernel
theorem dX11_sign_11 : decode cX11_sign 11 = .ok (.aload_n 0, 1) := by decide +kernel
theorem dX11_sign_12 : decode cX11_sign 12 = .ok (.getfield 10, 3) := by decide +kernel
theorem dX11_sign_15 : decode cX11_sign 15 = .ok (.invokevirtual 108, 3) := by decide +kernel
theorem dX11_sign_18 : decode cX11_sign 18 = .ok (.goto 4, 3) := by decide +kernel
theorem dX11_sign_21 : decode cX11_sign 21 = .ok (.iconst (-1), 1) := by decide +kernel
theorem dX11_sign_22 : decode cX11_sign 22 = .ok (.ireturn, 1) := by decide +kernel
theorem dX11_end_0 : decode cX11_end 0 = .ok (.aload_n 0, 1) := by decide +kernel
theorem dX11_end_1 : decode cX11_end 1 = .ok (.getfield 10, 3) := by decide +kernel
theorem dX11_end_4 : decode cX11_end 4 = .ok (.iload_n 1, 1) := by decide +kernel
theorem dX11_end_5 : decode cX11_end 5 = .ok (.invokevirtual 112, 3) := by decide +kernel
theorem dX11_end_8 : decode cX11_end 8 = .ok (.ireturn, 1) := by decide +kernel
theorem dX11_line_0 : decode cX11_line 0 = .ok (.aload_n 0, 1) := by decide +kernel
theorem dX11_line_1 : decode cX11_line 1 = .ok (.invokevirtual 115, 3) := by decide +kernel
theorem dX11_line_4 : decode cX11_line 4 = .ok (.istore_n 1, 1) := by decide +kernel
theorem dX11_line_5 : decode cX11_line 5 = .ok (.iload_n 1, 1) := by decide +kernel
theorem dX11_line_6 : decode cX11_line 6 = .ok (.iconst (-1), 1) := by decide +kernel
theorem dX11_line_7 : decode cX11_line 7 = .ok (.if_icmp .ne 28, 3) := by decide +kernel
theorem dX11_line_10 : decode cX11_line 10 = .ok (.aload_n 0, 1) := by decide +kernel
theorem dX11_line_11 : decode cX11_line 11 = .ok (.getfield 49, 3) := by decide +kernel
theorem dX11_line_14 : decode cX11_line 14 = .ok (.aload_n 0, 1) := by decide +kernel
theorem dX11_line_15 : decode cX11_line 15 = .ok (.getfield 10, 3) := by decide +kernel
theorem dX11_line_18 : decode cX11_line 18 = .ok (.invokevirtual 118, 3) := by decide +kernel
theorem dX11_line_21 : decode cX11_line 21 = .ok (.aload_n 0, 1) := by decide +kernel
theorem dX11_line_22 : decode cX11_line 22 = .ok (.getfield 62, 3) := by decide +kernel
theorem dX11_line_25 : decode cX11_line 25 = .ok (.invokevirtual 122, 3) := by decide +kernel
theorem dX11_line_28 : decode cX11_line 28 = .ok (.aload_n 0, 1) := by decide +kernel
theorem dX11_line_29 : decode cX11_line 29 = .ok (.getfield 69, 3) := by decide +kernel
theorem dX11_line_32 : decode cX11_line 32 = .ok (.invokevirtual 125, 3) := by decide +kernel
theorem dX11_line_35 : decode cX11_line 35 = .ok (.aload_n 0, 1) := by decide +kernel
theorem dX11_line_36 : decode cX11_line 36 = .ok (.getfield 10, 3) := by decide +kernel
theorem dX11_line_39 : decode cX11_line 39 = .ok (.invokevirtual 126, 3) := by decide +kernel
theorem dX11_line_42 : decode cX11_line 42 = .ok (.iload_n 1, 1) := by decide +kernel
theorem dX11_line_43 : decode cX11_line 43 = .ok (.iconst (-1), 1) := by decide +kernel
theorem dX11_line_44 : decode cX11_line 44 = .ok (.if_icmp .ne 13, 3) := by decide +kernel
theorem dX11_line_47 : decode cX11_line 47 = .ok (.aload_n 0, 1) := by decide +kernel
theorem dX11_line_48 : decode cX11_line 48 = .ok (.getfield 49, 3) := by decide +kernel
theorem dX11_line_51 : decode cX11_line 51 = .ok (.invokevirtual 127, 3) := by decide +kernel
theorem dX11_line_54 : decode cX11_line 54 = .ok (.goto 6, 3) := by decide +kernel
theorem dX11_line_57 : decode cX11_line 57 = .ok (.iconst (-1), 1) := by decide +kernel
theorem dX11_line_58 : decode cX11_line 58 = .ok (.iload_n 1, 1) := by decide +kernel
theorem dX11_line_59 : decode cX11_line 59 = .ok (.isub, 1) := by decide +kernel
theorem dX11_line_60 : decode cX11_line 60 = .ok (.ireturn, 1) := by decide +kernel
theorem dX11_lineFault_0 : decode cX11_lineFault 0 = .ok (.aload_n 0, 1) := by decide +kernel
theorem dX11_lineFault_1 : decode cX11_lineFault 1 = .ok (.getfield 10, 3) := by decide +kernel
theorem dX11_lineFault_4 : decode cX11_lineFault 4 = .ok (.invokevirtual 108, 3) := by decide +kernel
theorem dX11_lineFault_7 : decode cX11_lineFault 7 = .ok (.ifCond .ne 5, 3) := by decide +kernel
theorem dX11_lineFault_10 : decode cX11_lineFault 10 = .ok (.iconst 0, 1) := by decide +kernel
theorem dX11_lineFault_11 : decode cX11_lineFault 11 = .ok (.ireturn, 1) := by decide +kernel
theorem dX11_lineFault_12 : decode cX11_lineFault 12 = .ok (.iconst 0, 1) := by decide +kernel
theorem dX11_lineFault_13 : decode cX11_lineFault 13 = .ok (.istore_n 1, 1) := by decide +kernel
theorem dX11_lineFault_14 : decode cX11_lineFault 14 = .ok (.iload_n 1, 1) := by decide +kernel
theorem dX11_lineFault_15 : decode cX11_lineFault 15 = .ok (.aload_n 0, 1) := by decide +kernel
theorem dX11_lineFault_16 : decode cX11_lineFault 16 = .ok (.getfield 10, 3) := by decide +kernel
theorem dX11_lineFault_19 : decode cX11_lineFault 19 = .ok (.invokevirtual 108, 3) := by decide +kernel
theorem dX11_lineFault_22 : decode cX11_lineFault 22 = .ok (.if_icmp .ge 39, 3) := by decide +kernel
theorem dX11_lineFault_25 : decode cX11_lineFault 25 = .ok (.iload_n 1, 1) := by decide +kernel
theorem dX11_lineFault_26 : decode cX11_lineFault 26 = .ok (.bipush 12, 2) := by decide +kernel
theorem dX11_lineFault_28 : decode cX11_lineFault 28 = .ok (.if_icmp .ge 33, 3) := by decide +kernel
theorem dX11_lineFault_31 : decode cX11_lineFault 31 = .ok (.aload_n 0, 1) := by decide +kernel
theorem dX11_lineFault_32 : decode cX11_lineFault 32 = .ok (.getfield 10, 3) := by decide +kernel
theorem dX11_lineFault_35 : decode cX11_lineFault 35 = .ok (.iload_n 1, 1) := by decide +kernel
theorem dX11_lineFault_36 : decode cX11_lineFault 36 = .ok (.invokevirtual 130, 3) := by decide +kernel
theorem dX11_lineFault_39 : decode cX11_lineFault 39 = .ok (.istore_n 2, 1) := by decide +kernel
theorem dX11_lineFault_40 : decode cX11_lineFault 40 = .ok (.iload_n 2, 1) := by decide +kernel
theorem dX11_lineFault_41 : decode cX11_lineFault 41 = .ok (.bipush 71, 2) := by decide +kernel
theorem dX11_lineFault_43 : decode cX11_lineFault 43 = .ok (.if_icmp .eq 12, 3) := by decide +kernel
theorem dX11_lineFault_46 : decode cX11_lineFault 46 = .ok (.iload_n 2, 1) := by decide +kernel
theorem dX11_lineFault_47 : decode cX11_lineFault 47 = .ok (.invokestatic 134, 3) := by decide +kernel
theorem dX11_lineFault_50 : decode cX11_lineFault 50 = .ok (.ifCond .ne 5, 3) := by decide +kernel
theorem dX11_lineFault_53 : decode cX11_lineFault 53 = .ok (.iload_n 1, 1) := by decide +kernel
theorem dX11_lineFault_54 : decode cX11_lineFault 54 = .ok (.ireturn, 1) := by decide +kernel
theorem dX11_lineFault_55 : decode cX11_lineFault 55 = .ok (.iinc 1 1, 3) := by decide +kernel
theorem dX11_lineFault_58 : decode cX11_lineFault 58 = .ok (.goto (-44), 3) := by decide +kernel
theorem dX11_lineFault_61 : decode cX11_lineFault 61 = .ok (.aload_n 0, 1) := by decide +kernel
theorem dX11_lineFault_62 : decode cX11_lineFault 62 = .ok (.getfield 10, 3) := by decide +kernel
theorem dX11_lineFault_65 : decode cX11_lineFault 65 = .ok (.invokevirtual 108, 3) := by decide +kernel
theorem dX11_lineFault_68 : decode cX11_lineFault 68 = .ok (.bipush 12, 2) := by decide +kernel
theorem dX11_lineFault_70 : decode cX11_lineFault 70 = .ok (.if_icmp .le 8, 3) := by decide +kernel
theorem dX11_lineFault_73 : decode cX11_lineFault 73 = .ok (.bipush 12, 2) := by decide +kernel
theorem dX11_lineFault_75 : decode cX11_lineFault 75 = .ok (.goto 4, 3) := by decide +kernel
theorem dX11_lineFault_78 : decode cX11_lineFault 78 = .ok (.iconst (-1), 1) := by decide +kernel
theorem dX11_lineFault_79 : decode cX11_lineFault 79 = .ok (.ireturn, 1) := by decide +kernel
theorem dX11_carriers_0 : decode cX11_carriers 0 = .ok (.aload_n 0, 1) := by decide +kernel
theorem dX11_carriers_1 : decode cX11_carriers 1 = .ok (.getfield 19, 3) := by decide +kernel
theorem dX11_carriers_4 : decode cX11_carriers 4 = .ok (.aload_n 0, 1) := by decide +kernel
theorem dX11_carriers_5 : decode cX11_carriers 5 = .ok (.getfield 10, 3) := by decide +kernel
theorem dX11_carriers_8 : decode cX11_carriers 8 = .ok (.invokevirtual 137, 3) := by decide +kernel
theorem dX11_carriers_11 : decode cX11_carriers 11 = .ok (.istore_n 1, 1) := by decide +kernel
theorem dX11_carriers_12 : decode cX11_carriers 12 = .ok (.aload_n 0, 1) := by decide +kernel
theorem dX11_carriers_13 : decode cX11_carriers 13 = .ok (.getfield 10, 3) := by decide +kernel
theorem dX11_carriers_16 : decode cX11_carriers 16 = .ok (.invokevirtual 126, 3) := by decide +kernel
theorem dX11_carriers_19 : decode cX11_carriers 19 = .ok (.iload_n 1, 1) := by decide +kernel
theorem dX11_carriers_20 : decode cX11_carriers 20 = .ok (.ireturn, 1) := by decide +kernel
theorem dX11_weather_0 : decode cX11_weather 0 = .ok (.aload_n 0, 1) := by decide +kernel
theorem dX11_weather_1 : decode cX11_weather 1 = .ok (.getfield 26, 3) := by decide +kernel
theorem dX11_weather_4 : decode cX11_weather 4 = .ok (.aload_n 0, 1) := by decide +kernel
theorem dX11_weather_5 : decode cX11_weather 5 = .ok (.getfield 10, 3) := by decide +kernel
theorem dX11_weather_8 : decode cX11_weather 8 = .ok (.invokevirtual 141, 3) := by decide +kernel
theorem dX11_weather_11 : decode cX11_weather 11 = .ok (.istore_n 1, 1) := by decide +kernel
theorem dX11_weather_12 : decode cX11_weather 12 = .ok (.aload_n 0, 1) := by decide +kernel
theorem dX11_weather_13 : decode cX11_weather 13 = .ok (.getfield 10, 3) := by decide +kernel
theorem dX11_weather_16 : decode cX11_weather 16 = .ok (.invokevirtual 126, 3) := by decide +kernel
theorem dX11_weather_19 : decode cX11_weather 19 = .ok (.iload_n 1, 1) := by decide +kernel
theorem dX11_weather_20 : decode cX11_weather 20 = .ok (.ireturn, 1) := by decide +kernel
theorem dX11_mouths_0 : decode cX11_mouths 0 = .ok (.aload_n 0, 1) := by decide +kernel
theorem dX11_mouths_1 : decode cX11_mouths 1 = .ok (.getfield 33, 3) := by decide +kernel
theorem dX11_mouths_4 : decode cX11_mouths 4 = .ok (.aload_n 0, 1) := by decide +kernel
theorem dX11_mouths_5 : decode cX11_mouths 5 = .ok (.getfield 10, 3) := by decide +kernel
theorem dX11_mouths_8 : decode cX11_mouths 8 = .ok (.invokevirtual 142, 3) := by decide +kernel
theorem dX11_mouths_11 : decode cX11_mouths 11 = .ok (.istore_n 1, 1) := by decide +kernel
theorem dX11_mouths_12 : decode cX11_mouths 12 = .ok (.aload_n 0, 1) := by decide +kernel
theorem dX11_mouths_13 : decode cX11_mouths 13 = .ok (.getfield 10, 3) := by decide +kernel
theorem dX11_mouths_16 : decode cX11_mouths 16 = .ok (.invokevirtual 126, 3) := by decide +kernel
theorem dX11_mouths_19 : decode cX11_mouths 19 = .ok (.iload_n 1, 1) := by decide +kernel
theorem dX11_mouths_20 : decode cX11_mouths 20 = .ok (.ireturn, 1) := by decide +kernel
theorem dX11_rule_0 : decode cX11_rule 0 = .ok (.aload_n 0, 1) := by decide +kernel
theorem dX11_rule_1 : decode cX11_rule 1 = .ok (.getfield 101, 3) := by decide +kernel
theorem dX11_rule_4 : decode cX11_rule 4 = .ok (.aload_n 0, 1) := by decide +kernel
theorem dX11_rule_5 : decode cX11_rule 5 = .ok (.getfield 10, 3) := by decide +kernel
theorem dX11_rule_8 : decode cX11_rule 8 = .ok (.invokevirtual 143, 3) := by decide +kernel
theorem dX11_rule_11 : decode cX11_rule 11 = .ok (.istore_n 1, 1) := by decide +kernel
theorem dX11_rule_12 : decode cX11_rule 12 = .ok (.aload_n 0, 1) := by decide +kernel
theorem dX11_rule_13 : decode cX11_rule 13 = .ok (.getfield 10, 3) := by decide +kernel
theorem dX11_rule_16 : decode cX11_rule 16 = .ok (.invokevirtual 126, 3) := by decide +kernel
theorem dX11_rule_19 : decode cX11_rule 19 = .ok (.iload_n 1, 1) := by decide +kernel
theorem dX11_rule_20 : decode cX11_rule 20 = .ok (.iconst (-1), 1) := by decide +kernel
theorem dX11_rule_21 : decode cX11_rule 21 = .ok (.if_icmp .eq 7, 3) := by decide +kernel
theorem dX11_rule_24 : decode cX11_rule 24 = .ok (.iconst (-1), 1) := by decide +kernel
theorem dX11_rule_25 : decode cX11_rule 25 = .ok (.iload_n 1, 1) := by decide +kernel
theorem dX11_rule_26 : decode cX11_rule 26 = .ok (.isub, 1) := by decide +kernel
theorem dX11_rule_27 : decode cX11_rule 27 = .ok (.ireturn, 1) := by decide +kernel
theorem dX11_rule_28 : decode cX11_rule 28 = .ok (.aload_n 0, 1) := by decide +kernel
theorem dX11_rule_29 : decode cX11_rule 29 = .ok (.getfield 97, 3) := by decide +kernel
theorem dX11_rule_32 : decode cX11_rule 32 = .ok (.astore_n 2, 1) := by decide +kernel
theorem dX11_rule_33 : decode cX11_rule 33 = .ok (.aload_n 0, 1) := by decide +kernel
theorem dX11_rule_34 : decode cX11_rule 34 = .ok (.aload_n 0, 1) := by decide +kernel
theorem dX11_rule_35 : decode cX11_rule 35 = .ok (.getfield 101, 3) := by decide +kernel
theorem dX11_rule_38 : decode cX11_rule 38 = .ok (.putfield 97, 3) := by decide +kernel
theorem dX11_rule_41 : decode cX11_rule 41 = .ok (.aload_n 0, 1) := by decide +kernel
theorem dX11_rule_42 : decode cX11_rule 42 = .ok (.aload_n 2, 1) := by decide +kernel
theorem dX11_rule_43 : decode cX11_rule 43 = .ok (.putfield 101, 3) := by decide +kernel
theorem dX11_rule_46 : decode cX11_rule 46 = .ok (.iconst 0, 1) := by decide +kernel
theorem dX11_rule_47 : decode cX11_rule 47 = .ok (.ireturn, 1) := by decide +kernel
theorem dX11_mile_0 : decode cX11_mile 0 = .ok (.aload_n 0, 1) := by decide +kernel
theorem dX11_mile_1 : decode cX11_mile 1 = .ok (.getfield 49, 3) := by decide +kernel
theorem dX11_mile_4 : decode cX11_mile 4 = .ok (.iload_n 1, 1) := by decide +kernel
theorem dX11_mile_5 : decode cX11_mile 5 = .ok (.invokevirtual 144, 3) := by decide +kernel
theorem dX11_mile_8 : decode cX11_mile 8 = .ok (.ifCond .eq 12, 3) := by decide +kernel
theorem dX11_mile_11 : decode cX11_mile 11 = .ok (.iload_n 2, 1) := by decide +kernel
theorem dX11_mile_12 : decode cX11_mile 12 = .ok (.ifCond .lt 8, 3) := by decide +kernel
theorem dX11_mile_15 : decode cX11_mile 15 = .ok (.iload_n 2, 1) := by decide +kernel
theorem dX11_mile_16 : decode cX11_mile 16 = .ok (.iconst 2, 1) := by decide +kernel
theorem dX11_mile_17 : decode cX11_mile 17 = .ok (.if_icmp .le 11, 3) := by decide +kernel
theorem dX11_mile_20 : decode cX11_mile 20 = .ok (.new 147, 3) := by decide +kernel
theorem dX11_mile_23 : decode cX11_mile 23 = .ok (.dup, 1) := by decide +kernel
theorem dX11_mile_24 : decode cX11_mile 24 = .ok (.invokespecial 149, 3) := by decide +kernel
theorem dX11_mile_27 : decode cX11_mile 27 = .ok (.athrow, 1) := by decide +kernel
theorem dX11_mile_28 : decode cX11_mile 28 = .ok (.iload_n 2, 1) := by decide +kernel
theorem dX11_mile_29 : decode cX11_mile 29 = .ok (.ifCond .ne 12, 3) := by decide +kernel
theorem dX11_mile_32 : decode cX11_mile 32 = .ok (.aload_n 0, 1) := by decide +kernel
theorem dX11_mile_33 : decode cX11_mile 33 = .ok (.getfield 49, 3) := by decide +kernel
theorem dX11_mile_36 : decode cX11_mile 36 = .ok (.iload_n 1, 1) := by decide +kernel
theorem dX11_mile_37 : decode cX11_mile 37 = .ok (.invokevirtual 150, 3) := by decide +kernel
theorem dX11_mile_40 : decode cX11_mile 40 = .ok (.ireturn, 1) := by decide +kernel
theorem dX11_mile_41 : decode cX11_mile 41 = .ok (.iload_n 2, 1) := by decide +kernel
theorem dX11_mile_42 : decode cX11_mile 42 = .ok (.iconst 1, 1) := by decide +kernel
theorem dX11_mile_43 : decode cX11_mile 43 = .ok (.if_icmp .ne 20, 3) := by decide +kernel
theorem dX11_mile_46 : decode cX11_mile 46 = .ok (.aload_n 0, 1) := by decide +kernel
theorem dX11_mile_47 : decode cX11_mile 47 = .ok (.getfield 49, 3) := by decide +kernel
theorem dX11_mile_50 : decode cX11_mile 50 = .ok (.iload_n 1, 1) := by decide +kernel
theorem dX11_mile_51 : decode cX11_mile 51 = .ok (.invokevirtual 153, 3) := by decide +kernel
theorem dX11_mile_54 : decode cX11_mile 54 = .ok (.ifCond .eq 7, 3) := by decide +kernel
theorem dX11_mile_57 : decode cX11_mile 57 = .ok (.iconst 1, 1) := by decide +kernel
theorem dX11_mile_58 : decode cX11_mile 58 = .ok (.goto 4, 3) := by decide +kernel
theorem dX11_mile_61 : decode cX11_mile 61 = .ok (.iconst 0, 1) := by decide +kernel
theorem dX11_mile_62 : decode cX11_mile 62 = .ok (.ireturn, 1) := by decide +kernel
theorem dX11_mile_63 : decode cX11_mile 63 = .ok (.aload_n 0, 1) := by decide +kernel
theorem dX11_mile_64 : decode cX11_mile 64 = .ok (.getfield 49, 3) := by decide +kernel
theorem dX11_mile_67 : decode cX11_mile 67 = .ok (.iload_n 1, 1) := by decide +kernel
theorem dX11_mile_68 : decode cX11_mile 68 = .ok (.invokevirtual 156, 3) := by decide +kernel
theorem dX11_mile_71 : decode cX11_mile 71 = .ok (.ireturn, 1) := by decide +kernel
theorem dX11_carrier_0 : decode cX11_carrier 0 = .ok (.aload_n 0, 1) := by decide +kernel
theorem dX11_carrier_1 : decode cX11_carrier 1 = .ok (.getfield 19, 3) := by decide +kernel
theorem dX11_carrier_4 : decode cX11_carrier 4 = .ok (.iload_n 1, 1) := by decide +kernel
theorem dX11_carrier_5 : decode cX11_carrier 5 = .ok (.invokevirtual 159, 3) := by decide +kernel
theorem dX11_carrier_8 : decode cX11_carrier 8 = .ok (.ifCond .eq 12, 3) := by decide +kernel
theorem dX11_carrier_11 : decode cX11_carrier 11 = .ok (.iload_n 2, 1) := by decide +kernel
theorem dX11_carrier_12 : decode cX11_carrier 12 = .ok (.ifCond .lt 8, 3) := by decide +kernel
theorem dX11_carrier_15 : decode cX11_carrier 15 = .ok (.iload_n 2, 1) := by decide +kernel
theorem dX11_carrier_16 : decode cX11_carrier 16 = .ok (.iconst 3, 1) := by decide +kernel
theorem dX11_carrier_17 : decode cX11_carrier 17 = .ok (.if_icmp .le 11, 3) := by decide +kernel
theorem dX11_carrier_20 : decode cX11_carrier 20 = .ok (.new 147, 3) := by decide +kernel
theorem dX11_carrier_23 : decode cX11_carrier 23 = .ok (.dup, 1) := by decide +kernel
theorem dX11_carrier_24 : decode cX11_carrier 24 = .ok (.invokespecial 149, 3) := by decide +kernel
theorem dX11_carrier_27 : decode cX11_carrier 27 = .ok (.athrow, 1) := by decide +kernel
theorem dX11_carrier_28 : decode cX11_carrier 28 = .ok (.iload_n 2, 1) := by decide +kernel
theorem dX11_carrier_29 : decode cX11_carrier 29 = .ok (.ifCond .ne 12, 3) := by decide +kernel
theorem dX11_carrier_32 : decode cX11_carrier 32 = .ok (.aload_n 0, 1) := by decide +kernel
theorem dX11_carrier_33 : decode cX11_carrier 33 = .ok (.getfield 19, 3) := by decide +kernel
theorem dX11_carrier_36 : decode cX11_carrier 36 = .ok (.iload_n 1, 1) := by decide +kernel
theorem dX11_carrier_37 : decode cX11_carrier 37 = .ok (.invokevirtual 160, 3) := by decide +kernel
theorem dX11_carrier_40 : decode cX11_carrier 40 = .ok (.ireturn, 1) := by decide +kernel
theorem dX11_carrier_41 : decode cX11_carrier 41 = .ok (.iload_n 2, 1) := by decide +kernel
theorem dX11_carrier_42 : decode cX11_carrier 42 = .ok (.iconst 1, 1) := by decide +kernel
theorem dX11_carrier_43 : decode cX11_carrier 43 = .ok (.if_icmp .ne 12, 3) := by decide +kernel
theorem dX11_carrier_46 : decode cX11_carrier 46 = .ok (.aload_n 0, 1) := by decide +kernel
theorem dX11_carrier_47 : decode cX11_carrier 47 = .ok (.getfield 19, 3) := by decide +kernel
theorem dX11_carrier_50 : decode cX11_carrier 50 = .ok (.iload_n 1, 1) := by decide +kernel
theorem dX11_carrier_51 : decode cX11_carrier 51 = .ok (.invokevirtual 163, 3) := by decide +kernel
theorem dX11_carrier_54 : decode cX11_carrier 54 = .ok (.ireturn, 1) := by decide +kernel
theorem dX11_carrier_55 : decode cX11_carrier 55 = .ok (.iload_n 2, 1) := by decide +kernel
theorem dX11_carrier_56 : decode cX11_carrier 56 = .ok (.iconst 2, 1) := by decide +kernel
theorem dX11_carrier_57 : decode cX11_carrier 57 = .ok (.if_icmp .ne 20, 3) := by decide +kernel
theorem dX11_carrier_60 : decode cX11_carrier 60 = .ok (.aload_n 0, 1) := by decide +kernel
theorem dX11_carrier_61 : decode cX11_carrier 61 = .ok (.getfield 42, 3) := by decide +kernel
theorem dX11_carrier_64 : decode cX11_carrier 64 = .ok (.aload_n 0, 1) := by decide +kernel
theorem dX11_carrier_65 : decode cX11_carrier 65 = .ok (.getfield 97, 3) := by decide +kernel
theorem dX11_carrier_68 : decode cX11_carrier 68 = .ok (.aload_n 0, 1) := by decide +kernel
theorem dX11_carrier_69 : decode cX11_carrier 69 = .ok (.getfield 49, 3) := by decide +kernel
theorem dX11_carrier_72 : decode cX11_carrier 72 = .ok (.iload_n 1, 1) := by decide +kernel
theorem dX11_carrier_73 : decode cX11_carrier 73 = .ok (.invokevirtual 166, 3) := by decide +kernel
theorem dX11_carrier_76 : decode cX11_carrier 76 = .ok (.ireturn, 1) := by decide +kernel
theorem dX11_carrier_77 : decode cX11_carrier 77 = .ok (.aload_n 0, 1) := by decide +kernel
theorem dX11_carrier_78 : decode cX11_carrier 78 = .ok (.getfield 42, 3) := by decide +kernel
theorem dX11_carrier_81 : decode cX11_carrier 81 = .ok (.aload_n 0, 1) := by decide +kernel
theorem dX11_carrier_82 : decode cX11_carrier 82 = .ok (.getfield 97, 3) := by decide +kernel
theorem dX11_carrier_85 : decode cX11_carrier 85 = .ok (.aload_n 0, 1) := by decide +kernel
theorem dX11_carrier_86 : decode cX11_carrier 86 = .ok (.getfield 49, 3) := by decide +kernel
theorem dX11_carrier_89 : decode cX11_carrier 89 = .ok (.iload_n 1, 1) := by decide +kernel
theorem dX11_carrier_90 : decode cX11_carrier 90 = .ok (.invokevirtual 170, 3) := by decide +kernel
theorem dX11_carrier_93 : decode cX11_carrier 93 = .ok (.iconst (-1), 1) := by decide +kernel
theorem dX11_carrier_94 : decode cX11_carrier 94 = .ok (.if_icmp .ne 7, 3) := by decide +kernel
theorem dX11_carrier_97 : decode cX11_carrier 97 = .ok (.iconst (-1), 1) := by decide +kernel
theorem dX11_carrier_98 : decode cX11_carrier 98 = .ok (.goto 10, 3) := by decide +kernel
theorem dX11_carrier_101 : decode cX11_carrier 101 = .ok (.aload_n 0, 1) := by decide +kernel
theorem dX11_carrier_102 : decode cX11_carrier 102 = .ok (.getfield 42, 3) := by decide +kernel
theorem dX11_carrier_105 : decode cX11_carrier 105 = .ok (.invokevirtual 173, 3) := by decide +kernel
theorem dX11_carrier_108 : decode cX11_carrier 108 = .ok (.ireturn, 1) := by decide +kernel
theorem dX11_mouth_0 : decode cX11_mouth 0 = .ok (.aload_n 0, 1) := by decide +kernel
theorem dX11_mouth_1 : decode cX11_mouth 1 = .ok (.getfield 33, 3) := by decide +kernel
theorem dX11_mouth_4 : decode cX11_mouth 4 = .ok (.iload_n 1, 1) := by decide +kernel
theorem dX11_mouth_5 : decode cX11_mouth 5 = .ok (.invokevirtual 176, 3) := by decide +kernel
theorem dX11_mouth_8 : decode cX11_mouth 8 = .ok (.ifCond .eq 12, 3) := by decide +kernel
theorem dX11_mouth_11 : decode cX11_mouth 11 = .ok (.iload_n 2, 1) := by decide +kernel
theorem dX11_mouth_12 : decode cX11_mouth 12 = .ok (.ifCond .lt 8, 3) := by decide +kernel
theorem dX11_mouth_15 : decode cX11_mouth 15 = .ok (.iload_n 2, 1) := by decide +kernel
theorem dX11_mouth_16 : decode cX11_mouth 16 = .ok (.iconst 1, 1) := by decide +kernel
theorem dX11_mouth_17 : decode cX11_mouth 17 = .ok (.if_icmp .le 11, 3) := by decide +kernel
theorem dX11_mouth_20 : decode cX11_mouth 20 = .ok (.new 147, 3) := by decide +kernel
theorem dX11_mouth_23 : decode cX11_mouth 23 = .ok (.dup, 1) := by decide +kernel
theorem dX11_mouth_24 : decode cX11_mouth 24 = .ok (.invokespecial 149, 3) := by decide +kernel
theorem dX11_mouth_27 : decode cX11_mouth 27 = .ok (.athrow, 1) := by decide +kernel
theorem dX11_mouth_28 : decode cX11_mouth 28 = .ok (.iload_n 2, 1) := by decide +kernel
theorem dX11_mouth_29 : decode cX11_mouth 29 = .ok (.ifCond .ne 14, 3) := by decide +kernel
theorem dX11_mouth_32 : decode cX11_mouth 32 = .ok (.aload_n 0, 1) := by decide +kernel
theorem dX11_mouth_33 : decode cX11_mouth 33 = .ok (.getfield 33, 3) := by decide +kernel
theorem dX11_mouth_36 : decode cX11_mouth 36 = .ok (.iload_n 1, 1) := by decide +kernel
theorem dX11_mouth_37 : decode cX11_mouth 37 = .ok (.invokevirtual 177, 3) := by decide +kernel
theorem dX11_mouth_40 : decode cX11_mouth 40 = .ok (.goto 11, 3) := by decide +kernel
theorem dX11_mouth_43 : decode cX11_mouth 43 = .ok (.aload_n 0, 1) := by decide +kernel
theorem dX11_mouth_44 : decode cX11_mouth 44 = .ok (.getfield 33, 3) := by decide +kernel
theorem dX11_mouth_47 : decode cX11_mouth 47 = .ok (.iload_n 1, 1) := by decide +kernel
theorem dX11_mouth_48 : decode cX11_mouth 48 = .ok (.invokevirtual 180, 3) := by decide +kernel
theorem dX11_mouth_51 : decode cX11_mouth 51 = .ok (.ireturn, 1) := by decide +kernel
theorem dX11_danger_0 : decode cX11_danger 0 = .ok (.aload_n 0, 1) := by decide +kernel
theorem dX11_danger_1 : decode cX11_danger 1 = .ok (.getfield 19, 3) := by decide +kernel
theorem dX11_danger_4 : decode cX11_danger 4 = .ok (.iload_n 1, 1) := by decide +kernel
theorem dX11_danger_5 : decode cX11_danger 5 = .ok (.invokevirtual 159, 3) := by decide +kernel
theorem dX11_danger_8 : decode cX11_danger 8 = .ok (.ifCond .eq 14, 3) := by decide +kernel
theorem dX11_danger_11 : decode cX11_danger 11 = .ok (.aload_n 0, 1) := by decide +kernel
theorem dX11_danger_12 : decode cX11_danger 12 = .ok (.getfield 49, 3) := by decide +kernel
theorem dX11_danger_15 : decode cX11_danger 15 = .ok (.iload_n 2, 1) := by decide +kernel
theorem dX11_danger_16 : decode cX11_danger 16 = .ok (.invokevirtual 144, 3) := by decide +kernel
theorem dX11_danger_19 : decode cX11_danger 19 = .ok (.ifCond .ne 5, 3) := by decide +kernel
theorem dX11_danger_22 : decode cX11_danger 22 = .ok (.iconst (-1), 1) := by decide +kernel
theorem dX11_danger_23 : decode cX11_danger 23 = .ok (.ireturn, 1) := by decide +kernel
theorem dX11_danger_24 : decode cX11_danger 24 = .ok (.aload_n 0, 1) := by decide +kernel
theorem dX11_danger_25 : decode cX11_danger 25 = .ok (.getfield 42, 3) := by decide +kernel
theorem dX11_danger_28 : decode cX11_danger 28 = .ok (.aload_n 0, 1) := by decide +kernel
theorem dX11_danger_29 : decode cX11_danger 29 = .ok (.getfield 97, 3) := by decide +kernel
theorem dX11_danger_32 : decode cX11_danger 32 = .ok (.aload_n 0, 1) := by decide +kernel
theorem dX11_danger_33 : decode cX11_danger 33 = .ok (.getfield 49, 3) := by decide +kernel
theorem dX11_danger_36 : decode cX11_danger 36 = .ok (.iload_n 1, 1) := by decide +kernel
theorem dX11_danger_37 : decode cX11_danger 37 = .ok (.iload_n 2, 1) := by decide +kernel
theorem dX11_danger_38 : decode cX11_danger 38 = .ok (.invokevirtual 183, 3) := by decide +kernel
theorem dX11_danger_41 : decode cX11_danger 41 = .ok (.ireturn, 1) := by decide +kernel
theorem dX11_sheet_0 : decode cX11_sheet 0 = .ok (.iload_n 1, 1) := by decide +kernel
theorem dX11_sheet_1 : decode cX11_sheet 1 = .ok (.ifCond .lt 14, 3) := by decide +kernel
theorem dX11_sheet_4 : decode cX11_sheet 4 = .ok (.iload_n 1, 1) := by decide +kernel
theorem dX11_sheet_5 : decode cX11_sheet 5 = .ok (.iconst 3, 1) := by decide +kernel
theorem dX11_sheet_6 : decode cX11_sheet 6 = .ok (.if_icmp .gt 9, 3) := by decide +kernel
theorem dX11_sheet_9 : decode cX11_sheet 9 = .ok (.iload_n 2, 1) := by decide +kernel
theorem dX11_sheet_10 : decode cX11_sheet 10 = .ok (.bipush 12, 2) := by decide +kernel
theorem dX11_sheet_12 : decode cX11_sheet 12 = .ok (.if_icmp .le 5, 3) := by decide +kernel
theorem dX11_sheet_15 : decode cX11_sheet 15 = .ok (.iconst (-1), 1) := by decide +kernel
theorem dX11_sheet_16 : decode cX11_sheet 16 = .ok (.ireturn, 1) := by decide +kernel
theorem dX11_sheet_17 : decode cX11_sheet 17 = .ok (.iload_n 1, 1) := by decide +kernel
theorem dX11_sheet_18 : decode cX11_sheet 18 = .ok (.iconst 3, 1) := by decide +kernel
theorem dX11_sheet_19 : decode cX11_sheet 19 = .ok (.if_icmp .ge 10, 3) := by decide +kernel
theorem dX11_sheet_22 : decode cX11_sheet 22 = .ok (.iload_n 2, 1) := by decide +kernel
theorem dX11_sheet_23 : decode cX11_sheet 23 = .ok (.ifCond .ge 6, 3) := by decide +kernel
theorem dX11_sheet_26 : decode cX11_sheet 26 = .ok (.bipush (-2), 2) := by decide +kernel
theorem dX11_sheet_28 : decode cX11_sheet 28 = .ok (.ireturn, 1) := by decide +kernel
theorem dX11_sheet_29 : decode cX11_sheet 29 = .ok (.iload_n 1, 1) := by decide +kernel
theorem dX11_sheet_30 : decode cX11_sheet 30 = .ok (.iconst 3, 1) := by decide +kernel
theorem dX11_sheet_31 : decode cX11_sheet 31 = .ok (.if_icmp .ne 7, 3) := by decide +kernel
theorem dX11_sheet_34 : decode cX11_sheet 34 = .ok (.iconst 0, 1) := by decide +kernel
theorem dX11_sheet_35 : decode cX11_sheet 35 = .ok (.goto 4, 3) := by decide +kernel
theorem dX11_sheet_38 : decode cX11_sheet 38 = .ok (.iload_n 2, 1) := by decide +kernel
theorem dX11_sheet_39 : decode cX11_sheet 39 = .ok (.istore 5, 2) := by decide +kernel
theorem dX11_sheet_41 : decode cX11_sheet 41 = .ok (.iconst 0, 1) := by decide +kernel
theorem dX11_sheet_42 : decode cX11_sheet 42 = .ok (.istore 6, 2) := by decide +kernel
theorem dX11_sheet_44 : decode cX11_sheet 44 = .ok (.iload 6, 2) := by decide +kernel
theorem dX11_sheet_46 : decode cX11_sheet 46 = .ok (.aload_n 0, 1) := by decide +kernel
theorem dX11_sheet_47 : decode cX11_sheet 47 = .ok (.getfield 49, 3) := by decide +kernel
theorem dX11_sheet_50 : decode cX11_sheet 50 = .ok (.invokevirtual 127, 3) := by decide +kernel
theorem dX11_sheet_53 : decode cX11_sheet 53 = .ok (.if_icmp .ge 40, 3) := by decide +kernel
theorem dX11_sheet_56 : decode cX11_sheet 56 = .ok (.aload_n 0, 1) := by decide +kernel
theorem dX11_sheet_57 : decode cX11_sheet 57 = .ok (.getfield 49, 3) := by decide +kernel
theorem dX11_sheet_60 : decode cX11_sheet 60 = .ok (.iload 6, 2) := by decide +kernel
theorem dX11_sheet_62 : decode cX11_sheet 62 = .ok (.iload 6, 2) := by decide +kernel
theorem dX11_sheet_64 : decode cX11_sheet 64 = .ok (.iload 5, 2) := by decide +kernel
theorem dX11_sheet_66 : decode cX11_sheet 66 = .ok (.if_icmp .ge 17, 3) := by decide +kernel
theorem dX11_sheet_69 : decode cX11_sheet 69 = .ok (.iload_n 1, 1) := by decide +kernel
theorem dX11_sheet_70 : decode cX11_sheet 70 = .ok (.iload_n 3, 1) := by decide +kernel
theorem dX11_sheet_71 : decode cX11_sheet 71 = .ok (.iload 6, 2) := by decide +kernel
theorem dX11_sheet_73 : decode cX11_sheet 73 = .ok (.iload 4, 2) := by decide +kernel
theorem dX11_sheet_75 : decode cX11_sheet 75 = .ok (.imul, 1) := by decide +kernel
theorem dX11_sheet_76 : decode cX11_sheet 76 = .ok (.iadd, 1) := by decide +kernel
theorem dX11_sheet_77 : decode cX11_sheet 77 = .ok (.invokestatic 187, 3) := by decide +kernel
theorem dX11_sheet_80 : decode cX11_sheet 80 = .ok (.goto 4, 3) := by decide +kernel
theorem dX11_sheet_83 : decode cX11_sheet 83 = .ok (.iconst 0, 1) := by decide +kernel
theorem dX11_sheet_84 : decode cX11_sheet 84 = .ok (.invokevirtual 191, 3) := by decide +kernel
theorem dX11_sheet_87 : decode cX11_sheet 87 = .ok (.iinc 6 1, 3) := by decide +kernel
theorem dX11_sheet_90 : decode cX11_sheet 90 = .ok (.goto (-46), 3) := by decide +kernel
theorem dX11_sheet_93 : decode cX11_sheet 93 = .ok (.iload_n 1, 1) := by decide +kernel
theorem dX11_sheet_94 : decode cX11_sheet 94 = .ok (.iconst 3, 1) := by decide +kernel
theorem dX11_sheet_95 : decode cX11_sheet 95 = .ok (.if_icmp .ne 8, 3) := by decide +kernel
theorem dX11_sheet_98 : decode cX11_sheet 98 = .ok (.bipush (-3), 2) := by decide +kernel
theorem dX11_sheet_100 : decode cX11_sheet 100 = .ok (.goto 10, 3) := by decide +kernel
theorem dX11_sheet_103 : decode cX11_sheet 103 = .ok (.aload_n 0, 1) := by decide +kernel
theorem dX11_sheet_104 : decode cX11_sheet 104 = .ok (.getfield 49, 3) := by decide +kernel
theorem dX11_sheet_107 : decode cX11_sheet 107 = .ok (.invokevirtual 195, 3) := by decide +kernel
theorem dX11_sheet_110 : decode cX11_sheet 110 = .ok (.ireturn, 1) := by decide +kernel
theorem dX11_entry_0 : decode cX11_entry 0 = .ok (.iload_n 0, 1) := by decide +kernel
theorem dX11_entry_1 : decode cX11_entry 1 = .ok (.ifCond .ne 6, 3) := by decide +kernel
theorem dX11_entry_4 : decode cX11_entry 4 = .ok (.iload_n 1, 1) := by decide +kernel
theorem dX11_entry_5 : decode cX11_entry 5 = .ok (.i2b, 1) := by decide +kernel
theorem dX11_entry_6 : decode cX11_entry 6 = .ok (.ireturn, 1) := by decide +kernel
theorem dX11_entry_7 : decode cX11_entry 7 = .ok (.iload_n 0, 1) := by decide +kernel
theorem dX11_entry_8 : decode cX11_entry 8 = .ok (.iconst 1, 1) := by decide +kernel
theorem dX11_entry_9 : decode cX11_entry 9 = .ok (.if_icmp .ne 8, 3) := by decide +kernel
theorem dX11_entry_12 : decode cX11_entry 12 = .ok (.iload_n 1, 1) := by decide +kernel
theorem dX11_entry_13 : decode cX11_entry 13 = .ok (.i2s, 1) := by decide +kernel
theorem dX11_entry_14 : decode cX11_entry 14 = .ok (.goto 4, 3) := by decide +kernel
theorem dX11_entry_17 : decode cX11_entry 17 = .ok (.iload_n 1, 1) := by decide +kernel
theorem dX11_entry_18 : decode cX11_entry 18 = .ok (.ireturn, 1) := by decide +kernel
theorem dX11_price_0 : decode cX11_price 0 = .ok (.aload_n 0, 1) := by decide +kernel
theorem dX11_price_1 : decode cX11_price 1 = .ok (.getfield 56, 3) := by decide +kernel
theorem dX11_price_4 : decode cX11_price 4 = .ok (.aload_n 0, 1) := by decide +kernel
theorem dX11_price_5 : decode cX11_price 5 = .ok (.getfield 49, 3) := by decide +kernel
theorem dX11_price_8 : decode cX11_price 8 = .ok (.invokevirtual 198, 3) := by decide +kernel
theorem dX11_price_11 : decode cX11_price 11 = .ok (.aload_n 0, 1) := by decide +kernel
theorem dX11_price_12 : decode cX11_price 12 = .ok (.aload_n 0, 1) := by decide +kernel
theorem dX11_price_13 : decode cX11_price 13 = .ok (.iload_n 1, 1) := by decide +kernel
theorem dX11_price_14 : decode cX11_price 14 = .ok (.iload_n 2, 1) := by decide +kernel
theorem dX11_price_15 : decode cX11_price 15 = .ok (.invokevirtual 202, 3) := by decide +kernel
theorem dX11_price_18 : decode cX11_price 18 = .ok (.invokevirtual 205, 3) := by decide +kernel
theorem dX11_price_21 : decode cX11_price 21 = .ok (.ireturn, 1) := by decide +kernel
theorem dX11_guard_0 : decode cX11_guard 0 = .ok (.aload_n 0, 1) := by decide +kernel
theorem dX11_guard_1 : decode cX11_guard 1 = .ok (.getfield 56, 3) := by decide +kernel
theorem dX11_guard_4 : decode cX11_guard 4 = .ok (.aload_n 0, 1) := by decide +kernel
theorem dX11_guard_5 : decode cX11_guard 5 = .ok (.getfield 49, 3) := by decide +kernel
theorem dX11_guard_8 : decode cX11_guard 8 = .ok (.invokevirtual 198, 3) := by decide +kernel
theorem dX11_guard_11 : decode cX11_guard 11 = .ok (.aload_n 0, 1) := by decide +kernel
theorem dX11_guard_12 : decode cX11_guard 12 = .ok (.aload_n 0, 1) := by decide +kernel
theorem dX11_guard_13 : decode cX11_guard 13 = .ok (.iload_n 1, 1) := by decide +kernel
theorem dX11_guard_14 : decode cX11_guard 14 = .ok (.iload_n 2, 1) := by decide +kernel
theorem dX11_guard_15 : decode cX11_guard 15 = .ok (.invokevirtual 208, 3) := by decide +kernel
theorem dX11_guard_18 : decode cX11_guard 18 = .ok (.invokevirtual 205, 3) := by decide +kernel
theorem dX11_guard_21 : decode cX11_guard 21 = .ok (.ireturn, 1) := by decide +kernel
theorem dX11_plant_0 : decode cX11_plant 0 = .ok (.aload_n 0, 1) := by decide +kernel
theorem dX11_plant_1 : decode cX11_plant 1 = .ok (.getfield 56, 3) := by decide +kernel
theorem dX11_plant_4 : decode cX11_plant 4 = .ok (.aload_n 0, 1) := by decide +kernel
theorem dX11_plant_5 : decode cX11_plant 5 = .ok (.getfield 49, 3) := by decide +kernel
theorem dX11_plant_8 : decode cX11_plant 8 = .ok (.invokevirtual 198, 3) := by decide +kernel
theorem dX11_plant_11 : decode cX11_plant 11 = .ok (.aload_n 0, 1) := by decide +kernel
theorem dX11_plant_12 : decode cX11_plant 12 = .ok (.aload_n 0, 1) := by decide +kernel
theorem dX11_plant_13 : decode cX11_plant 13 = .ok (.iload_n 1, 1) := by decide +kernel
theorem dX11_plant_14 : decode cX11_plant 14 = .ok (.iload_n 2, 1) := by decide +kernel
theorem dX11_plant_15 : decode cX11_plant 15 = .ok (.invokevirtual 211, 3) := by decide +kernel
theorem dX11_plant_18 : decode cX11_plant 18 = .ok (.invokevirtual 205, 3) := by decide +kernel
theorem dX11_plant_21 : decode cX11_plant 21 = .ok (.ireturn, 1) := by decide +kernel
theorem dX11_gate_0 : decode cX11_gate 0 = .ok (.aload_n 0, 1) := by decide +kernel
theorem dX11_gate_1 : decode cX11_gate 1 = .ok (.getfield 56, 3) := by decide +kernel
theorem dX11_gate_4 : decode cX11_gate 4 = .ok (.aload_n 0, 1) := by decide +kernel
theorem dX11_gate_5 : decode cX11_gate 5 = .ok (.getfield 49, 3) := by decide +kernel
theorem dX11_gate_8 : decode cX11_gate 8 = .ok (.invokevirtual 198, 3) := by decide +kernel
theorem dX11_gate_11 : decode cX11_gate 11 = .ok (.aload_n 0, 1) := by decide +kernel
theorem dX11_gate_12 : decode cX11_gate 12 = .ok (.aload_n 0, 1) := by decide +kernel
theorem dX11_gate_13 : decode cX11_gate 13 = .ok (.iload_n 1, 1) := by decide +kernel
theorem dX11_gate_14 : decode cX11_gate 14 = .ok (.invokevirtual 214, 3) := by decide +kernel
theorem dX11_gate_17 : decode cX11_gate 17 = .ok (.invokevirtual 205, 3) := by decide +kernel
theorem dX11_gate_20 : decode cX11_gate 20 = .ok (.ireturn, 1) := by decide +kernel
theorem dX11_weeks_0 : decode cX11_weeks 0 = .ok (.iload_n 1, 1) := by decide +kernel
theorem dX11_weeks_1 : decode cX11_weeks 1 = .ok (.ifCond .lt 9, 3) := by decide +kernel
theorem dX11_weeks_4 : decode cX11_weeks 4 = .ok (.iload_n 1, 1) := by decide +kernel
theorem dX11_weeks_5 : decode cX11_weeks 5 = .ok (.bipush 60, 2) := by decide +kernel
theorem dX11_weeks_7 : decode cX11_weeks 7 = .ok (.if_icmp .le 5, 3) := by decide +kernel
theorem dX11_weeks_10 : decode cX11_weeks 10 = .ok (.iconst (-1), 1) := by decide +kernel
theorem dX11_weeks_11 : decode cX11_weeks 11 = .ok (.ireturn, 1) := by decide +kernel
theorem dX11_weeks_12 : decode cX11_weeks 12 = .ok (.aload_n 0, 1) := by decide +kernel
theorem dX11_weeks_13 : decode cX11_weeks 13 = .ok (.getfield 56, 3) := by decide +kernel
theorem dX11_weeks_16 : decode cX11_weeks 16 = .ok (.aload_n 0, 1) := by decide +kernel
theorem dX11_weeks_17 : decode cX11_weeks 17 = .ok (.getfield 49, 3) := by decide +kernel
theorem dX11_weeks_20 : decode cX11_weeks 20 = .ok (.invokevirtual 198, 3) := by decide +kernel
theorem dX11_weeks_23 : decode cX11_weeks 23 = .ok (.aload_n 0, 1) := by decide +kernel
theorem dX11_weeks_24 : decode cX11_weeks 24 = .ok (.aload_n 0, 1) := by decide +kernel
theorem dX11_weeks_25 : decode cX11_weeks 25 = .ok (.getfield 42, 3) := by decide +kernel
theorem dX11_weeks_28 : decode cX11_weeks 28 = .ok (.aload_n 0, 1) := by decide +kernel
theorem dX11_weeks_29 : decode cX11_weeks 29 = .ok (.getfield 97, 3) := by decide +kernel
theorem dX11_weeks_32 : decode cX11_weeks 32 = .ok (.aload_n 0, 1) := by decide +kernel
theorem dX11_weeks_33 : decode cX11_weeks 33 = .ok (.getfield 49, 3) := by decide +kernel
theorem dX11_weeks_36 : decode cX11_weeks 36 = .ok (.iload_n 1, 1) := by decide +kernel
theorem dX11_weeks_37 : decode cX11_weeks 37 = .ok (.invokevirtual 217, 3) := by decide +kernel
theorem dX11_weeks_40 : decode cX11_weeks 40 = .ok (.invokevirtual 205, 3) := by decide +kernel
theorem dX11_weeks_43 : decode cX11_weeks 43 = .ok (.istore_n 2, 1) := by decide +kernel
theorem dX11_weeks_44 : decode cX11_weeks 44 = .ok (.aload_n 0, 1) := by decide +kernel
theorem dX11_weeks_45 : decode cX11_weeks 45 = .ok (.getfield 83, 3) := by decide +kernel
theorem dX11_weeks_48 : decode cX11_weeks 48 = .ok (.aload_n 0, 1) := by decide +kernel
theorem dX11_weeks_49 : decode cX11_weeks 49 = .ok (.getfield 42, 3) := by decide +kernel
theorem dX11_weeks_52 : decode cX11_weeks 52 = .ok (.invokevirtual 220, 3) := by decide +kernel
theorem dX11_weeks_55 : decode cX11_weeks 55 = .ok (.i2l, 1) := by decide +kernel
theorem dX11_weeks_56 : decode cX11_weeks 56 = .ok (.aload_n 0, 1) := by decide +kernel
theorem dX11_weeks_57 : decode cX11_weeks 57 = .ok (.getfield 49, 3) := by decide +kernel
theorem dX11_weeks_60 : decode cX11_weeks 60 = .ok (.invokevirtual 195, 3) := by decide +kernel
theorem dX11_weeks_63 : decode cX11_weeks 63 = .ok (.i2l, 1) := by decide +kernel
theorem dX11_weeks_64 : decode cX11_weeks 64 = .ok (.invokevirtual 223, 3) := by decide +kernel
theorem dX11_weeks_67 : decode cX11_weeks 67 = .ok (.iload_n 2, 1) := by decide +kernel
theorem dX11_weeks_68 : decode cX11_weeks 68 = .ok (.ireturn, 1) := by decide +kernel
theorem dX11_log_0 : decode cX11_log 0 = .ok (.aload_n 0, 1) := by decide +kernel
theorem dX11_log_1 : decode cX11_log 1 = .ok (.invokevirtual 227, 3) := by decide +kernel
theorem dX11_log_4 : decode cX11_log 4 = .ok (.istore_n 1, 1) := by decide +kernel
theorem dX11_log_5 : decode cX11_log 5 = .ok (.iload_n 1, 1) := by decide +kernel
theorem dX11_log_6 : decode cX11_log 6 = .ok (.iconst (-1), 1) := by decide +kernel
theorem dX11_log_7 : decode cX11_log 7 = .ok (.if_icmp .eq 14, 3) := by decide +kernel
theorem dX11_log_10 : decode cX11_log 10 = .ok (.aload_n 0, 1) := by decide +kernel
theorem dX11_log_11 : decode cX11_log 11 = .ok (.getfield 10, 3) := by decide +kernel
theorem dX11_log_14 : decode cX11_log 14 = .ok (.invokevirtual 126, 3) := by decide +kernel
theorem dX11_log_17 : decode cX11_log 17 = .ok (.iconst (-1), 1) := by decide +kernel
theorem dX11_log_18 : decode cX11_log 18 = .ok (.iload_n 1, 1) := by decide +kernel
theorem dX11_log_19 : decode cX11_log 19 = .ok (.isub, 1) := by decide +kernel
theorem dX11_log_20 : decode cX11_log 20 = .ok (.ireturn, 1) := by decide +kernel
theorem dX11_log_21 : decode cX11_log 21 = .ok (.aload_n 0, 1) := by decide +kernel
theorem dX11_log_22 : decode cX11_log 22 = .ok (.getfield 56, 3) := by decide +kernel
theorem dX11_log_25 : decode cX11_log 25 = .ok (.aload_n 0, 1) := by decide +kernel
theorem dX11_log_26 : decode cX11_log 26 = .ok (.getfield 49, 3) := by decide +kernel
theorem dX11_log_29 : decode cX11_log 29 = .ok (.invokevirtual 198, 3) := by decide +kernel
theorem dX11_log_32 : decode cX11_log 32 = .ok (.iconst 0, 1) := by decide +kernel
theorem dX11_log_33 : decode cX11_log 33 = .ok (.istore_n 2, 1) := by decide +kernel
theorem dX11_log_34 : decode cX11_log 34 = .ok (.iconst 0, 1) := by decide +kernel
theorem dX11_log_35 : decode cX11_log 35 = .ok (.istore_n 3, 1) := by decide +kernel
theorem dX11_log_36 : decode cX11_log 36 = .ok (.iconst 0, 1) := by decide +kernel
theorem dX11_log_37 : decode cX11_log 37 = .ok (.istore 4, 2) := by decide +kernel
theorem dX11_log_39 : decode cX11_log 39 = .ok (.iconst 0, 1) := by decide +kernel
theorem dX11_log_40 : decode cX11_log 40 = .ok (.istore 5, 2) := by decide +kernel
theorem dX11_log_42 : decode cX11_log 42 = .ok (.iload 5, 2) := by decide +kernel
theorem dX11_log_44 : decode cX11_log 44 = .ok (.bipush 60, 2) := by decide +kernel
theorem dX11_log_46 : decode cX11_log 46 = .ok (.if_icmp .ge 59, 3) := by decide +kernel
theorem dX11_log_49 : decode cX11_log 49 = .ok (.iload 4, 2) := by decide +kernel
theorem dX11_log_51 : decode cX11_log 51 = .ok (.aload_n 0, 1) := by decide +kernel
theorem dX11_log_52 : decode cX11_log 52 = .ok (.getfield 10, 3) := by decide +kernel
theorem dX11_log_55 : decode cX11_log 55 = .ok (.invokevirtual 108, 3) := by decide +kernel
theorem dX11_log_58 : decode cX11_log 58 = .ok (.if_icmp .ge 47, 3) := by decide +kernel
theorem dX11_log_61 : decode cX11_log 61 = .ok (.iload_n 3, 1) := by decide +kernel
theorem dX11_log_62 : decode cX11_log 62 = .ok (.ifCond .ne 43, 3) := by decide +kernel
theorem dX11_log_65 : decode cX11_log 65 = .ok (.aload_n 0, 1) := by decide +kernel
theorem dX11_log_66 : decode cX11_log 66 = .ok (.iload 4, 2) := by decide +kernel
theorem dX11_log_68 : decode cX11_log 68 = .ok (.invokevirtual 230, 3) := by decide +kernel
theorem dX11_log_71 : decode cX11_log 71 = .ok (.ifCond .ge 8, 3) := by decide +kernel
theorem dX11_log_74 : decode cX11_log 74 = .ok (.iconst 1, 1) := by decide +kernel
theorem dX11_log_75 : decode cX11_log 75 = .ok (.istore_n 3, 1) := by decide +kernel
theorem dX11_log_76 : decode cX11_log 76 = .ok (.goto 6, 3) := by decide +kernel
theorem dX11_log_79 : decode cX11_log 79 = .ok (.iinc 2 1, 3) := by decide +kernel
theorem dX11_log_82 : decode cX11_log 82 = .ok (.iload 4, 2) := by decide +kernel
theorem dX11_log_84 : decode cX11_log 84 = .ok (.aload_n 0, 1) := by decide +kernel
theorem dX11_log_85 : decode cX11_log 85 = .ok (.getfield 10, 3) := by decide +kernel
theorem dX11_log_88 : decode cX11_log 88 = .ok (.iload 4, 2) := by decide +kernel
theorem dX11_log_90 : decode cX11_log 90 = .ok (.invokevirtual 130, 3) := by decide +kernel
theorem dX11_log_93 : decode cX11_log 93 = .ok (.invokestatic 233, 3) := by decide +kernel
theorem dX11_log_96 : decode cX11_log 96 = .ok (.iadd, 1) := by decide +kernel
theorem dX11_log_97 : decode cX11_log 97 = .ok (.istore 4, 2) := by decide +kernel
theorem dX11_log_99 : decode cX11_log 99 = .ok (.iinc 5 1, 3) := by decide +kernel
theorem dX11_log_102 : decode cX11_log 102 = .ok (.goto (-60), 3) := by decide +kernel
theorem dX11_log_105 : decode cX11_log 105 = .ok (.iload_n 2, 1) := by decide +kernel
theorem dX11_log_106 : decode cX11_log 106 = .ok (.ifCond .le 14, 3) := by decide +kernel
theorem dX11_log_109 : decode cX11_log 109 = .ok (.aload_n 0, 1) := by decide +kernel
theorem dX11_log_110 : decode cX11_log 110 = .ok (.getfield 62, 3) := by decide +kernel
theorem dX11_log_113 : decode cX11_log 113 = .ok (.aload_n 0, 1) := by decide +kernel
theorem dX11_log_114 : decode cX11_log 114 = .ok (.getfield 56, 3) := by decide +kernel
theorem dX11_log_117 : decode cX11_log 117 = .ok (.invokevirtual 236, 3) := by decide +kernel
theorem dX11_log_120 : decode cX11_log 120 = .ok (.aload_n 0, 1) := by decide +kernel
theorem dX11_log_121 : decode cX11_log 121 = .ok (.getfield 10, 3) := by decide +kernel
theorem dX11_log_124 : decode cX11_log 124 = .ok (.invokevirtual 126, 3) := by decide +kernel
theorem dX11_log_127 : decode cX11_log 127 = .ok (.aload_n 0, 1) := by decide +kernel
theorem dX11_log_128 : decode cX11_log 128 = .ok (.getfield 83, 3) := by decide +kernel
theorem dX11_log_131 : decode cX11_log 131 = .ok (.iload_n 3, 1) := by decide +kernel
theorem dX11_log_132 : decode cX11_log 132 = .ok (.i2l, 1) := by decide +kernel
theorem dX11_log_133 : decode cX11_log 133 = .ok (.aload_n 0, 1) := by decide +kernel
theorem dX11_log_134 : decode cX11_log 134 = .ok (.getfield 49, 3) := by decide +kernel
theorem dX11_log_137 : decode cX11_log 137 = .ok (.invokevirtual 239, 3) := by decide +kernel
theorem dX11_log_140 : decode cX11_log 140 = .ok (.i2l, 1) := by decide +kernel
theorem dX11_log_141 : decode cX11_log 141 = .ok (.invokevirtual 223, 3) := by decide +kernel
theorem dX11_log_144 : decode cX11_log 144 = .ok (.iload_n 2, 1) := by decide +kernel
theorem dX11_log_145 : decode cX11_log 145 = .ok (.ireturn, 1) := by decide +kernel
theorem dX11_undo_0 : decode cX11_undo 0 = .ok (.aload_n 0, 1) := by decide +kernel
theorem dX11_undo_1 : decode cX11_undo 1 = .ok (.getfield 62, 3) := by decide +kernel
theorem dX11_undo_4 : decode cX11_undo 4 = .ok (.aload_n 0, 1) := by decide +kernel
theorem dX11_undo_5 : decode cX11_undo 5 = .ok (.getfield 49, 3) := by decide +kernel
theorem dX11_undo_8 : decode cX11_undo 8 = .ok (.invokevirtual 242, 3) := by decide +kernel
theorem dX11_undo_11 : decode cX11_undo 11 = .ok (.ifCond .eq 13, 3) := by decide +kernel
theorem dX11_undo_14 : decode cX11_undo 14 = .ok (.aload_n 0, 1) := by decide +kernel
theorem dX11_undo_15 : decode cX11_undo 15 = .ok (.getfield 62, 3) := by decide +kernel
theorem dX11_undo_18 : decode cX11_undo 18 = .ok (.invokevirtual 246, 3) := by decide +kernel
theorem dX11_undo_21 : decode cX11_undo 21 = .ok (.goto 4, 3) := by decide +kernel
theorem dX11_undo_24 : decode cX11_undo 24 = .ok (.iconst (-1), 1) := by decide +kernel
theorem dX11_undo_25 : decode cX11_undo 25 = .ok (.ireturn, 1) := by decide +kernel
theorem dX11_remembered_0 : decode cX11_remembered 0 = .ok (.iload_n 1, 1) := by decide +kernel
theorem dX11_remembered_1 : decode cX11_remembered 1 = .ok (.ifCond .lt 14, 3) := by decide +kernel
theorem dX11_remembered_4 : decode cX11_remembered 4 = .ok (.aload_n 0, 1) := by decide +kernel
theorem dX11_remembered_5 : decode cX11_remembered 5 = .ok (.getfield 62, 3) := by decide +kernel
theorem dX11_remembered_8 : decode cX11_remembered 8 = .ok (.aload_n 0, 1) := by decide +kernel
theorem dX11_remembered_9 : decode cX11_remembered 9 = .ok (.getfield 56, 3) := by decide +kernel
theorem dX11_remembered_12 : decode cX11_remembered 12 = .ok (.invokevirtual 236, 3) := by decide +kernel
theorem dX11_remembered_15 : decode cX11_remembered 15 = .ok (.iload_n 1, 1) := by decide +kernel
theorem dX11_remembered_16 : decode cX11_remembered 16 = .ok (.ireturn, 1) := by decide +kernel
theorem dX11_setPrice_0 : decode cX11_setPrice 0 = .ok (.iload_n 1, 1) := by decide +kernel
theorem dX11_setPrice_1 : decode cX11_setPrice 1 = .ok (.ifCond .lt 18, 3) := by decide +kernel
theorem dX11_setPrice_4 : decode cX11_setPrice 4 = .ok (.iload_n 1, 1) := by decide +kernel
theorem dX11_setPrice_5 : decode cX11_setPrice 5 = .ok (.iconst 1, 1) := by decide +kernel
theorem dX11_setPrice_6 : decode cX11_setPrice 6 = .ok (.if_icmp .gt 13, 3) := by decide +kernel
theorem dX11_setPrice_9 : decode cX11_setPrice 9 = .ok (.iload_n 2, 1) := by decide +kernel
theorem dX11_setPrice_10 : decode cX11_setPrice 10 = .ok (.ifCond .lt 9, 3) := by decide +kernel
theorem dX11_setPrice_13 : decode cX11_setPrice 13 = .ok (.iload_n 2, 1) := by decide +kernel
theorem dX11_setPrice_14 : decode cX11_setPrice 14 = .ok (.bipush 99, 2) := by decide +kernel
theorem dX11_setPrice_16 : decode cX11_setPrice 16 = .ok (.if_icmp .le 5, 3) := by decide +kernel
theorem dX11_setPrice_19 : decode cX11_setPrice 19 = .ok (.iconst (-1), 1) := by decide +kernel
theorem dX11_setPrice_20 : decode cX11_setPrice 20 = .ok (.ireturn, 1) := by decide +kernel
theorem dX11_setPrice_21 : decode cX11_setPrice 21 = .ok (.iload_n 1, 1) := by decide +kernel
theorem dX11_setPrice_22 : decode cX11_setPrice 22 = .ok (.ifCond .ne 13, 3) := by decide +kernel
theorem dX11_setPrice_25 : decode cX11_setPrice 25 = .ok (.aload_n 0, 1) := by decide +kernel
theorem dX11_setPrice_26 : decode cX11_setPrice 26 = .ok (.getfield 49, 3) := by decide +kernel
theorem dX11_setPrice_29 : decode cX11_setPrice 29 = .ok (.invokevirtual 247, 3) := by decide +kernel
theorem dX11_setPrice_32 : decode cX11_setPrice 32 = .ok (.goto 10, 3) := by decide +kernel
theorem dX11_setPrice_35 : decode cX11_setPrice 35 = .ok (.aload_n 0, 1) := by decide +kernel
theorem dX11_setPrice_36 : decode cX11_setPrice 36 = .ok (.getfield 49, 3) := by decide +kernel
theorem dX11_setPrice_39 : decode cX11_setPrice 39 = .ok (.invokevirtual 250, 3) := by decide +kernel
theorem dX11_setPrice_42 : decode cX11_setPrice 42 = .ok (.istore_n 3, 1) := by decide +kernel
theorem dX11_setPrice_43 : decode cX11_setPrice 43 = .ok (.iload_n 1, 1) := by decide +kernel
theorem dX11_setPrice_44 : decode cX11_setPrice 44 = .ok (.ifCond .ne 14, 3) := by decide +kernel
theorem dX11_setPrice_47 : decode cX11_setPrice 47 = .ok (.aload_n 0, 1) := by decide +kernel
theorem dX11_setPrice_48 : decode cX11_setPrice 48 = .ok (.getfield 49, 3) := by decide +kernel
theorem dX11_setPrice_51 : decode cX11_setPrice 51 = .ok (.iload_n 2, 1) := by decide +kernel
theorem dX11_setPrice_52 : decode cX11_setPrice 52 = .ok (.invokevirtual 253, 3) := by decide +kernel
theorem dX11_setPrice_55 : decode cX11_setPrice 55 = .ok (.goto 11, 3) := by decide +kernel
theorem dX11_setPrice_58 : decode cX11_setPrice 58 = .ok (.aload_n 0, 1) := by decide +kernel
theorem dX11_setPrice_59 : decode cX11_setPrice 59 = .ok (.getfield 49, 3) := by decide +kernel
theorem dX11_setPrice_62 : decode cX11_setPrice 62 = .ok (.iload_n 2, 1) := by decide +kernel
theorem dX11_setPrice_63 : decode cX11_setPrice 63 = .ok (.invokevirtual 257, 3) := by decide +kernel
theorem dX11_setPrice_66 : decode cX11_setPrice 66 = .ok (.iload_n 3, 1) := by decide +kernel
theorem dX11_setPrice_67 : decode cX11_setPrice 67 = .ok (.ireturn, 1) := by decide +kernel
theorem dX11_setGuard_0 : decode cX11_setGuard 0 = .ok (.aload_n 0, 1) := by decide +kernel
theorem dX11_setGuard_1 : decode cX11_setGuard 1 = .ok (.getfield 49, 3) := by decide +kernel
theorem dX11_setGuard_4 : decode cX11_setGuard 4 = .ok (.iload_n 1, 1) := by decide +kernel
theorem dX11_setGuard_5 : decode cX11_setGuard 5 = .ok (.invokevirtual 144, 3) := by decide +kernel
theorem dX11_setGuard_8 : decode cX11_setGuard 8 = .ok (.ifCond .eq 13, 3) := by decide +kernel
theorem dX11_setGuard_11 : decode cX11_setGuard 11 = .ok (.iload_n 2, 1) := by decide +kernel
theorem dX11_setGuard_12 : decode cX11_setGuard 12 = .ok (.ifCond .lt 9, 3) := by decide +kernel
theorem dX11_setGuard_15 : decode cX11_setGuard 15 = .ok (.iload_n 2, 1) := by decide +kernel
theorem dX11_setGuard_16 : decode cX11_setGuard 16 = .ok (.bipush 9, 2) := by decide +kernel
theorem dX11_setGuard_18 : decode cX11_setGuard 18 = .ok (.if_icmp .le 5, 3) := by decide +kernel
theorem dX11_setGuard_21 : decode cX11_setGuard 21 = .ok (.iconst (-1), 1) := by decide +kernel
theorem dX11_setGuard_22 : decode cX11_setGuard 22 = .ok (.ireturn, 1) := by decide +kernel
theorem dX11_setGuard_23 : decode cX11_setGuard 23 = .ok (.aload_n 0, 1) := by decide +kernel
theorem dX11_setGuard_24 : decode cX11_setGuard 24 = .ok (.getfield 49, 3) := by decide +kernel
theorem dX11_setGuard_27 : decode cX11_setGuard 27 = .ok (.iload_n 1, 1) := by decide +kernel
theorem dX11_setGuard_28 : decode cX11_setGuard 28 = .ok (.iload_n 2, 1) := by decide +kernel
theorem dX11_setGuard_29 : decode cX11_setGuard 29 = .ok (.invokevirtual 260, 3) := by decide +kernel
theorem dX11_setGuard_32 : decode cX11_setGuard 32 = .ok (.aload_n 0, 1) := by decide +kernel
theorem dX11_setGuard_33 : decode cX11_setGuard 33 = .ok (.getfield 49, 3) := by decide +kernel
theorem dX11_setGuard_36 : decode cX11_setGuard 36 = .ok (.invokevirtual 263, 3) := by decide +kernel
theorem dX11_setGuard_39 : decode cX11_setGuard 39 = .ok (.ireturn, 1) := by decide +kernel
theorem dX11_addThorns_0 : decode cX11_addThorns 0 = .ok (.aload_n 0, 1) := by decide +kernel
theorem dX11_addThorns_1 : decode cX11_addThorns 1 = .ok (.getfield 49, 3) := by decide +kernel
theorem dX11_addThorns_4 : decode cX11_addThorns 4 = .ok (.iload_n 1, 1) := by decide +kernel
theorem dX11_addThorns_5 : decode cX11_addThorns 5 = .ok (.invokevirtual 144, 3) := by decide +kernel
theorem dX11_addThorns_8 : decode cX11_addThorns 8 = .ok (.ifCond .eq 14, 3) := by decide +kernel
theorem dX11_addThorns_11 : decode cX11_addThorns 11 = .ok (.iload_n 2, 1) := by decide +kernel
theorem dX11_addThorns_12 : decode cX11_addThorns 12 = .ok (.iconst 1, 1) := by decide +kernel
theorem dX11_addThorns_13 : decode cX11_addThorns 13 = .ok (.if_icmp .lt 9, 3) := by decide +kernel
theorem dX11_addThorns_16 : decode cX11_addThorns 16 = .ok (.iload_n 2, 1) := by decide +kernel
theorem dX11_addThorns_17 : decode cX11_addThorns 17 = .ok (.bipush 9, 2) := by decide +kernel
theorem dX11_addThorns_19 : decode cX11_addThorns 19 = .ok (.if_icmp .le 5, 3) := by decide +kernel
theorem dX11_addThorns_22 : decode cX11_addThorns 22 = .ok (.iconst (-1), 1) := by decide +kernel
theorem dX11_addThorns_23 : decode cX11_addThorns 23 = .ok (.ireturn, 1) := by decide +kernel
theorem dX11_addThorns_24 : decode cX11_addThorns 24 = .ok (.aload_n 0, 1) := by decide +kernel
theorem dX11_addThorns_25 : decode cX11_addThorns 25 = .ok (.getfield 49, 3) := by decide +kernel
theorem dX11_addThorns_28 : decode cX11_addThorns 28 = .ok (.iload_n 1, 1) := by decide +kernel
theorem dX11_addThorns_29 : decode cX11_addThorns 29 = .ok (.invokevirtual 153, 3) := by decide +kernel
theorem dX11_addThorns_32 : decode cX11_addThorns 32 = .ok (.ifCond .eq 6, 3) := by decide +kernel
theorem dX11_addThorns_35 : decode cX11_addThorns 35 = .ok (.bipush (-2), 2) := by decide +kernel
theorem dX11_addThorns_37 : decode cX11_addThorns 37 = .ok (.ireturn, 1) := by decide +kernel
theorem dX11_addThorns_38 : decode cX11_addThorns 38 = .ok (.aload_n 0, 1) := by decide +kernel
theorem dX11_addThorns_39 : decode cX11_addThorns 39 = .ok (.getfield 49, 3) := by decide +kernel
theorem dX11_addThorns_42 : decode cX11_addThorns 42 = .ok (.iload_n 1, 1) := by decide +kernel
theorem dX11_addThorns_43 : decode cX11_addThorns 43 = .ok (.aload_n 0, 1) := by decide +kernel
theorem dX11_addThorns_44 : decode cX11_addThorns 44 = .ok (.getfield 49, 3) := by decide +kernel
theorem dX11_addThorns_47 : decode cX11_addThorns 47 = .ok (.iload_n 1, 1) := by decide +kernel
theorem dX11_addThorns_48 : decode cX11_addThorns 48 = .ok (.invokevirtual 150, 3) := by decide +kernel
theorem dX11_addThorns_51 : decode cX11_addThorns 51 = .ok (.iload_n 2, 1) := by decide +kernel
theorem dX11_addThorns_52 : decode cX11_addThorns 52 = .ok (.iadd, 1) := by decide +kernel
theorem dX11_addThorns_53 : decode cX11_addThorns 53 = .ok (.invokevirtual 191, 3) := by decide +kernel
theorem dX11_addThorns_56 : decode cX11_addThorns 56 = .ok (.aload_n 0, 1) := by decide +kernel
theorem dX11_addThorns_57 : decode cX11_addThorns 57 = .ok (.getfield 49, 3) := by decide +kernel
theorem dX11_addThorns_60 : decode cX11_addThorns 60 = .ok (.iload_n 1, 1) := by decide +kernel
theorem dX11_addThorns_61 : decode cX11_addThorns 61 = .ok (.invokevirtual 150, 3) := by decide +kernel
theorem dX11_addThorns_64 : decode cX11_addThorns 64 = .ok (.ireturn, 1) := by decide +kernel
theorem dX11_turnGate_0 : decode cX11_turnGate 0 = .ok (.aload_n 0, 1) := by decide +kernel
theorem dX11_turnGate_1 : decode cX11_turnGate 1 = .ok (.getfield 49, 3) := by decide +kernel
theorem dX11_turnGate_4 : decode cX11_turnGate 4 = .ok (.iload_n 1, 1) := by decide +kernel
theorem dX11_turnGate_5 : decode cX11_turnGate 5 = .ok (.invokevirtual 144, 3) := by decide +kernel
theorem dX11_turnGate_8 : decode cX11_turnGate 8 = .ok (.ifCond .ne 5, 3) := by decide +kernel
theorem dX11_turnGate_11 : decode cX11_turnGate 11 = .ok (.iconst (-1), 1) := by decide +kernel
theorem dX11_turnGate_12 : decode cX11_turnGate 12 = .ok (.ireturn, 1) := by decide +kernel
theorem dX11_turnGate_13 : decode cX11_turnGate 13 = .ok (.aload_n 0, 1) := by decide +kernel
theorem dX11_turnGate_14 : decode cX11_turnGate 14 = .ok (.getfield 49, 3) := by decide +kernel
theorem dX11_turnGate_17 : decode cX11_turnGate 17 = .ok (.iload_n 1, 1) := by decide +kernel
theorem dX11_turnGate_18 : decode cX11_turnGate 18 = .ok (.invokevirtual 266, 3) := by decide +kernel
theorem dX11_turnGate_21 : decode cX11_turnGate 21 = .ok (.aload_n 0, 1) := by decide +kernel
theorem dX11_turnGate_22 : decode cX11_turnGate 22 = .ok (.getfield 49, 3) := by decide +kernel
theorem dX11_turnGate_25 : decode cX11_turnGate 25 = .ok (.invokevirtual 268, 3) := by decide +kernel
theorem dX11_turnGate_28 : decode cX11_turnGate 28 = .ok (.invokestatic 271, 3) := by decide +kernel
theorem dX11_turnGate_31 : decode cX11_turnGate 31 = .ok (.ireturn, 1) := by decide +kernel
theorem dX11_logFault_0 : decode cX11_logFault 0 = .ok (.aload_n 0, 1) := by decide +kernel
theorem dX11_logFault_1 : decode cX11_logFault 1 = .ok (.getfield 10, 3) := by decide +kernel
theorem dX11_logFault_4 : decode cX11_logFault 4 = .ok (.invokevirtual 108, 3) := by decide +kernel
theorem dX11_logFault_7 : decode cX11_logFault 7 = .ok (.bipush 60, 2) := by decide +kernel
theorem dX11_logFault_9 : decode cX11_logFault 9 = .ok (.invokestatic 276, 3) := by decide +kernel
theorem dX11_logFault_12 : decode cX11_logFault 12 = .ok (.istore_n 1, 1) := by decide +kernel
theorem dX11_logFault_13 : decode cX11_logFault 13 = .ok (.iconst 0, 1) := by decide +kernel
theorem dX11_logFault_14 : decode cX11_logFault 14 = .ok (.istore_n 2, 1) := by decide +kernel
theorem dX11_logFault_15 : decode cX11_logFault 15 = .ok (.iconst 0, 1) := by decide +kernel
theorem dX11_logFault_16 : decode cX11_logFault 16 = .ok (.istore_n 3, 1) := by decide +kernel
theorem dX11_logFault_17 : decode cX11_logFault 17 = .ok (.iload_n 3, 1) := by decide +kernel
theorem dX11_logFault_18 : decode cX11_logFault 18 = .ok (.bipush 60, 2) := by decide +kernel
theorem dX11_logFault_20 : decode cX11_logFault 20 = .ok (.if_icmp .ge 95, 3) := by decide +kernel
theorem dX11_logFault_23 : decode cX11_logFault 23 = .ok (.iload_n 2, 1) := by decide +kernel
theorem dX11_logFault_24 : decode cX11_logFault 24 = .ok (.iload_n 1, 1) := by decide +kernel
theorem dX11_logFault_25 : decode cX11_logFault 25 = .ok (.if_icmp .ge 90, 3) := by decide +kernel
theorem dX11_logFault_28 : decode cX11_logFault 28 = .ok (.aload_n 0, 1) := by decide +kernel
theorem dX11_logFault_29 : decode cX11_logFault 29 = .ok (.getfield 10, 3) := by decide +kernel
theorem dX11_logFault_32 : decode cX11_logFault 32 = .ok (.iload_n 2, 1) := by decide +kernel
theorem dX11_logFault_33 : decode cX11_logFault 33 = .ok (.invokevirtual 130, 3) := by decide +kernel
theorem dX11_logFault_36 : decode cX11_logFault 36 = .ok (.istore 4, 2) := by decide +kernel
theorem dX11_logFault_38 : decode cX11_logFault 38 = .ok (.iload 4, 2) := by decide +kernel
theorem dX11_logFault_40 : decode cX11_logFault 40 = .ok (.invokestatic 233, 3) := by decide +kernel
theorem dX11_logFault_43 : decode cX11_logFault 43 = .ok (.istore 5, 2) := by decide +kernel
theorem dX11_logFault_45 : decode cX11_logFault 45 = .ok (.iload 5, 2) := by decide +kernel
theorem dX11_logFault_47 : decode cX11_logFault 47 = .ok (.ifCond .ne 5, 3) := by decide +kernel
theorem dX11_logFault_50 : decode cX11_logFault 50 = .ok (.iload_n 2, 1) := by decide +kernel
theorem dX11_logFault_51 : decode cX11_logFault 51 = .ok (.ireturn, 1) := by decide +kernel
theorem dX11_logFault_52 : decode cX11_logFault 52 = .ok (.iconst 1, 1) := by decide +kernel
theorem dX11_logFault_53 : decode cX11_logFault 53 = .ok (.istore 6, 2) := by decide +kernel
theorem dX11_logFault_55 : decode cX11_logFault 55 = .ok (.iload 6, 2) := by decide +kernel
theorem dX11_logFault_57 : decode cX11_logFault 57 = .ok (.iload 5, 2) := by decide +kernel
theorem dX11_logFault_59 : decode cX11_logFault 59 = .ok (.if_icmp .ge 45, 3) := by decide +kernel
theorem dX11_logFault_62 : decode cX11_logFault 62 = .ok (.iload_n 2, 1) := by decide +kernel
theorem dX11_logFault_63 : decode cX11_logFault 63 = .ok (.iload 6, 2) := by decide +kernel
theorem dX11_logFault_65 : decode cX11_logFault 65 = .ok (.iadd, 1) := by decide +kernel
theorem dX11_logFault_66 : decode cX11_logFault 66 = .ok (.iload_n 1, 1) := by decide +kernel
theorem dX11_logFault_67 : decode cX11_logFault 67 = .ok (.if_icmp .lt 5, 3) := by decide +kernel
theorem dX11_logFault_70 : decode cX11_logFault 70 = .ok (.iload_n 1, 1) := by decide +kernel
theorem dX11_logFault_71 : decode cX11_logFault 71 = .ok (.ireturn, 1) := by decide +kernel
theorem dX11_logFault_72 : decode cX11_logFault 72 = .ok (.iload 4, 2) := by decide +kernel
theorem dX11_logFault_74 : decode cX11_logFault 74 = .ok (.iload 6, 2) := by decide +kernel
theorem dX11_logFault_76 : decode cX11_logFault 76 = .ok (.aload_n 0, 1) := by decide +kernel
theorem dX11_logFault_77 : decode cX11_logFault 77 = .ok (.getfield 10, 3) := by decide +kernel
theorem dX11_logFault_80 : decode cX11_logFault 80 = .ok (.iload_n 2, 1) := by decide +kernel
theorem dX11_logFault_81 : decode cX11_logFault 81 = .ok (.iload 6, 2) := by decide +kernel
theorem dX11_logFault_83 : decode cX11_logFault 83 = .ok (.iadd, 1) := by decide +kernel
theorem dX11_logFault_84 : decode cX11_logFault 84 = .ok (.invokevirtual 130, 3) := by decide +kernel
theorem dX11_logFault_87 : decode cX11_logFault 87 = .ok (.invokestatic 281, 3) := by decide +kernel
theorem dX11_logFault_90 : decode cX11_logFault 90 = .ok (.ifCond .ne 8, 3) := by decide +kernel
theorem dX11_logFault_93 : decode cX11_logFault 93 = .ok (.iload_n 2, 1) := by decide +kernel
theorem dX11_logFault_94 : decode cX11_logFault 94 = .ok (.iload 6, 2) := by decide +kernel
theorem dX11_logFault_96 : decode cX11_logFault 96 = .ok (.iadd, 1) := by decide +kernel
theorem dX11_logFault_97 : decode cX11_logFault 97 = .ok (.ireturn, 1) := by decide +kernel
theorem dX11_logFault_98 : decode cX11_logFault 98 = .ok (.iinc 6 1, 3) := by decide +kernel
theorem dX11_logFault_101 : decode cX11_logFault 101 = .ok (.goto (-46), 3) := by decide +kernel
theorem dX11_logFault_104 : decode cX11_logFault 104 = .ok (.iload_n 2, 1) := by decide +kernel
theorem dX11_logFault_105 : decode cX11_logFault 105 = .ok (.iload 5, 2) := by decide +kernel
theorem dX11_logFault_107 : decode cX11_logFault 107 = .ok (.iadd, 1) := by decide +kernel
theorem dX11_logFault_108 : decode cX11_logFault 108 = .ok (.istore_n 2, 1) := by decide +kernel
theorem dX11_logFault_109 : decode cX11_logFault 109 = .ok (.iinc 3 1, 3) := by decide +kernel
theorem dX11_logFault_112 : decode cX11_logFault 112 = .ok (.goto (-95), 3) := by decide +kernel
theorem dX11_logFault_115 : decode cX11_logFault 115 = .ok (.aload_n 0, 1) := by decide +kernel
theorem dX11_logFault_116 : decode cX11_logFault 116 = .ok (.getfield 10, 3) := by decide +kernel
theorem dX11_logFault_119 : decode cX11_logFault 119 = .ok (.invokevirtual 108, 3) := by decide +kernel
theorem dX11_logFault_122 : decode cX11_logFault 122 = .ok (.bipush 60, 2) := by decide +kernel
theorem dX11_logFault_124 : decode cX11_logFault 124 = .ok (.if_icmp .le 8, 3) := by decide +kernel
theorem dX11_logFault_127 : decode cX11_logFault 127 = .ok (.bipush 60, 2) := by decide +kernel
theorem dX11_logFault_129 : decode cX11_logFault 129 = .ok (.goto 4, 3) := by decide +kernel
theorem dX11_logFault_132 : decode cX11_logFault 132 = .ok (.iconst (-1), 1) := by decide +kernel
theorem dX11_logFault_133 : decode cX11_logFault 133 = .ok (.ireturn, 1) := by decide +kernel
theorem dX11_actLength_0 : decode cX11_actLength 0 = .ok (.iload_n 0, 1) := by decide +kernel
theorem dX11_actLength_1 : decode cX11_actLength 1 = .ok (.lookupswitch 63 #[(99, 61), (100, 61), (103, 59), (109, 61), (112, 61), (119, 59)], 59) := by decide +kernel
theorem dX11_actLength_60 : decode cX11_actLength 60 = .ok (.iconst 2, 1) := by decide +kernel
theorem dX11_actLength_61 : decode cX11_actLength 61 = .ok (.ireturn, 1) := by decide +kernel
theorem dX11_actLength_62 : decode cX11_actLength 62 = .ok (.iconst 3, 1) := by decide +kernel
theorem dX11_actLength_63 : decode cX11_actLength 63 = .ok (.ireturn, 1) := by decide +kernel
theorem dX11_actLength_64 : decode cX11_actLength 64 = .ok (.iconst 0, 1) := by decide +kernel
theorem dX11_actLength_65 : decode cX11_actLength 65 = .ok (.ireturn, 1) := by decide +kernel
theorem dX11_fitsAct_0 : decode cX11_fitsAct 0 = .ok (.iload_n 0, 1) := by decide +kernel
theorem dX11_fitsAct_1 : decode cX11_fitsAct 1 = .ok (.bipush 109, 2) := by decide +kernel
theorem dX11_fitsAct_3 : decode cX11_fitsAct 3 = .ok (.if_icmp .eq 15, 3) := by decide +kernel
theorem dX11_fitsAct_6 : decode cX11_fitsAct 6 = .ok (.iload_n 0, 1) := by decide +kernel
theorem dX11_fitsAct_7 : decode cX11_fitsAct 7 = .ok (.bipush 112, 2) := by decide +kernel
theorem dX11_fitsAct_9 : decode cX11_fitsAct 9 = .ok (.if_icmp .eq 9, 3) := by decide +kernel
theorem dX11_fitsAct_12 : decode cX11_fitsAct 12 = .ok (.iload_n 0, 1) := by decide +kernel
theorem dX11_fitsAct_13 : decode cX11_fitsAct 13 = .ok (.bipush 103, 2) := by decide +kernel
theorem dX11_fitsAct_15 : decode cX11_fitsAct 15 = .ok (.if_icmp .ne 7, 3) := by decide +kernel
theorem dX11_fitsAct_18 : decode cX11_fitsAct 18 = .ok (.iconst 1, 1) := by decide +kernel
theorem dX11_fitsAct_19 : decode cX11_fitsAct 19 = .ok (.goto 4, 3) := by decide +kernel
theorem dX11_fitsAct_22 : decode cX11_fitsAct 22 = .ok (.iconst 0, 1) := by decide +kernel
theorem dX11_fitsAct_23 : decode cX11_fitsAct 23 = .ok (.istore_n 3, 1) := by decide +kernel
theorem dX11_fitsAct_24 : decode cX11_fitsAct 24 = .ok (.iload_n 1, 1) := by decide +kernel
theorem dX11_fitsAct_25 : decode cX11_fitsAct 25 = .ok (.iconst 1, 1) := by decide +kernel
theorem dX11_fitsAct_26 : decode cX11_fitsAct 26 = .ok (.if_icmp .ne 25, 3) := by decide +kernel
theorem dX11_fitsAct_29 : decode cX11_fitsAct 29 = .ok (.iload_n 3, 1) := by decide +kernel
theorem dX11_fitsAct_30 : decode cX11_fitsAct 30 = .ok (.ifCond .eq 21, 3) := by decide +kernel
theorem dX11_fitsAct_33 : decode cX11_fitsAct 33 = .ok (.iload_n 2, 1) := by decide +kernel
theorem dX11_fitsAct_34 : decode cX11_fitsAct 34 = .ok (.bipush 97, 2) := by decide +kernel
theorem dX11_fitsAct_36 : decode cX11_fitsAct 36 = .ok (.if_icmp .lt 13, 3) := by decide +kernel
theorem dX11_fitsAct_39 : decode cX11_fitsAct 39 = .ok (.iload_n 2, 1) := by decide +kernel
theorem dX11_fitsAct_40 : decode cX11_fitsAct 40 = .ok (.bipush 108, 2) := by decide +kernel
theorem dX11_fitsAct_42 : decode cX11_fitsAct 42 = .ok (.if_icmp .gt 7, 3) := by decide +kernel
theorem dX11_fitsAct_45 : decode cX11_fitsAct 45 = .ok (.iconst 1, 1) := by decide +kernel
theorem dX11_fitsAct_46 : decode cX11_fitsAct 46 = .ok (.goto 4, 3) := by decide +kernel
theorem dX11_fitsAct_49 : decode cX11_fitsAct 49 = .ok (.iconst 0, 1) := by decide +kernel
theorem dX11_fitsAct_50 : decode cX11_fitsAct 50 = .ok (.ireturn, 1) := by decide +kernel
theorem dX11_fitsAct_51 : decode cX11_fitsAct 51 = .ok (.iload_n 2, 1) := by decide +kernel
theorem dX11_fitsAct_52 : decode cX11_fitsAct 52 = .ok (.invokestatic 134, 3) := by decide +kernel
theorem dX11_fitsAct_55 : decode cX11_fitsAct 55 = .ok (.ifCond .eq 19, 3) := by decide +kernel
theorem dX11_fitsAct_58 : decode cX11_fitsAct 58 = .ok (.iload_n 0, 1) := by decide +kernel
theorem dX11_fitsAct_59 : decode cX11_fitsAct 59 = .ok (.bipush 112, 2) := by decide +kernel
theorem dX11_fitsAct_61 : decode cX11_fitsAct 61 = .ok (.if_icmp .ne 9, 3) := by decide +kernel
theorem dX11_fitsAct_64 : decode cX11_fitsAct 64 = .ok (.iload_n 2, 1) := by decide +kernel
theorem dX11_fitsAct_65 : decode cX11_fitsAct 65 = .ok (.bipush 48, 2) := by decide +kernel
theorem dX11_fitsAct_67 : decode cX11_fitsAct 67 = .ok (.if_icmp .eq 7, 3) := by decide +kernel
theorem dX11_fitsAct_70 : decode cX11_fitsAct 70 = .ok (.iconst 1, 1) := by decide +kernel
theorem dX11_fitsAct_71 : decode cX11_fitsAct 71 = .ok (.goto 4, 3) := by decide +kernel
theorem dX11_fitsAct_74 : decode cX11_fitsAct 74 = .ok (.iconst 0, 1) := by decide +kernel
theorem dX11_fitsAct_75 : decode cX11_fitsAct 75 = .ok (.ireturn, 1) := by decide +kernel
theorem dX11_doAct_0 : decode cX11_doAct 0 = .ok (.aload_n 0, 1) := by decide +kernel
theorem dX11_doAct_1 : decode cX11_doAct 1 = .ok (.getfield 10, 3) := by decide +kernel
theorem dX11_doAct_4 : decode cX11_doAct 4 = .ok (.iload_n 1, 1) := by decide +kernel
theorem dX11_doAct_5 : decode cX11_doAct 5 = .ok (.iconst 1, 1) := by decide +kernel
theorem dX11_doAct_6 : decode cX11_doAct 6 = .ok (.iadd, 1) := by decide +kernel
theorem dX11_doAct_7 : decode cX11_doAct 7 = .ok (.invokevirtual 130, 3) := by decide +kernel
theorem dX11_doAct_10 : decode cX11_doAct 10 = .ok (.bipush 97, 2) := by decide +kernel
theorem dX11_doAct_12 : decode cX11_doAct 12 = .ok (.isub, 1) := by decide +kernel
theorem dX11_doAct_13 : decode cX11_doAct 13 = .ok (.istore_n 2, 1) := by decide +kernel
theorem dX11_doAct_14 : decode cX11_doAct 14 = .ok (.aload_n 0, 1) := by decide +kernel
theorem dX11_doAct_15 : decode cX11_doAct 15 = .ok (.getfield 10, 3) := by decide +kernel
theorem dX11_doAct_18 : decode cX11_doAct 18 = .ok (.iload_n 1, 1) := by decide +kernel
theorem dX11_doAct_19 : decode cX11_doAct 19 = .ok (.invokevirtual 130, 3) := by decide +kernel
theorem dX11_doAct_22 : decode cX11_doAct 22 = .ok (.lookupswitch 159 #[(99, 125), (100, 142), (103, 119), (109, 85), (112, 102), (119, 58)], 58) := by decide +kernel
theorem dX11_doAct_80 : decode cX11_doAct 80 = .ok (.aload_n 0, 1) := by decide +kernel
theorem dX11_doAct_81 : decode cX11_doAct 81 = .ok (.getfield 42, 3) := by decide +kernel
theorem dX11_doAct_84 : decode cX11_doAct 84 = .ok (.aload_n 0, 1) := by decide +kernel
theorem dX11_doAct_85 : decode cX11_doAct 85 = .ok (.getfield 97, 3) := by decide +kernel
theorem dX11_doAct_88 : decode cX11_doAct 88 = .ok (.aload_n 0, 1) := by decide +kernel
theorem dX11_doAct_89 : decode cX11_doAct 89 = .ok (.getfield 49, 3) := by decide +kernel
theorem dX11_doAct_92 : decode cX11_doAct 92 = .ok (.aload_n 0, 1) := by decide +kernel
theorem dX11_doAct_93 : decode cX11_doAct 93 = .ok (.getfield 10, 3) := by decide +kernel
theorem dX11_doAct_96 : decode cX11_doAct 96 = .ok (.iload_n 1, 1) := by decide +kernel
theorem dX11_doAct_97 : decode cX11_doAct 97 = .ok (.iconst 1, 1) := by decide +kernel
theorem dX11_doAct_98 : decode cX11_doAct 98 = .ok (.iadd, 1) := by decide +kernel
theorem dX11_doAct_99 : decode cX11_doAct 99 = .ok (.iconst 1, 1) := by decide +kernel
theorem dX11_doAct_100 : decode cX11_doAct 100 = .ok (.invokevirtual 285, 3) := by decide +kernel
theorem dX11_doAct_103 : decode cX11_doAct 103 = .ok (.invokevirtual 217, 3) := by decide +kernel
theorem dX11_doAct_106 : decode cX11_doAct 106 = .ok (.ireturn, 1) := by decide +kernel
theorem dX11_doAct_107 : decode cX11_doAct 107 = .ok (.aload_n 0, 1) := by decide +kernel
theorem dX11_doAct_108 : decode cX11_doAct 108 = .ok (.iload_n 2, 1) := by decide +kernel
theorem dX11_doAct_109 : decode cX11_doAct 109 = .ok (.aload_n 0, 1) := by decide +kernel
theorem dX11_doAct_110 : decode cX11_doAct 110 = .ok (.getfield 10, 3) := by decide +kernel
theorem dX11_doAct_113 : decode cX11_doAct 113 = .ok (.iload_n 1, 1) := by decide +kernel
theorem dX11_doAct_114 : decode cX11_doAct 114 = .ok (.iconst 2, 1) := by decide +kernel
theorem dX11_doAct_115 : decode cX11_doAct 115 = .ok (.iadd, 1) := by decide +kernel
theorem dX11_doAct_116 : decode cX11_doAct 116 = .ok (.iconst 1, 1) := by decide +kernel
theorem dX11_doAct_117 : decode cX11_doAct 117 = .ok (.invokevirtual 285, 3) := by decide +kernel
theorem dX11_doAct_120 : decode cX11_doAct 120 = .ok (.invokevirtual 208, 3) := by decide +kernel
theorem dX11_doAct_123 : decode cX11_doAct 123 = .ok (.ireturn, 1) := by decide +kernel
theorem dX11_doAct_124 : decode cX11_doAct 124 = .ok (.aload_n 0, 1) := by decide +kernel
theorem dX11_doAct_125 : decode cX11_doAct 125 = .ok (.iload_n 2, 1) := by decide +kernel
theorem dX11_doAct_126 : decode cX11_doAct 126 = .ok (.aload_n 0, 1) := by decide +kernel
theorem dX11_doAct_127 : decode cX11_doAct 127 = .ok (.getfield 10, 3) := by decide +kernel
theorem dX11_doAct_130 : decode cX11_doAct 130 = .ok (.iload_n 1, 1) := by decide +kernel
theorem dX11_doAct_131 : decode cX11_doAct 131 = .ok (.iconst 2, 1) := by decide +kernel
theorem dX11_doAct_132 : decode cX11_doAct 132 = .ok (.iadd, 1) := by decide +kernel
theorem dX11_doAct_133 : decode cX11_doAct 133 = .ok (.iconst 1, 1) := by decide +kernel
theorem dX11_doAct_134 : decode cX11_doAct 134 = .ok (.invokevirtual 285, 3) := by decide +kernel
theorem dX11_doAct_137 : decode cX11_doAct 137 = .ok (.invokevirtual 211, 3) := by decide +kernel
theorem dX11_doAct_140 : decode cX11_doAct 140 = .ok (.ireturn, 1) := by decide +kernel
theorem dX11_doAct_141 : decode cX11_doAct 141 = .ok (.aload_n 0, 1) := by decide +kernel
theorem dX11_doAct_142 : decode cX11_doAct 142 = .ok (.iload_n 2, 1) := by decide +kernel
theorem dX11_doAct_143 : decode cX11_doAct 143 = .ok (.invokevirtual 214, 3) := by decide +kernel
theorem dX11_doAct_146 : decode cX11_doAct 146 = .ok (.ireturn, 1) := by decide +kernel
theorem dX11_doAct_147 : decode cX11_doAct 147 = .ok (.aload_n 0, 1) := by decide +kernel
theorem dX11_doAct_148 : decode cX11_doAct 148 = .ok (.iconst 0, 1) := by decide +kernel
theorem dX11_doAct_149 : decode cX11_doAct 149 = .ok (.aload_n 0, 1) := by decide +kernel
theorem dX11_doAct_150 : decode cX11_doAct 150 = .ok (.getfield 10, 3) := by decide +kernel
theorem dX11_doAct_153 : decode cX11_doAct 153 = .ok (.iload_n 1, 1) := by decide +kernel
theorem dX11_doAct_154 : decode cX11_doAct 154 = .ok (.iconst 1, 1) := by decide +kernel
theorem dX11_doAct_155 : decode cX11_doAct 155 = .ok (.iadd, 1) := by decide +kernel
theorem dX11_doAct_156 : decode cX11_doAct 156 = .ok (.iconst 2, 1) := by decide +kernel
theorem dX11_doAct_157 : decode cX11_doAct 157 = .ok (.invokevirtual 285, 3) := by decide +kernel
theorem dX11_doAct_160 : decode cX11_doAct 160 = .ok (.invokevirtual 202, 3) := by decide +kernel
theorem dX11_doAct_163 : decode cX11_doAct 163 = .ok (.ireturn, 1) := by decide +kernel
theorem dX11_doAct_164 : decode cX11_doAct 164 = .ok (.aload_n 0, 1) := by decide +kernel
theorem dX11_doAct_165 : decode cX11_doAct 165 = .ok (.iconst 1, 1) := by decide +kernel
theorem dX11_doAct_166 : decode cX11_doAct 166 = .ok (.aload_n 0, 1) := by decide +kernel
theorem dX11_doAct_167 : decode cX11_doAct 167 = .ok (.getfield 10, 3) := by decide +kernel
theorem dX11_doAct_170 : decode cX11_doAct 170 = .ok (.iload_n 1, 1) := by decide +kernel
theorem dX11_doAct_171 : decode cX11_doAct 171 = .ok (.iconst 1, 1) := by decide +kernel
theorem dX11_doAct_172 : decode cX11_doAct 172 = .ok (.iadd, 1) := by decide +kernel
theorem dX11_doAct_173 : decode cX11_doAct 173 = .ok (.iconst 2, 1) := by decide +kernel
theorem dX11_doAct_174 : decode cX11_doAct 174 = .ok (.invokevirtual 285, 3) := by decide +kernel
theorem dX11_doAct_177 : decode cX11_doAct 177 = .ok (.invokevirtual 202, 3) := by decide +kernel
theorem dX11_doAct_180 : decode cX11_doAct 180 = .ok (.ireturn, 1) := by decide +kernel
theorem dX11_doAct_181 : decode cX11_doAct 181 = .ok (.iconst (-1), 1) := by decide +kernel
theorem dX11_doAct_182 : decode cX11_doAct 182 = .ok (.ireturn, 1) := by decide +kernel
theorem dX11_goes_0 : decode cX11_goes 0 = .ok (.aload_n 0, 1) := by decide +kernel
theorem dX11_goes_1 : decode cX11_goes 1 = .ok (.getfield 53, 3) := by decide +kernel
theorem dX11_goes_4 : decode cX11_goes 4 = .ok (.aload_n 0, 1) := by decide +kernel
theorem dX11_goes_5 : decode cX11_goes 5 = .ok (.getfield 49, 3) := by decide +kernel
theorem dX11_goes_8 : decode cX11_goes 8 = .ok (.invokevirtual 198, 3) := by decide +kernel
theorem dX11_goes_11 : decode cX11_goes 11 = .ok (.aload_n 0, 1) := by decide +kernel
theorem dX11_goes_12 : decode cX11_goes 12 = .ok (.getfield 42, 3) := by decide +kernel
theorem dX11_goes_15 : decode cX11_goes 15 = .ok (.aload_n 0, 1) := by decide +kernel
theorem dX11_goes_16 : decode cX11_goes 16 = .ok (.getfield 97, 3) := by decide +kernel
theorem dX11_goes_19 : decode cX11_goes 19 = .ok (.aload_n 0, 1) := by decide +kernel
theorem dX11_goes_20 : decode cX11_goes 20 = .ok (.getfield 53, 3) := by decide +kernel
theorem dX11_goes_23 : decode cX11_goes 23 = .ok (.iconst 0, 1) := by decide +kernel
theorem dX11_goes_24 : decode cX11_goes 24 = .ok (.invokevirtual 288, 3) := by decide +kernel
theorem dX11_goes_27 : decode cX11_goes 27 = .ok (.istore_n 1, 1) := by decide +kernel
theorem dX11_goes_28 : decode cX11_goes 28 = .ok (.aload_n 0, 1) := by decide +kernel
theorem dX11_goes_29 : decode cX11_goes 29 = .ok (.getfield 83, 3) := by decide +kernel
theorem dX11_goes_32 : decode cX11_goes 32 = .ok (.iload_n 1, 1) := by decide +kernel
theorem dX11_goes_33 : decode cX11_goes 33 = .ok (.i2l, 1) := by decide +kernel
theorem dX11_goes_34 : decode cX11_goes 34 = .ok (.aload_n 0, 1) := by decide +kernel
theorem dX11_goes_35 : decode cX11_goes 35 = .ok (.getfield 42, 3) := by decide +kernel
theorem dX11_goes_38 : decode cX11_goes 38 = .ok (.invokevirtual 291, 3) := by decide +kernel
theorem dX11_goes_41 : decode cX11_goes 41 = .ok (.i2l, 1) := by decide +kernel
theorem dX11_goes_42 : decode cX11_goes 42 = .ok (.invokevirtual 223, 3) := by decide +kernel
theorem dX11_goes_45 : decode cX11_goes 45 = .ok (.aload_n 0, 1) := by decide +kernel
theorem dX11_goes_46 : decode cX11_goes 46 = .ok (.getfield 42, 3) := by decide +kernel
theorem dX11_goes_49 : decode cX11_goes 49 = .ok (.invokevirtual 294, 3) := by decide +kernel
theorem dX11_goes_52 : decode cX11_goes 52 = .ok (.ireturn, 1) := by decide +kernel
theorem dX11_ahead_0 : decode cX11_ahead 0 = .ok (.iload_n 1, 1) := by decide +kernel
theorem dX11_ahead_1 : decode cX11_ahead 1 = .ok (.ifCond .lt 9, 3) := by decide +kernel
theorem dX11_ahead_4 : decode cX11_ahead 4 = .ok (.iload_n 1, 1) := by decide +kernel
theorem dX11_ahead_5 : decode cX11_ahead 5 = .ok (.bipush 99, 2) := by decide +kernel
theorem dX11_ahead_7 : decode cX11_ahead 7 = .ok (.if_icmp .le 5, 3) := by decide +kernel
theorem dX11_ahead_10 : decode cX11_ahead 10 = .ok (.iconst (-1), 1) := by decide +kernel
theorem dX11_ahead_11 : decode cX11_ahead 11 = .ok (.ireturn, 1) := by decide +kernel
theorem dX11_ahead_12 : decode cX11_ahead 12 = .ok (.aload_n 0, 1) := by decide +kernel
theorem dX11_ahead_13 : decode cX11_ahead 13 = .ok (.getfield 53, 3) := by decide +kernel
theorem dX11_ahead_16 : decode cX11_ahead 16 = .ok (.aload_n 0, 1) := by decide +kernel
theorem dX11_ahead_17 : decode cX11_ahead 17 = .ok (.getfield 49, 3) := by decide +kernel
theorem dX11_ahead_20 : decode cX11_ahead 20 = .ok (.invokevirtual 198, 3) := by decide +kernel
theorem dX11_ahead_23 : decode cX11_ahead 23 = .ok (.aload_n 0, 1) := by decide +kernel
theorem dX11_ahead_24 : decode cX11_ahead 24 = .ok (.getfield 42, 3) := by decide +kernel
theorem dX11_ahead_27 : decode cX11_ahead 27 = .ok (.aload_n 0, 1) := by decide +kernel
theorem dX11_ahead_28 : decode cX11_ahead 28 = .ok (.getfield 97, 3) := by decide +kernel
theorem dX11_ahead_31 : decode cX11_ahead 31 = .ok (.aload_n 0, 1) := by decide +kernel
theorem dX11_ahead_32 : decode cX11_ahead 32 = .ok (.getfield 53, 3) := by decide +kernel
theorem dX11_ahead_35 : decode cX11_ahead 35 = .ok (.iload_n 1, 1) := by decide +kernel
theorem dX11_ahead_36 : decode cX11_ahead 36 = .ok (.invokevirtual 217, 3) := by decide +kernel
theorem dX11_ahead_39 : decode cX11_ahead 39 = .ok (.istore_n 2, 1) := by decide +kernel
theorem dX11_ahead_40 : decode cX11_ahead 40 = .ok (.aload_n 0, 1) := by decide +kernel
theorem dX11_ahead_41 : decode cX11_ahead 41 = .ok (.getfield 83, 3) := by decide +kernel
theorem dX11_ahead_44 : decode cX11_ahead 44 = .ok (.aload_n 0, 1) := by decide +kernel
theorem dX11_ahead_45 : decode cX11_ahead 45 = .ok (.getfield 53, 3) := by decide +kernel
theorem dX11_ahead_48 : decode cX11_ahead 48 = .ok (.invokevirtual 195, 3) := by decide +kernel
theorem dX11_ahead_51 : decode cX11_ahead 51 = .ok (.i2l, 1) := by decide +kernel
theorem dX11_ahead_52 : decode cX11_ahead 52 = .ok (.aload_n 0, 1) := by decide +kernel
theorem dX11_ahead_53 : decode cX11_ahead 53 = .ok (.getfield 42, 3) := by decide +kernel
theorem dX11_ahead_56 : decode cX11_ahead 56 = .ok (.invokevirtual 297, 3) := by decide +kernel
theorem dX11_ahead_59 : decode cX11_ahead 59 = .ok (.i2l, 1) := by decide +kernel
theorem dX11_ahead_60 : decode cX11_ahead 60 = .ok (.invokevirtual 223, 3) := by decide +kernel
theorem dX11_ahead_63 : decode cX11_ahead 63 = .ok (.iload_n 2, 1) := by decide +kernel
theorem dX11_ahead_64 : decode cX11_ahead 64 = .ok (.ireturn, 1) := by decide +kernel
theorem dX11_holds_0 : decode cX11_holds 0 = .ok (.aload_n 0, 1) := by decide +kernel
theorem dX11_holds_1 : decode cX11_holds 1 = .ok (.getfield 53, 3) := by decide +kernel
theorem dX11_holds_4 : decode cX11_holds 4 = .ok (.aload_n 0, 1) := by decide +kernel
theorem dX11_holds_5 : decode cX11_holds 5 = .ok (.getfield 49, 3) := by decide +kernel
theorem dX11_holds_8 : decode cX11_holds 8 = .ok (.invokevirtual 198, 3) := by decide +kernel
theorem dX11_holds_11 : decode cX11_holds 11 = .ok (.iconst 0, 1) := by decide +kernel
theorem dX11_holds_12 : decode cX11_holds 12 = .ok (.istore_n 1, 1) := by decide +kernel
theorem dX11_holds_13 : decode cX11_holds 13 = .ok (.iload_n 1, 1) := by decide +kernel
theorem dX11_holds_14 : decode cX11_holds 14 = .ok (.bipush 99, 2) := by decide +kernel
theorem dX11_holds_16 : decode cX11_holds 16 = .ok (.if_icmp .ge 45, 3) := by decide +kernel
theorem dX11_holds_19 : decode cX11_holds 19 = .ok (.aload_n 0, 1) := by decide +kernel
theorem dX11_holds_20 : decode cX11_holds 20 = .ok (.getfield 42, 3) := by decide +kernel
theorem dX11_holds_23 : decode cX11_holds 23 = .ok (.aload_n 0, 1) := by decide +kernel
theorem dX11_holds_24 : decode cX11_holds 24 = .ok (.getfield 97, 3) := by decide +kernel
theorem dX11_holds_27 : decode cX11_holds 27 = .ok (.aload_n 0, 1) := by decide +kernel
theorem dX11_holds_28 : decode cX11_holds 28 = .ok (.getfield 53, 3) := by decide +kernel
theorem dX11_holds_31 : decode cX11_holds 31 = .ok (.iconst 1, 1) := by decide +kernel
theorem dX11_holds_32 : decode cX11_holds 32 = .ok (.invokevirtual 217, 3) := by decide +kernel
theorem dX11_holds_35 : decode cX11_holds 35 = .ok (.ifCond .le 20, 3) := by decide +kernel
theorem dX11_holds_38 : decode cX11_holds 38 = .ok (.aload_n 0, 1) := by decide +kernel
theorem dX11_holds_39 : decode cX11_holds 39 = .ok (.getfield 83, 3) := by decide +kernel
theorem dX11_holds_42 : decode cX11_holds 42 = .ok (.aload_n 0, 1) := by decide +kernel
theorem dX11_holds_43 : decode cX11_holds 43 = .ok (.getfield 42, 3) := by decide +kernel
theorem dX11_holds_46 : decode cX11_holds 46 = .ok (.invokevirtual 294, 3) := by decide +kernel
theorem dX11_holds_49 : decode cX11_holds 49 = .ok (.i2l, 1) := by decide +kernel
theorem dX11_holds_50 : decode cX11_holds 50 = .ok (.invokevirtual 300, 3) := by decide +kernel
theorem dX11_holds_53 : decode cX11_holds 53 = .ok (.iload_n 1, 1) := by decide +kernel
theorem dX11_holds_54 : decode cX11_holds 54 = .ok (.ireturn, 1) := by decide +kernel
theorem dX11_holds_55 : decode cX11_holds 55 = .ok (.iinc 1 1, 3) := by decide +kernel
theorem dX11_holds_58 : decode cX11_holds 58 = .ok (.goto (-45), 3) := by decide +kernel
theorem dX11_holds_61 : decode cX11_holds 61 = .ok (.bipush (-2), 2) := by decide +kernel
theorem dX11_holds_63 : decode cX11_holds 63 = .ok (.ireturn, 1) := by decide +kernel
theorem dX11_keeps_0 : decode cX11_keeps 0 = .ok (.bipush 99, 2) := by decide +kernel
theorem dX11_keeps_2 : decode cX11_keeps 2 = .ok (.istore_n 1, 1) := by decide +kernel
theorem dX11_keeps_3 : decode cX11_keeps 3 = .ok (.iconst 0, 1) := by decide +kernel
theorem dX11_keeps_4 : decode cX11_keeps 4 = .ok (.istore_n 2, 1) := by decide +kernel
theorem dX11_keeps_5 : decode cX11_keeps 5 = .ok (.iload_n 2, 1) := by decide +kernel
theorem dX11_keeps_6 : decode cX11_keeps 6 = .ok (.aload_n 0, 1) := by decide +kernel
theorem dX11_keeps_7 : decode cX11_keeps 7 = .ok (.getfield 19, 3) := by decide +kernel
theorem dX11_keeps_10 : decode cX11_keeps 10 = .ok (.invokevirtual 304, 3) := by decide +kernel
theorem dX11_keeps_13 : decode cX11_keeps 13 = .ok (.if_icmp .ge 64, 3) := by decide +kernel
theorem dX11_keeps_16 : decode cX11_keeps 16 = .ok (.aload_n 0, 1) := by decide +kernel
theorem dX11_keeps_17 : decode cX11_keeps 17 = .ok (.getfield 19, 3) := by decide +kernel
theorem dX11_keeps_20 : decode cX11_keeps 20 = .ok (.iload_n 2, 1) := by decide +kernel
theorem dX11_keeps_21 : decode cX11_keeps 21 = .ok (.invokevirtual 163, 3) := by decide +kernel
theorem dX11_keeps_24 : decode cX11_keeps 24 = .ok (.istore_n 3, 1) := by decide +kernel
theorem dX11_keeps_25 : decode cX11_keeps 25 = .ok (.iload_n 3, 1) := by decide +kernel
theorem dX11_keeps_26 : decode cX11_keeps 26 = .ok (.ifCond .le 45, 3) := by decide +kernel
theorem dX11_keeps_29 : decode cX11_keeps 29 = .ok (.aload_n 0, 1) := by decide +kernel
theorem dX11_keeps_30 : decode cX11_keeps 30 = .ok (.getfield 42, 3) := by decide +kernel
theorem dX11_keeps_33 : decode cX11_keeps 33 = .ok (.aload_n 0, 1) := by decide +kernel
theorem dX11_keeps_34 : decode cX11_keeps 34 = .ok (.getfield 97, 3) := by decide +kernel
theorem dX11_keeps_37 : decode cX11_keeps 37 = .ok (.aload_n 0, 1) := by decide +kernel
theorem dX11_keeps_38 : decode cX11_keeps 38 = .ok (.getfield 49, 3) := by decide +kernel
theorem dX11_keeps_41 : decode cX11_keeps 41 = .ok (.iload_n 2, 1) := by decide +kernel
theorem dX11_keeps_42 : decode cX11_keeps 42 = .ok (.invokevirtual 170, 3) := by decide +kernel
theorem dX11_keeps_45 : decode cX11_keeps 45 = .ok (.iconst (-1), 1) := by decide +kernel
theorem dX11_keeps_46 : decode cX11_keeps 46 = .ok (.if_icmp .eq 25, 3) := by decide +kernel
theorem dX11_keeps_49 : decode cX11_keeps 49 = .ok (.iload_n 1, 1) := by decide +kernel
theorem dX11_keeps_50 : decode cX11_keeps 50 = .ok (.aload_n 0, 1) := by decide +kernel
theorem dX11_keeps_51 : decode cX11_keeps 51 = .ok (.getfield 49, 3) := by decide +kernel
theorem dX11_keeps_54 : decode cX11_keeps 54 = .ok (.invokevirtual 247, 3) := by decide +kernel
theorem dX11_keeps_57 : decode cX11_keeps 57 = .ok (.aload_n 0, 1) := by decide +kernel
theorem dX11_keeps_58 : decode cX11_keeps 58 = .ok (.getfield 42, 3) := by decide +kernel
theorem dX11_keeps_61 : decode cX11_keeps 61 = .ok (.invokevirtual 173, 3) := by decide +kernel
theorem dX11_keeps_64 : decode cX11_keeps 64 = .ok (.iload_n 3, 1) := by decide +kernel
theorem dX11_keeps_65 : decode cX11_keeps 65 = .ok (.idiv, 1) := by decide +kernel
theorem dX11_keeps_66 : decode cX11_keeps 66 = .ok (.iadd, 1) := by decide +kernel
theorem dX11_keeps_67 : decode cX11_keeps 67 = .ok (.invokestatic 276, 3) := by decide +kernel
theorem dX11_keeps_70 : decode cX11_keeps 70 = .ok (.istore_n 1, 1) := by decide +kernel
theorem dX11_keeps_71 : decode cX11_keeps 71 = .ok (.iinc 2 1, 3) := by decide +kernel
theorem dX11_keeps_74 : decode cX11_keeps 74 = .ok (.goto (-69), 3) := by decide +kernel
theorem dX11_keeps_77 : decode cX11_keeps 77 = .ok (.iload_n 1, 1) := by decide +kernel
theorem dX11_keeps_78 : decode cX11_keeps 78 = .ok (.ireturn, 1) := by decide +kernel
theorem dX11_tax_0 : decode cX11_tax 0 = .ok (.iconst 0, 1) := by decide +kernel
theorem dX11_tax_1 : decode cX11_tax 1 = .ok (.istore_n 1, 1) := by decide +kernel
theorem dX11_tax_2 : decode cX11_tax 2 = .ok (.iconst (-1), 1) := by decide +kernel
theorem dX11_tax_3 : decode cX11_tax 3 = .ok (.istore_n 2, 1) := by decide +kernel
theorem dX11_tax_4 : decode cX11_tax 4 = .ok (.iconst 0, 1) := by decide +kernel
theorem dX11_tax_5 : decode cX11_tax 5 = .ok (.istore_n 3, 1) := by decide +kernel
theorem dX11_tax_6 : decode cX11_tax 6 = .ok (.iload_n 3, 1) := by decide +kernel
theorem dX11_tax_7 : decode cX11_tax 7 = .ok (.bipush 99, 2) := by decide +kernel
theorem dX11_tax_9 : decode cX11_tax 9 = .ok (.if_icmp .gt 27, 3) := by decide +kernel
theorem dX11_tax_12 : decode cX11_tax 12 = .ok (.aload_n 0, 1) := by decide +kernel
theorem dX11_tax_13 : decode cX11_tax 13 = .ok (.iload_n 3, 1) := by decide +kernel
theorem dX11_tax_14 : decode cX11_tax 14 = .ok (.invokevirtual 305, 3) := by decide +kernel
theorem dX11_tax_17 : decode cX11_tax 17 = .ok (.istore 4, 2) := by decide +kernel
theorem dX11_tax_19 : decode cX11_tax 19 = .ok (.iload 4, 2) := by decide +kernel
theorem dX11_tax_21 : decode cX11_tax 21 = .ok (.iload_n 2, 1) := by decide +kernel
theorem dX11_tax_22 : decode cX11_tax 22 = .ok (.if_icmp .le 8, 3) := by decide +kernel
theorem dX11_tax_25 : decode cX11_tax 25 = .ok (.iload 4, 2) := by decide +kernel
theorem dX11_tax_27 : decode cX11_tax 27 = .ok (.istore_n 2, 1) := by decide +kernel
theorem dX11_tax_28 : decode cX11_tax 28 = .ok (.iload_n 3, 1) := by decide +kernel
theorem dX11_tax_29 : decode cX11_tax 29 = .ok (.istore_n 1, 1) := by decide +kernel
theorem dX11_tax_30 : decode cX11_tax 30 = .ok (.iinc 3 1, 3) := by decide +kernel
theorem dX11_tax_33 : decode cX11_tax 33 = .ok (.goto (-27), 3) := by decide +kernel
theorem dX11_tax_36 : decode cX11_tax 36 = .ok (.aload_n 0, 1) := by decide +kernel
theorem dX11_tax_37 : decode cX11_tax 37 = .ok (.getfield 83, 3) := by decide +kernel
theorem dX11_tax_40 : decode cX11_tax 40 = .ok (.iload_n 2, 1) := by decide +kernel
theorem dX11_tax_41 : decode cX11_tax 41 = .ok (.i2l, 1) := by decide +kernel
theorem dX11_tax_42 : decode cX11_tax 42 = .ok (.aload_n 0, 1) := by decide +kernel
theorem dX11_tax_43 : decode cX11_tax 43 = .ok (.getfield 33, 3) := by decide +kernel
theorem dX11_tax_46 : decode cX11_tax 46 = .ok (.iload_n 1, 1) := by decide +kernel
theorem dX11_tax_47 : decode cX11_tax 47 = .ok (.invokevirtual 308, 3) := by decide +kernel
theorem dX11_tax_50 : decode cX11_tax 50 = .ok (.i2l, 1) := by decide +kernel
theorem dX11_tax_51 : decode cX11_tax 51 = .ok (.invokevirtual 223, 3) := by decide +kernel
theorem dX11_tax_54 : decode cX11_tax 54 = .ok (.iload_n 1, 1) := by decide +kernel
theorem dX11_tax_55 : decode cX11_tax 55 = .ok (.ireturn, 1) := by decide +kernel
theorem dX11_takenAt_0 : decode cX11_takenAt 0 = .ok (.iconst 0, 1) := by decide +kernel
theorem dX11_takenAt_1 : decode cX11_takenAt 1 = .ok (.iload_n 1, 1) := by decide +kernel
theorem dX11_takenAt_2 : decode cX11_takenAt 2 = .ok (.aload_n 0, 1) := by decide +kernel
theorem dX11_takenAt_3 : decode cX11_takenAt 3 = .ok (.getfield 49, 3) := by decide +kernel
theorem dX11_takenAt_6 : decode cX11_takenAt 6 = .ok (.invokevirtual 247, 3) := by decide +kernel
theorem dX11_takenAt_9 : decode cX11_takenAt 9 = .ok (.isub, 1) := by decide +kernel
theorem dX11_takenAt_10 : decode cX11_takenAt 10 = .ok (.invokestatic 311, 3) := by decide +kernel
theorem dX11_takenAt_13 : decode cX11_takenAt 13 = .ok (.istore_n 2, 1) := by decide +kernel
theorem dX11_takenAt_14 : decode cX11_takenAt 14 = .ok (.iload_n 2, 1) := by decide +kernel
theorem dX11_takenAt_15 : decode cX11_takenAt 15 = .ok (.ifCond .ne 5, 3) := by decide +kernel
theorem dX11_takenAt_18 : decode cX11_takenAt 18 = .ok (.iconst 0, 1) := by decide +kernel
theorem dX11_takenAt_19 : decode cX11_takenAt 19 = .ok (.ireturn, 1) := by decide +kernel
theorem dX11_takenAt_20 : decode cX11_takenAt 20 = .ok (.aload_n 0, 1) := by decide +kernel
theorem dX11_takenAt_21 : decode cX11_takenAt 21 = .ok (.getfield 53, 3) := by decide +kernel
theorem dX11_takenAt_24 : decode cX11_takenAt 24 = .ok (.aload_n 0, 1) := by decide +kernel
theorem dX11_takenAt_25 : decode cX11_takenAt 25 = .ok (.getfield 49, 3) := by decide +kernel
theorem dX11_takenAt_28 : decode cX11_takenAt 28 = .ok (.invokevirtual 198, 3) := by decide +kernel
theorem dX11_takenAt_31 : decode cX11_takenAt 31 = .ok (.aload_n 0, 1) := by decide +kernel
theorem dX11_takenAt_32 : decode cX11_takenAt 32 = .ok (.getfield 53, 3) := by decide +kernel
theorem dX11_takenAt_35 : decode cX11_takenAt 35 = .ok (.iload_n 1, 1) := by decide +kernel
theorem dX11_takenAt_36 : decode cX11_takenAt 36 = .ok (.invokevirtual 257, 3) := by decide +kernel
theorem dX11_takenAt_39 : decode cX11_takenAt 39 = .ok (.aload_n 0, 1) := by decide +kernel
theorem dX11_takenAt_40 : decode cX11_takenAt 40 = .ok (.getfield 42, 3) := by decide +kernel
theorem dX11_takenAt_43 : decode cX11_takenAt 43 = .ok (.aload_n 0, 1) := by decide +kernel
theorem dX11_takenAt_44 : decode cX11_takenAt 44 = .ok (.getfield 97, 3) := by decide +kernel
theorem dX11_takenAt_47 : decode cX11_takenAt 47 = .ok (.aload_n 0, 1) := by decide +kernel
theorem dX11_takenAt_48 : decode cX11_takenAt 48 = .ok (.getfield 53, 3) := by decide +kernel
theorem dX11_takenAt_51 : decode cX11_takenAt 51 = .ok (.iconst 0, 1) := by decide +kernel
theorem dX11_takenAt_52 : decode cX11_takenAt 52 = .ok (.invokevirtual 288, 3) := by decide +kernel
theorem dX11_takenAt_55 : decode cX11_takenAt 55 = .ok (.istore_n 3, 1) := by decide +kernel
theorem dX11_takenAt_56 : decode cX11_takenAt 56 = .ok (.iload_n 2, 1) := by decide +kernel
theorem dX11_takenAt_57 : decode cX11_takenAt 57 = .ok (.iconst 0, 1) := by decide +kernel
theorem dX11_takenAt_58 : decode cX11_takenAt 58 = .ok (.aload_n 0, 1) := by decide +kernel
theorem dX11_takenAt_59 : decode cX11_takenAt 59 = .ok (.getfield 33, 3) := by decide +kernel
theorem dX11_takenAt_62 : decode cX11_takenAt 62 = .ok (.invokevirtual 314, 3) := by decide +kernel
theorem dX11_takenAt_65 : decode cX11_takenAt 65 = .ok (.aload_n 0, 1) := by decide +kernel
theorem dX11_takenAt_66 : decode cX11_takenAt 66 = .ok (.getfield 33, 3) := by decide +kernel
theorem dX11_takenAt_69 : decode cX11_takenAt 69 = .ok (.iload_n 1, 1) := by decide +kernel
theorem dX11_takenAt_70 : decode cX11_takenAt 70 = .ok (.invokevirtual 308, 3) := by decide +kernel
theorem dX11_takenAt_73 : decode cX11_takenAt 73 = .ok (.isub, 1) := by decide +kernel
theorem dX11_takenAt_74 : decode cX11_takenAt 74 = .ok (.iload_n 3, 1) := by decide +kernel
theorem dX11_takenAt_75 : decode cX11_takenAt 75 = .ok (.isub, 1) := by decide +kernel
theorem dX11_takenAt_76 : decode cX11_takenAt 76 = .ok (.invokestatic 311, 3) := by decide +kernel
theorem dX11_takenAt_79 : decode cX11_takenAt 79 = .ok (.imul, 1) := by decide +kernel
theorem dX11_takenAt_80 : decode cX11_takenAt 80 = .ok (.ireturn, 1) := by decide +kernel
theorem dX11_without_0 : decode cX11_without 0 = .ok (.iload_n 1, 1) := by decide +kernel
theorem dX11_without_1 : decode cX11_without 1 = .ok (.ifCond .lt 9, 3) := by decide +kernel
theorem dX11_without_4 : decode cX11_without 4 = .ok (.iload_n 1, 1) := by decide +kernel
theorem dX11_without_5 : decode cX11_without 5 = .ok (.bipush 99, 2) := by decide +kernel
theorem dX11_without_7 : decode cX11_without 7 = .ok (.if_icmp .le 5, 3) := by decide +kernel
theorem dX11_without_10 : decode cX11_without 10 = .ok (.iconst (-1), 1) := by decide +kernel
theorem dX11_without_11 : decode cX11_without 11 = .ok (.ireturn, 1) := by decide +kernel
theorem dX11_without_12 : decode cX11_without 12 = .ok (.aload_n 0, 1) := by decide +kernel
theorem dX11_without_13 : decode cX11_without 13 = .ok (.getfield 33, 3) := by decide +kernel
theorem dX11_without_16 : decode cX11_without 16 = .ok (.iload_n 1, 1) := by decide +kernel
theorem dX11_without_17 : decode cX11_without 17 = .ok (.invokevirtual 308, 3) := by decide +kernel
theorem dX11_without_20 : decode cX11_without 20 = .ok (.istore_n 2, 1) := by decide +kernel
theorem dX11_without_21 : decode cX11_without 21 = .ok (.iload_n 1, 1) := by decide +kernel
theorem dX11_without_22 : decode cX11_without 22 = .ok (.istore_n 3, 1) := by decide +kernel
theorem dX11_without_23 : decode cX11_without 23 = .ok (.iload_n 3, 1) := by decide +kernel
theorem dX11_without_24 : decode cX11_without 24 = .ok (.ifCond .le 23, 3) := by decide +kernel
theorem dX11_without_27 : decode cX11_without 27 = .ok (.aload_n 0, 1) := by decide +kernel
theorem dX11_without_28 : decode cX11_without 28 = .ok (.getfield 33, 3) := by decide +kernel
theorem dX11_without_31 : decode cX11_without 31 = .ok (.iload_n 3, 1) := by decide +kernel
theorem dX11_without_32 : decode cX11_without 32 = .ok (.invokevirtual 308, 3) := by decide +kernel
theorem dX11_without_35 : decode cX11_without 35 = .ok (.iload_n 2, 1) := by decide +kernel
theorem dX11_without_36 : decode cX11_without 36 = .ok (.iconst 2, 1) := by decide +kernel
theorem dX11_without_37 : decode cX11_without 37 = .ok (.idiv, 1) := by decide +kernel
theorem dX11_without_38 : decode cX11_without 38 = .ok (.if_icmp .le 9, 3) := by decide +kernel
theorem dX11_without_41 : decode cX11_without 41 = .ok (.iinc 3 (-1), 3) := by decide +kernel
theorem dX11_without_44 : decode cX11_without 44 = .ok (.goto (-21), 3) := by decide +kernel
theorem dX11_without_47 : decode cX11_without 47 = .ok (.aload_n 0, 1) := by decide +kernel
theorem dX11_without_48 : decode cX11_without 48 = .ok (.getfield 83, 3) := by decide +kernel
theorem dX11_without_51 : decode cX11_without 51 = .ok (.aload_n 0, 1) := by decide +kernel
theorem dX11_without_52 : decode cX11_without 52 = .ok (.getfield 33, 3) := by decide +kernel
theorem dX11_without_55 : decode cX11_without 55 = .ok (.iload_n 1, 1) := by decide +kernel
theorem dX11_without_56 : decode cX11_without 56 = .ok (.invokevirtual 317, 3) := by decide +kernel
theorem dX11_without_59 : decode cX11_without 59 = .ok (.i2l, 1) := by decide +kernel
theorem dX11_without_60 : decode cX11_without 60 = .ok (.iload_n 3, 1) := by decide +kernel
theorem dX11_without_61 : decode cX11_without 61 = .ok (.i2l, 1) := by decide +kernel
theorem dX11_without_62 : decode cX11_without 62 = .ok (.invokevirtual 223, 3) := by decide +kernel
theorem dX11_without_65 : decode cX11_without 65 = .ok (.iload_n 2, 1) := by decide +kernel
theorem dX11_without_66 : decode cX11_without 66 = .ok (.ireturn, 1) := by decide +kernel
theorem dX11_beats_0 : decode cX11_beats 0 = .ok (.iload_n 1, 1) := by decide +kernel
theorem dX11_beats_1 : decode cX11_beats 1 = .ok (.ifCond .lt 8, 3) := by decide +kernel
theorem dX11_beats_4 : decode cX11_beats 4 = .ok (.iload_n 1, 1) := by decide +kernel
theorem dX11_beats_5 : decode cX11_beats 5 = .ok (.iconst 4, 1) := by decide +kernel
theorem dX11_beats_6 : decode cX11_beats 6 = .ok (.if_icmp .le 5, 3) := by decide +kernel
theorem dX11_beats_9 : decode cX11_beats 9 = .ok (.iconst (-1), 1) := by decide +kernel
theorem dX11_beats_10 : decode cX11_beats 10 = .ok (.ireturn, 1) := by decide +kernel
theorem dX11_beats_11 : decode cX11_beats 11 = .ok (.aload_n 0, 1) := by decide +kernel
theorem dX11_beats_12 : decode cX11_beats 12 = .ok (.getfield 91, 3) := by decide +kernel
theorem dX11_beats_15 : decode cX11_beats 15 = .ok (.iconst 0, 1) := by decide +kernel
theorem dX11_beats_16 : decode cX11_beats 16 = .ok (.invokestatic 320, 3) := by decide +kernel
theorem dX11_beats_19 : decode cX11_beats 19 = .ok (.aload_n 0, 1) := by decide +kernel
theorem dX11_beats_20 : decode cX11_beats 20 = .ok (.getfield 49, 3) := by decide +kernel
theorem dX11_beats_23 : decode cX11_beats 23 = .ok (.invokevirtual 127, 3) := by decide +kernel
theorem dX11_beats_26 : decode cX11_beats 26 = .ok (.aload_n 0, 1) := by decide +kernel
theorem dX11_beats_27 : decode cX11_beats 27 = .ok (.getfield 91, 3) := by decide +kernel
theorem dX11_beats_30 : decode cX11_beats 30 = .ok (.arraylength, 1) := by decide +kernel
theorem dX11_beats_31 : decode cX11_beats 31 = .ok (.invokestatic 276, 3) := by decide +kernel
theorem dX11_beats_34 : decode cX11_beats 34 = .ok (.iconst 1, 1) := by decide +kernel
theorem dX11_beats_35 : decode cX11_beats 35 = .ok (.isub, 1) := by decide +kernel
theorem dX11_beats_36 : decode cX11_beats 36 = .ok (.istore_n 2, 1) := by decide +kernel
theorem dX11_beats_37 : decode cX11_beats 37 = .ok (.iload_n 2, 1) := by decide +kernel
theorem dX11_beats_38 : decode cX11_beats 38 = .ok (.ifCond .ge 5, 3) := by decide +kernel
theorem dX11_beats_41 : decode cX11_beats 41 = .ok (.iconst (-1), 1) := by decide +kernel
theorem dX11_beats_42 : decode cX11_beats 42 = .ok (.ireturn, 1) := by decide +kernel
theorem dX11_beats_43 : decode cX11_beats 43 = .ok (.aload_n 0, 1) := by decide +kernel
theorem dX11_beats_44 : decode cX11_beats 44 = .ok (.getfield 91, 3) := by decide +kernel
theorem dX11_beats_47 : decode cX11_beats 47 = .ok (.iload_n 2, 1) := by decide +kernel
theorem dX11_beats_48 : decode cX11_beats 48 = .ok (.iload_n 1, 1) := by decide +kernel
theorem dX11_beats_49 : decode cX11_beats 49 = .ok (.iastore, 1) := by decide +kernel
theorem dX11_beats_50 : decode cX11_beats 50 = .ok (.ldc_w 326, 3) := by decide +kernel
theorem dX11_beats_53 : decode cX11_beats 53 = .ok (.istore_n 3, 1) := by decide +kernel
theorem dX11_beats_54 : decode cX11_beats 54 = .ok (.iconst 1, 1) := by decide +kernel
theorem dX11_beats_55 : decode cX11_beats 55 = .ok (.istore 4, 2) := by decide +kernel
theorem dX11_beats_57 : decode cX11_beats 57 = .ok (.iconst 0, 1) := by decide +kernel
theorem dX11_beats_58 : decode cX11_beats 58 = .ok (.istore 5, 2) := by decide +kernel
theorem dX11_beats_60 : decode cX11_beats 60 = .ok (.iload 5, 2) := by decide +kernel
theorem dX11_beats_62 : decode cX11_beats 62 = .ok (.ldc_w 327, 3) := by decide +kernel
theorem dX11_beats_65 : decode cX11_beats 65 = .ok (.if_icmp .ge 54, 3) := by decide +kernel
theorem dX11_beats_68 : decode cX11_beats 68 = .ok (.iload 4, 2) := by decide +kernel
theorem dX11_beats_70 : decode cX11_beats 70 = .ok (.ifCond .eq 49, 3) := by decide +kernel
theorem dX11_beats_73 : decode cX11_beats 73 = .ok (.iload_n 3, 1) := by decide +kernel
theorem dX11_beats_74 : decode cX11_beats 74 = .ok (.ifCond .le 45, 3) := by decide +kernel
theorem dX11_beats_77 : decode cX11_beats 77 = .ok (.aload_n 0, 1) := by decide +kernel
theorem dX11_beats_78 : decode cX11_beats 78 = .ok (.invokevirtual 328, 3) := by decide +kernel
theorem dX11_beats_81 : decode cX11_beats 81 = .ok (.istore 6, 2) := by decide +kernel
theorem dX11_beats_83 : decode cX11_beats 83 = .ok (.iload 6, 2) := by decide +kernel
theorem dX11_beats_85 : decode cX11_beats 85 = .ok (.iload_n 3, 1) := by decide +kernel
theorem dX11_beats_86 : decode cX11_beats 86 = .ok (.if_icmp .ge 20, 3) := by decide +kernel
theorem dX11_beats_89 : decode cX11_beats 89 = .ok (.iload 6, 2) := by decide +kernel
theorem dX11_beats_91 : decode cX11_beats 91 = .ok (.istore_n 3, 1) := by decide +kernel
theorem dX11_beats_92 : decode cX11_beats 92 = .ok (.aload_n 0, 1) := by decide +kernel
theorem dX11_beats_93 : decode cX11_beats 93 = .ok (.getfield 83, 3) := by decide +kernel
theorem dX11_beats_96 : decode cX11_beats 96 = .ok (.aload_n 0, 1) := by decide +kernel
theorem dX11_beats_97 : decode cX11_beats 97 = .ok (.getfield 91, 3) := by decide +kernel
theorem dX11_beats_100 : decode cX11_beats 100 = .ok (.iload_n 2, 1) := by decide +kernel
theorem dX11_beats_101 : decode cX11_beats 101 = .ok (.iconst 1, 1) := by decide +kernel
theorem dX11_beats_102 : decode cX11_beats 102 = .ok (.iadd, 1) := by decide +kernel
theorem dX11_beats_103 : decode cX11_beats 103 = .ok (.invokevirtual 331, 3) := by decide +kernel
theorem dX11_beats_106 : decode cX11_beats 106 = .ok (.aload_n 0, 1) := by decide +kernel
theorem dX11_beats_107 : decode cX11_beats 107 = .ok (.iload_n 2, 1) := by decide +kernel
theorem dX11_beats_108 : decode cX11_beats 108 = .ok (.invokevirtual 334, 3) := by decide +kernel
theorem dX11_beats_111 : decode cX11_beats 111 = .ok (.istore 4, 2) := by decide +kernel
theorem dX11_beats_113 : decode cX11_beats 113 = .ok (.iinc 5 1, 3) := by decide +kernel
theorem dX11_beats_116 : decode cX11_beats 116 = .ok (.goto (-56), 3) := by decide +kernel
theorem dX11_beats_119 : decode cX11_beats 119 = .ok (.iload_n 3, 1) := by decide +kernel
theorem dX11_beats_120 : decode cX11_beats 120 = .ok (.ireturn, 1) := by decide +kernel
theorem dX11_loadsPlaced_0 : decode cX11_loadsPlaced 0 = .ok (.aload_n 0, 1) := by decide +kernel
theorem dX11_loadsPlaced_1 : decode cX11_loadsPlaced 1 = .ok (.getfield 53, 3) := by decide +kernel
theorem dX11_loadsPlaced_4 : decode cX11_loadsPlaced 4 = .ok (.aload_n 0, 1) := by decide +kernel
theorem dX11_loadsPlaced_5 : decode cX11_loadsPlaced 5 = .ok (.getfield 49, 3) := by decide +kernel
theorem dX11_loadsPlaced_8 : decode cX11_loadsPlaced 8 = .ok (.invokevirtual 198, 3) := by decide +kernel
theorem dX11_loadsPlaced_11 : decode cX11_loadsPlaced 11 = .ok (.iconst 0, 1) := by decide +kernel
theorem dX11_loadsPlaced_12 : decode cX11_loadsPlaced 12 = .ok (.istore_n 1, 1) := by decide +kernel
theorem dX11_loadsPlaced_13 : decode cX11_loadsPlaced 13 = .ok (.iload_n 1, 1) := by decide +kernel
theorem dX11_loadsPlaced_14 : decode cX11_loadsPlaced 14 = .ok (.aload_n 0, 1) := by decide +kernel
theorem dX11_loadsPlaced_15 : decode cX11_loadsPlaced 15 = .ok (.getfield 49, 3) := by decide +kernel
theorem dX11_loadsPlaced_18 : decode cX11_loadsPlaced 18 = .ok (.invokevirtual 127, 3) := by decide +kernel
theorem dX11_loadsPlaced_21 : decode cX11_loadsPlaced 21 = .ok (.if_icmp .ge 32, 3) := by decide +kernel
theorem dX11_loadsPlaced_24 : decode cX11_loadsPlaced 24 = .ok (.iload_n 1, 1) := by decide +kernel
theorem dX11_loadsPlaced_25 : decode cX11_loadsPlaced 25 = .ok (.aload_n 0, 1) := by decide +kernel
theorem dX11_loadsPlaced_26 : decode cX11_loadsPlaced 26 = .ok (.getfield 91, 3) := by decide +kernel
theorem dX11_loadsPlaced_29 : decode cX11_loadsPlaced 29 = .ok (.arraylength, 1) := by decide +kernel
theorem dX11_loadsPlaced_30 : decode cX11_loadsPlaced 30 = .ok (.if_icmp .ge 23, 3) := by decide +kernel
theorem dX11_loadsPlaced_33 : decode cX11_loadsPlaced 33 = .ok (.aload_n 0, 1) := by decide +kernel
theorem dX11_loadsPlaced_34 : decode cX11_loadsPlaced 34 = .ok (.getfield 53, 3) := by decide +kernel
theorem dX11_loadsPlaced_37 : decode cX11_loadsPlaced 37 = .ok (.iload_n 1, 1) := by decide +kernel
theorem dX11_loadsPlaced_38 : decode cX11_loadsPlaced 38 = .ok (.aload_n 0, 1) := by decide +kernel
theorem dX11_loadsPlaced_39 : decode cX11_loadsPlaced 39 = .ok (.getfield 91, 3) := by decide +kernel
theorem dX11_loadsPlaced_42 : decode cX11_loadsPlaced 42 = .ok (.iload_n 1, 1) := by decide +kernel
theorem dX11_loadsPlaced_43 : decode cX11_loadsPlaced 43 = .ok (.iaload, 1) := by decide +kernel
theorem dX11_loadsPlaced_44 : decode cX11_loadsPlaced 44 = .ok (.invokevirtual 260, 3) := by decide +kernel
theorem dX11_loadsPlaced_47 : decode cX11_loadsPlaced 47 = .ok (.iinc 1 1, 3) := by decide +kernel
theorem dX11_loadsPlaced_50 : decode cX11_loadsPlaced 50 = .ok (.goto (-37), 3) := by decide +kernel
theorem dX11_loadsPlaced_53 : decode cX11_loadsPlaced 53 = .ok (.aload_n 0, 1) := by decide +kernel
theorem dX11_loadsPlaced_54 : decode cX11_loadsPlaced 54 = .ok (.getfield 42, 3) := by decide +kernel
theorem dX11_loadsPlaced_57 : decode cX11_loadsPlaced 57 = .ok (.aload_n 0, 1) := by decide +kernel
theorem dX11_loadsPlaced_58 : decode cX11_loadsPlaced 58 = .ok (.getfield 97, 3) := by decide +kernel
theorem dX11_loadsPlaced_61 : decode cX11_loadsPlaced 61 = .ok (.aload_n 0, 1) := by decide +kernel
theorem dX11_loadsPlaced_62 : decode cX11_loadsPlaced 62 = .ok (.getfield 53, 3) := by decide +kernel
theorem dX11_loadsPlaced_65 : decode cX11_loadsPlaced 65 = .ok (.iconst 0, 1) := by decide +kernel
theorem dX11_loadsPlaced_66 : decode cX11_loadsPlaced 66 = .ok (.invokevirtual 288, 3) := by decide +kernel
theorem dX11_loadsPlaced_69 : decode cX11_loadsPlaced 69 = .ok (.ireturn, 1) := by decide +kernel
theorem dX11_nextPlacing_0 : decode cX11_nextPlacing 0 = .ok (.iload_n 1, 1) := by decide +kernel
theorem dX11_nextPlacing_1 : decode cX11_nextPlacing 1 = .ok (.istore_n 2, 1) := by decide +kernel
theorem dX11_nextPlacing_2 : decode cX11_nextPlacing 2 = .ok (.iload_n 2, 1) := by decide +kernel
theorem dX11_nextPlacing_3 : decode cX11_nextPlacing 3 = .ok (.ifCond .le 18, 3) := by decide +kernel
theorem dX11_nextPlacing_6 : decode cX11_nextPlacing 6 = .ok (.aload_n 0, 1) := by decide +kernel
theorem dX11_nextPlacing_7 : decode cX11_nextPlacing 7 = .ok (.getfield 91, 3) := by decide +kernel
theorem dX11_nextPlacing_10 : decode cX11_nextPlacing 10 = .ok (.iload_n 2, 1) := by decide +kernel
theorem dX11_nextPlacing_11 : decode cX11_nextPlacing 11 = .ok (.iaload, 1) := by decide +kernel
theorem dX11_nextPlacing_12 : decode cX11_nextPlacing 12 = .ok (.ifCond .ne 9, 3) := by decide +kernel
theorem dX11_nextPlacing_15 : decode cX11_nextPlacing 15 = .ok (.iinc 2 (-1), 3) := by decide +kernel
theorem dX11_nextPlacing_18 : decode cX11_nextPlacing 18 = .ok (.goto (-16), 3) := by decide +kernel
theorem dX11_nextPlacing_21 : decode cX11_nextPlacing 21 = .ok (.iload_n 2, 1) := by decide +kernel
theorem dX11_nextPlacing_22 : decode cX11_nextPlacing 22 = .ok (.ifCond .gt 5, 3) := by decide +kernel
theorem dX11_nextPlacing_25 : decode cX11_nextPlacing 25 = .ok (.iconst 0, 1) := by decide +kernel
theorem dX11_nextPlacing_26 : decode cX11_nextPlacing 26 = .ok (.ireturn, 1) := by decide +kernel
theorem dX11_nextPlacing_27 : decode cX11_nextPlacing 27 = .ok (.aload_n 0, 1) := by decide +kernel
theorem dX11_nextPlacing_28 : decode cX11_nextPlacing 28 = .ok (.getfield 91, 3) := by decide +kernel
theorem dX11_nextPlacing_31 : decode cX11_nextPlacing 31 = .ok (.iload_n 2, 1) := by decide +kernel
theorem dX11_nextPlacing_32 : decode cX11_nextPlacing 32 = .ok (.iaload, 1) := by decide +kernel
theorem dX11_nextPlacing_33 : decode cX11_nextPlacing 33 = .ok (.istore_n 3, 1) := by decide +kernel
theorem dX11_nextPlacing_34 : decode cX11_nextPlacing 34 = .ok (.aload_n 0, 1) := by decide +kernel
theorem dX11_nextPlacing_35 : decode cX11_nextPlacing 35 = .ok (.getfield 91, 3) := by decide +kernel
theorem dX11_nextPlacing_38 : decode cX11_nextPlacing 38 = .ok (.iload_n 2, 1) := by decide +kernel
theorem dX11_nextPlacing_39 : decode cX11_nextPlacing 39 = .ok (.iconst 0, 1) := by decide +kernel
theorem dX11_nextPlacing_40 : decode cX11_nextPlacing 40 = .ok (.iastore, 1) := by decide +kernel
theorem dX11_nextPlacing_41 : decode cX11_nextPlacing 41 = .ok (.aload_n 0, 1) := by decide +kernel
theorem dX11_nextPlacing_42 : decode cX11_nextPlacing 42 = .ok (.getfield 91, 3) := by decide +kernel
theorem dX11_nextPlacing_45 : decode cX11_nextPlacing 45 = .ok (.iload_n 2, 1) := by decide +kernel
theorem dX11_nextPlacing_46 : decode cX11_nextPlacing 46 = .ok (.iconst 1, 1) := by decide +kernel
theorem dX11_nextPlacing_47 : decode cX11_nextPlacing 47 = .ok (.isub, 1) := by decide +kernel
theorem dX11_nextPlacing_48 : decode cX11_nextPlacing 48 = .ok (.dup2, 1) := by decide +kernel
theorem dX11_nextPlacing_49 : decode cX11_nextPlacing 49 = .ok (.iaload, 1) := by decide +kernel
theorem dX11_nextPlacing_50 : decode cX11_nextPlacing 50 = .ok (.iconst 1, 1) := by decide +kernel
theorem dX11_nextPlacing_51 : decode cX11_nextPlacing 51 = .ok (.iadd, 1) := by decide +kernel
theorem dX11_nextPlacing_52 : decode cX11_nextPlacing 52 = .ok (.iastore, 1) := by decide +kernel
theorem dX11_nextPlacing_53 : decode cX11_nextPlacing 53 = .ok (.aload_n 0, 1) := by decide +kernel
theorem dX11_nextPlacing_54 : decode cX11_nextPlacing 54 = .ok (.getfield 91, 3) := by decide +kernel
theorem dX11_nextPlacing_57 : decode cX11_nextPlacing 57 = .ok (.iload_n 1, 1) := by decide +kernel
theorem dX11_nextPlacing_58 : decode cX11_nextPlacing 58 = .ok (.iload_n 3, 1) := by decide +kernel
theorem dX11_nextPlacing_59 : decode cX11_nextPlacing 59 = .ok (.iconst 1, 1) := by decide +kernel
theorem dX11_nextPlacing_60 : decode cX11_nextPlacing 60 = .ok (.isub, 1) := by decide +kernel
theorem dX11_nextPlacing_61 : decode cX11_nextPlacing 61 = .ok (.iastore, 1) := by decide +kernel
theorem dX11_nextPlacing_62 : decode cX11_nextPlacing 62 = .ok (.iconst 1, 1) := by decide +kernel
theorem dX11_nextPlacing_63 : decode cX11_nextPlacing 63 = .ok (.ireturn, 1) := by decide +kernel
theorem dX11_thorns_0 : decode cX11_thorns 0 = .ok (.iload_n 1, 1) := by decide +kernel
theorem dX11_thorns_1 : decode cX11_thorns 1 = .ok (.iconst 1, 1) := by decide +kernel
theorem dX11_thorns_2 : decode cX11_thorns 2 = .ok (.if_icmp .lt 9, 3) := by decide +kernel
theorem dX11_thorns_5 : decode cX11_thorns 5 = .ok (.iload_n 1, 1) := by decide +kernel
theorem dX11_thorns_6 : decode cX11_thorns 6 = .ok (.bipush 20, 2) := by decide +kernel
theorem dX11_thorns_8 : decode cX11_thorns 8 = .ok (.if_icmp .le 5, 3) := by decide +kernel
theorem dX11_thorns_11 : decode cX11_thorns 11 = .ok (.iconst (-1), 1) := by decide +kernel
theorem dX11_thorns_12 : decode cX11_thorns 12 = .ok (.ireturn, 1) := by decide +kernel
theorem dX11_thorns_13 : decode cX11_thorns 13 = .ok (.iconst (-1), 1) := by decide +kernel
theorem dX11_thorns_14 : decode cX11_thorns 14 = .ok (.istore_n 2, 1) := by decide +kernel
theorem dX11_thorns_15 : decode cX11_thorns 15 = .ok (.iconst 0, 1) := by decide +kernel
theorem dX11_thorns_16 : decode cX11_thorns 16 = .ok (.istore_n 3, 1) := by decide +kernel
theorem dX11_thorns_17 : decode cX11_thorns 17 = .ok (.iconst 0, 1) := by decide +kernel
theorem dX11_thorns_18 : decode cX11_thorns 18 = .ok (.istore 4, 2) := by decide +kernel
theorem dX11_thorns_20 : decode cX11_thorns 20 = .ok (.iload 4, 2) := by decide +kernel
theorem dX11_thorns_22 : decode cX11_thorns 22 = .ok (.aload_n 0, 1) := by decide +kernel
theorem dX11_thorns_23 : decode cX11_thorns 23 = .ok (.getfield 49, 3) := by decide +kernel
theorem dX11_thorns_26 : decode cX11_thorns 26 = .ok (.invokevirtual 127, 3) := by decide +kernel
theorem dX11_thorns_29 : decode cX11_thorns 29 = .ok (.if_icmp .ge 81, 3) := by decide +kernel
theorem dX11_thorns_32 : decode cX11_thorns 32 = .ok (.aload_n 0, 1) := by decide +kernel
theorem dX11_thorns_33 : decode cX11_thorns 33 = .ok (.getfield 49, 3) := by decide +kernel
theorem dX11_thorns_36 : decode cX11_thorns 36 = .ok (.iload 4, 2) := by decide +kernel
theorem dX11_thorns_38 : decode cX11_thorns 38 = .ok (.invokevirtual 153, 3) := by decide +kernel
theorem dX11_thorns_41 : decode cX11_thorns 41 = .ok (.ifCond .eq 6, 3) := by decide +kernel
theorem dX11_thorns_44 : decode cX11_thorns 44 = .ok (.goto 60, 3) := by decide +kernel
theorem dX11_thorns_47 : decode cX11_thorns 47 = .ok (.aload_n 0, 1) := by decide +kernel
theorem dX11_thorns_48 : decode cX11_thorns 48 = .ok (.getfield 53, 3) := by decide +kernel
theorem dX11_thorns_51 : decode cX11_thorns 51 = .ok (.aload_n 0, 1) := by decide +kernel
theorem dX11_thorns_52 : decode cX11_thorns 52 = .ok (.getfield 49, 3) := by decide +kernel
theorem dX11_thorns_55 : decode cX11_thorns 55 = .ok (.invokevirtual 198, 3) := by decide +kernel
theorem dX11_thorns_58 : decode cX11_thorns 58 = .ok (.aload_n 0, 1) := by decide +kernel
theorem dX11_thorns_59 : decode cX11_thorns 59 = .ok (.getfield 53, 3) := by decide +kernel
theorem dX11_thorns_62 : decode cX11_thorns 62 = .ok (.iload 4, 2) := by decide +kernel
theorem dX11_thorns_64 : decode cX11_thorns 64 = .ok (.bipush 9, 2) := by decide +kernel
theorem dX11_thorns_66 : decode cX11_thorns 66 = .ok (.invokevirtual 191, 3) := by decide +kernel
theorem dX11_thorns_69 : decode cX11_thorns 69 = .ok (.aload_n 0, 1) := by decide +kernel
theorem dX11_thorns_70 : decode cX11_thorns 70 = .ok (.getfield 42, 3) := by decide +kernel
theorem dX11_thorns_73 : decode cX11_thorns 73 = .ok (.aload_n 0, 1) := by decide +kernel
theorem dX11_thorns_74 : decode cX11_thorns 74 = .ok (.getfield 97, 3) := by decide +kernel
theorem dX11_thorns_77 : decode cX11_thorns 77 = .ok (.aload_n 0, 1) := by decide +kernel
theorem dX11_thorns_78 : decode cX11_thorns 78 = .ok (.getfield 53, 3) := by decide +kernel
theorem dX11_thorns_81 : decode cX11_thorns 81 = .ok (.iload_n 1, 1) := by decide +kernel
theorem dX11_thorns_82 : decode cX11_thorns 82 = .ok (.invokevirtual 217, 3) := by decide +kernel
theorem dX11_thorns_85 : decode cX11_thorns 85 = .ok (.istore 5, 2) := by decide +kernel
theorem dX11_thorns_87 : decode cX11_thorns 87 = .ok (.iload_n 2, 1) := by decide +kernel
theorem dX11_thorns_88 : decode cX11_thorns 88 = .ok (.iconst (-1), 1) := by decide +kernel
theorem dX11_thorns_89 : decode cX11_thorns 89 = .ok (.if_icmp .eq 9, 3) := by decide +kernel
theorem dX11_thorns_92 : decode cX11_thorns 92 = .ok (.iload 5, 2) := by decide +kernel
theorem dX11_thorns_94 : decode cX11_thorns 94 = .ok (.iload_n 3, 1) := by decide +kernel
theorem dX11_thorns_95 : decode cX11_thorns 95 = .ok (.if_icmp .ge 9, 3) := by decide +kernel
theorem dX11_thorns_98 : decode cX11_thorns 98 = .ok (.iload 4, 2) := by decide +kernel
theorem dX11_thorns_100 : decode cX11_thorns 100 = .ok (.istore_n 2, 1) := by decide +kernel
theorem dX11_thorns_101 : decode cX11_thorns 101 = .ok (.iload 5, 2) := by decide +kernel
theorem dX11_thorns_103 : decode cX11_thorns 103 = .ok (.istore_n 3, 1) := by decide +kernel
theorem dX11_thorns_104 : decode cX11_thorns 104 = .ok (.iinc 4 1, 3) := by decide +kernel
theorem dX11_thorns_107 : decode cX11_thorns 107 = .ok (.goto (-87), 3) := by decide +kernel
theorem dX11_thorns_110 : decode cX11_thorns 110 = .ok (.iload_n 2, 1) := by decide +kernel
theorem dX11_thorns_111 : decode cX11_thorns 111 = .ok (.iconst (-1), 1) := by decide +kernel
theorem dX11_thorns_112 : decode cX11_thorns 112 = .ok (.if_icmp .ne 6, 3) := by decide +kernel
theorem dX11_thorns_115 : decode cX11_thorns 115 = .ok (.bipush (-2), 2) := by decide +kernel
theorem dX11_thorns_117 : decode cX11_thorns 117 = .ok (.ireturn, 1) := by decide +kernel
theorem dX11_thorns_118 : decode cX11_thorns 118 = .ok (.aload_n 0, 1) := by decide +kernel
theorem dX11_thorns_119 : decode cX11_thorns 119 = .ok (.getfield 53, 3) := by decide +kernel
theorem dX11_thorns_122 : decode cX11_thorns 122 = .ok (.aload_n 0, 1) := by decide +kernel
theorem dX11_thorns_123 : decode cX11_thorns 123 = .ok (.getfield 49, 3) := by decide +kernel
theorem dX11_thorns_126 : decode cX11_thorns 126 = .ok (.invokevirtual 198, 3) := by decide +kernel
theorem dX11_thorns_129 : decode cX11_thorns 129 = .ok (.aload_n 0, 1) := by decide +kernel
theorem dX11_thorns_130 : decode cX11_thorns 130 = .ok (.getfield 83, 3) := by decide +kernel
theorem dX11_thorns_133 : decode cX11_thorns 133 = .ok (.iload_n 3, 1) := by decide +kernel
theorem dX11_thorns_134 : decode cX11_thorns 134 = .ok (.i2l, 1) := by decide +kernel
theorem dX11_thorns_135 : decode cX11_thorns 135 = .ok (.aload_n 0, 1) := by decide +kernel
theorem dX11_thorns_136 : decode cX11_thorns 136 = .ok (.getfield 42, 3) := by decide +kernel
theorem dX11_thorns_139 : decode cX11_thorns 139 = .ok (.aload_n 0, 1) := by decide +kernel
theorem dX11_thorns_140 : decode cX11_thorns 140 = .ok (.getfield 97, 3) := by decide +kernel
theorem dX11_thorns_143 : decode cX11_thorns 143 = .ok (.aload_n 0, 1) := by decide +kernel
theorem dX11_thorns_144 : decode cX11_thorns 144 = .ok (.getfield 53, 3) := by decide +kernel
theorem dX11_thorns_147 : decode cX11_thorns 147 = .ok (.iload_n 1, 1) := by decide +kernel
theorem dX11_thorns_148 : decode cX11_thorns 148 = .ok (.invokevirtual 217, 3) := by decide +kernel
theorem dX11_thorns_151 : decode cX11_thorns 151 = .ok (.i2l, 1) := by decide +kernel
theorem dX11_thorns_152 : decode cX11_thorns 152 = .ok (.invokevirtual 223, 3) := by decide +kernel
theorem dX11_thorns_155 : decode cX11_thorns 155 = .ok (.iload_n 2, 1) := by decide +kernel
theorem dX11_thorns_156 : decode cX11_thorns 156 = .ok (.ireturn, 1) := by decide +kernel
theorem dX11_walls_0 : decode cX11_walls 0 = .ok (.iconst 0, 1) := by decide +kernel
theorem dX11_walls_1 : decode cX11_walls 1 = .ok (.istore_n 1, 1) := by decide +kernel
theorem dX11_walls_2 : decode cX11_walls 2 = .ok (.iconst 0, 1) := by decide +kernel
theorem dX11_walls_3 : decode cX11_walls 3 = .ok (.istore_n 2, 1) := by decide +kernel
theorem dX11_walls_4 : decode cX11_walls 4 = .ok (.iload_n 2, 1) := by decide +kernel
theorem dX11_walls_5 : decode cX11_walls 5 = .ok (.aload_n 0, 1) := by decide +kernel
theorem dX11_walls_6 : decode cX11_walls 6 = .ok (.getfield 49, 3) := by decide +kernel
theorem dX11_walls_9 : decode cX11_walls 9 = .ok (.invokevirtual 127, 3) := by decide +kernel
theorem dX11_walls_12 : decode cX11_walls 12 = .ok (.if_icmp .ge 23, 3) := by decide +kernel
theorem dX11_walls_15 : decode cX11_walls 15 = .ok (.aload_n 0, 1) := by decide +kernel
theorem dX11_walls_16 : decode cX11_walls 16 = .ok (.iload_n 2, 1) := by decide +kernel
theorem dX11_walls_17 : decode cX11_walls 17 = .ok (.invokevirtual 337, 3) := by decide +kernel
theorem dX11_walls_20 : decode cX11_walls 20 = .ok (.ifCond .eq 9, 3) := by decide +kernel
theorem dX11_walls_23 : decode cX11_walls 23 = .ok (.iload_n 1, 1) := by decide +kernel
theorem dX11_walls_24 : decode cX11_walls 24 = .ok (.iconst 1, 1) := by decide +kernel
theorem dX11_walls_25 : decode cX11_walls 25 = .ok (.iload_n 2, 1) := by decide +kernel
theorem dX11_walls_26 : decode cX11_walls 26 = .ok (.ishl, 1) := by decide +kernel
theorem dX11_walls_27 : decode cX11_walls 27 = .ok (.ior, 1) := by decide +kernel
theorem dX11_walls_28 : decode cX11_walls 28 = .ok (.istore_n 1, 1) := by decide +kernel
theorem dX11_walls_29 : decode cX11_walls 29 = .ok (.iinc 2 1, 3) := by decide +kernel
theorem dX11_walls_32 : decode cX11_walls 32 = .ok (.goto (-28), 3) := by decide +kernel
theorem dX11_walls_35 : decode cX11_walls 35 = .ok (.aload_n 0, 1) := by decide +kernel
theorem dX11_walls_36 : decode cX11_walls 36 = .ok (.getfield 83, 3) := by decide +kernel
theorem dX11_walls_39 : decode cX11_walls 39 = .ok (.iload_n 1, 1) := by decide +kernel
theorem dX11_walls_40 : decode cX11_walls 40 = .ok (.i2l, 1) := by decide +kernel
theorem dX11_walls_41 : decode cX11_walls 41 = .ok (.invokevirtual 300, 3) := by decide +kernel
theorem dX11_walls_44 : decode cX11_walls 44 = .ok (.iload_n 1, 1) := by decide +kernel
theorem dX11_walls_45 : decode cX11_walls 45 = .ok (.invokestatic 271, 3) := by decide +kernel
theorem dX11_walls_48 : decode cX11_walls 48 = .ok (.ireturn, 1) := by decide +kernel
theorem dX11_drawsOver_0 : decode cX11_drawsOver 0 = .ok (.iconst 0, 1) := by decide +kernel
theorem dX11_drawsOver_1 : decode cX11_drawsOver 1 = .ok (.istore_n 2, 1) := by decide +kernel
theorem dX11_drawsOver_2 : decode cX11_drawsOver 2 = .ok (.iload_n 2, 1) := by decide +kernel
theorem dX11_drawsOver_3 : decode cX11_drawsOver 3 = .ok (.aload_n 0, 1) := by decide +kernel
theorem dX11_drawsOver_4 : decode cX11_drawsOver 4 = .ok (.getfield 19, 3) := by decide +kernel
theorem dX11_drawsOver_7 : decode cX11_drawsOver 7 = .ok (.invokevirtual 304, 3) := by decide +kernel
theorem dX11_drawsOver_10 : decode cX11_drawsOver 10 = .ok (.if_icmp .ge 66, 3) := by decide +kernel
theorem dX11_drawsOver_13 : decode cX11_drawsOver 13 = .ok (.aload_n 0, 1) := by decide +kernel
theorem dX11_drawsOver_14 : decode cX11_drawsOver 14 = .ok (.getfield 19, 3) := by decide +kernel
theorem dX11_drawsOver_17 : decode cX11_drawsOver 17 = .ok (.iload_n 2, 1) := by decide +kernel
theorem dX11_drawsOver_18 : decode cX11_drawsOver 18 = .ok (.invokevirtual 160, 3) := by decide +kernel
theorem dX11_drawsOver_21 : decode cX11_drawsOver 21 = .ok (.iconst 2, 1) := by decide +kernel
theorem dX11_drawsOver_22 : decode cX11_drawsOver 22 = .ok (.if_icmp .le 6, 3) := by decide +kernel
theorem dX11_drawsOver_25 : decode cX11_drawsOver 25 = .ok (.goto 45, 3) := by decide +kernel
theorem dX11_drawsOver_28 : decode cX11_drawsOver 28 = .ok (.aload_n 0, 1) := by decide +kernel
theorem dX11_drawsOver_29 : decode cX11_drawsOver 29 = .ok (.getfield 42, 3) := by decide +kernel
theorem dX11_drawsOver_32 : decode cX11_drawsOver 32 = .ok (.aload_n 0, 1) := by decide +kernel
theorem dX11_drawsOver_33 : decode cX11_drawsOver 33 = .ok (.getfield 97, 3) := by decide +kernel
theorem dX11_drawsOver_36 : decode cX11_drawsOver 36 = .ok (.aload_n 0, 1) := by decide +kernel
theorem dX11_drawsOver_37 : decode cX11_drawsOver 37 = .ok (.getfield 49, 3) := by decide +kernel
theorem dX11_drawsOver_40 : decode cX11_drawsOver 40 = .ok (.iload_n 2, 1) := by decide +kernel
theorem dX11_drawsOver_41 : decode cX11_drawsOver 41 = .ok (.iload_n 1, 1) := by decide +kernel
theorem dX11_drawsOver_42 : decode cX11_drawsOver 42 = .ok (.invokevirtual 183, 3) := by decide +kernel
theorem dX11_drawsOver_45 : decode cX11_drawsOver 45 = .ok (.istore_n 3, 1) := by decide +kernel
theorem dX11_drawsOver_46 : decode cX11_drawsOver 46 = .ok (.iload_n 3, 1) := by decide +kernel
theorem dX11_drawsOver_47 : decode cX11_drawsOver 47 = .ok (.bipush (-2), 2) := by decide +kernel
theorem dX11_drawsOver_49 : decode cX11_drawsOver 49 = .ok (.if_icmp .eq 21, 3) := by decide +kernel
theorem dX11_drawsOver_52 : decode cX11_drawsOver 52 = .ok (.aload_n 0, 1) := by decide +kernel
theorem dX11_drawsOver_53 : decode cX11_drawsOver 53 = .ok (.getfield 42, 3) := by decide +kernel
theorem dX11_drawsOver_56 : decode cX11_drawsOver 56 = .ok (.aload_n 0, 1) := by decide +kernel
theorem dX11_drawsOver_57 : decode cX11_drawsOver 57 = .ok (.getfield 49, 3) := by decide +kernel
theorem dX11_drawsOver_60 : decode cX11_drawsOver 60 = .ok (.iload_n 2, 1) := by decide +kernel
theorem dX11_drawsOver_61 : decode cX11_drawsOver 61 = .ok (.invokevirtual 340, 3) := by decide +kernel
theorem dX11_drawsOver_64 : decode cX11_drawsOver 64 = .ok (.iload_n 3, 1) := by decide +kernel
theorem dX11_drawsOver_65 : decode cX11_drawsOver 65 = .ok (.if_icmp .le 5, 3) := by decide +kernel
theorem dX11_drawsOver_68 : decode cX11_drawsOver 68 = .ok (.iconst 1, 1) := by decide +kernel
theorem dX11_drawsOver_69 : decode cX11_drawsOver 69 = .ok (.ireturn, 1) := by decide +kernel
theorem dX11_drawsOver_70 : decode cX11_drawsOver 70 = .ok (.iinc 2 1, 3) := by decide +kernel
theorem dX11_drawsOver_73 : decode cX11_drawsOver 73 = .ok (.goto (-71), 3) := by decide +kernel
theorem dX11_drawsOver_76 : decode cX11_drawsOver 76 = .ok (.iconst 0, 1) := by decide +kernel
theorem dX11_drawsOver_77 : decode cX11_drawsOver 77 = .ok (.ireturn, 1) := by decide +kernel
theorem dX11_posts_0 : decode cX11_posts 0 = .ok (.iload_n 1, 1) := by decide +kernel
theorem dX11_posts_1 : decode cX11_posts 1 = .ok (.ifCond .lt 9, 3) := by decide +kernel
theorem dX11_posts_4 : decode cX11_posts 4 = .ok (.iload_n 1, 1) := by decide +kernel
theorem dX11_posts_5 : decode cX11_posts 5 = .ok (.bipush 11, 2) := by decide +kernel
theorem dX11_posts_7 : decode cX11_posts 7 = .ok (.if_icmp .le 5, 3) := by decide +kernel
theorem dX11_posts_10 : decode cX11_posts 10 = .ok (.iconst (-1), 1) := by decide +kernel
theorem dX11_posts_11 : decode cX11_posts 11 = .ok (.ireturn, 1) := by decide +kernel
theorem dX11_posts_12 : decode cX11_posts 12 = .ok (.iconst 1, 1) := by decide +kernel
theorem dX11_posts_13 : decode cX11_posts 13 = .ok (.aload_n 0, 1) := by decide +kernel
theorem dX11_posts_14 : decode cX11_posts 14 = .ok (.getfield 49, 3) := by decide +kernel
theorem dX11_posts_17 : decode cX11_posts 17 = .ok (.invokevirtual 127, 3) := by decide +kernel
theorem dX11_posts_20 : decode cX11_posts 20 = .ok (.ishl, 1) := by decide +kernel
theorem dX11_posts_21 : decode cX11_posts 21 = .ok (.iconst 1, 1) := by decide +kernel
theorem dX11_posts_22 : decode cX11_posts 22 = .ok (.isub, 1) := by decide +kernel
theorem dX11_posts_23 : decode cX11_posts 23 = .ok (.istore_n 2, 1) := by decide +kernel
theorem dX11_posts_24 : decode cX11_posts 24 = .ok (.iload_n 2, 1) := by decide +kernel
theorem dX11_posts_25 : decode cX11_posts 25 = .ok (.istore_n 3, 1) := by decide +kernel
theorem dX11_posts_26 : decode cX11_posts 26 = .ok (.iconst 1, 1) := by decide +kernel
theorem dX11_posts_27 : decode cX11_posts 27 = .ok (.istore 4, 2) := by decide +kernel
theorem dX11_posts_29 : decode cX11_posts 29 = .ok (.iload 4, 2) := by decide +kernel
theorem dX11_posts_31 : decode cX11_posts 31 = .ok (.iload_n 2, 1) := by decide +kernel
theorem dX11_posts_32 : decode cX11_posts 32 = .ok (.if_icmp .gt 36, 3) := by decide +kernel
theorem dX11_posts_35 : decode cX11_posts 35 = .ok (.iload 4, 2) := by decide +kernel
theorem dX11_posts_37 : decode cX11_posts 37 = .ok (.invokestatic 271, 3) := by decide +kernel
theorem dX11_posts_40 : decode cX11_posts 40 = .ok (.iload_n 3, 1) := by decide +kernel
theorem dX11_posts_41 : decode cX11_posts 41 = .ok (.invokestatic 271, 3) := by decide +kernel
theorem dX11_posts_44 : decode cX11_posts 44 = .ok (.if_icmp .ge 18, 3) := by decide +kernel
theorem dX11_posts_47 : decode cX11_posts 47 = .ok (.iload 4, 2) := by decide +kernel
theorem dX11_posts_49 : decode cX11_posts 49 = .ok (.iload_n 1, 1) := by decide +kernel
theorem dX11_posts_50 : decode cX11_posts 50 = .ok (.invokestatic 344, 3) := by decide +kernel
theorem dX11_posts_53 : decode cX11_posts 53 = .ok (.iload_n 2, 1) := by decide +kernel
theorem dX11_posts_54 : decode cX11_posts 54 = .ok (.iand, 1) := by decide +kernel
theorem dX11_posts_55 : decode cX11_posts 55 = .ok (.iload_n 2, 1) := by decide +kernel
theorem dX11_posts_56 : decode cX11_posts 56 = .ok (.if_icmp .ne 6, 3) := by decide +kernel
theorem dX11_posts_59 : decode cX11_posts 59 = .ok (.iload 4, 2) := by decide +kernel
theorem dX11_posts_61 : decode cX11_posts 61 = .ok (.istore_n 3, 1) := by decide +kernel
theorem dX11_posts_62 : decode cX11_posts 62 = .ok (.iinc 4 1, 3) := by decide +kernel
theorem dX11_posts_65 : decode cX11_posts 65 = .ok (.goto (-36), 3) := by decide +kernel
theorem dX11_posts_68 : decode cX11_posts 68 = .ok (.aload_n 0, 1) := by decide +kernel
theorem dX11_posts_69 : decode cX11_posts 69 = .ok (.getfield 83, 3) := by decide +kernel
theorem dX11_posts_72 : decode cX11_posts 72 = .ok (.iload_n 3, 1) := by decide +kernel
theorem dX11_posts_73 : decode cX11_posts 73 = .ok (.i2l, 1) := by decide +kernel
theorem dX11_posts_74 : decode cX11_posts 74 = .ok (.invokevirtual 300, 3) := by decide +kernel
theorem dX11_posts_77 : decode cX11_posts 77 = .ok (.iload_n 3, 1) := by decide +kernel
theorem dX11_posts_78 : decode cX11_posts 78 = .ok (.invokestatic 271, 3) := by decide +kernel
theorem dX11_posts_81 : decode cX11_posts 81 = .ok (.ireturn, 1) := by decide +kernel
theorem dX11_near_0 : decode cX11_near 0 = .ok (.iload_n 0, 1) := by decide +kernel
theorem dX11_near_1 : decode cX11_near 1 = .ok (.istore_n 2, 1) := by decide +kernel
theorem dX11_near_2 : decode cX11_near 2 = .ok (.iconst 0, 1) := by decide +kernel
theorem dX11_near_3 : decode cX11_near 3 = .ok (.istore_n 3, 1) := by decide +kernel
theorem dX11_near_4 : decode cX11_near 4 = .ok (.iload_n 3, 1) := by decide +kernel
theorem dX11_near_5 : decode cX11_near 5 = .ok (.iload_n 1, 1) := by decide +kernel
theorem dX11_near_6 : decode cX11_near 6 = .ok (.if_icmp .ge 19, 3) := by decide +kernel
theorem dX11_near_9 : decode cX11_near 9 = .ok (.iload_n 2, 1) := by decide +kernel
theorem dX11_near_10 : decode cX11_near 10 = .ok (.iload_n 2, 1) := by decide +kernel
theorem dX11_near_11 : decode cX11_near 11 = .ok (.iconst 1, 1) := by decide +kernel
theorem dX11_near_12 : decode cX11_near 12 = .ok (.ishl, 1) := by decide +kernel
theorem dX11_near_13 : decode cX11_near 13 = .ok (.iload_n 2, 1) := by decide +kernel
theorem dX11_near_14 : decode cX11_near 14 = .ok (.iconst 1, 1) := by decide +kernel
theorem dX11_near_15 : decode cX11_near 15 = .ok (.ishr, 1) := by decide +kernel
theorem dX11_near_16 : decode cX11_near 16 = .ok (.ior, 1) := by decide +kernel
theorem dX11_near_17 : decode cX11_near 17 = .ok (.ior, 1) := by decide +kernel
theorem dX11_near_18 : decode cX11_near 18 = .ok (.istore_n 2, 1) := by decide +kernel
theorem dX11_near_19 : decode cX11_near 19 = .ok (.iinc 3 1, 3) := by decide +kernel
theorem dX11_near_22 : decode cX11_near 22 = .ok (.goto (-18), 3) := by decide +kernel
theorem dX11_near_25 : decode cX11_near 25 = .ok (.iload_n 2, 1) := by decide +kernel
theorem dX11_near_26 : decode cX11_near 26 = .ok (.ireturn, 1) := by decide +kernel
theorem dX11_rounds_0 : decode cX11_rounds 0 = .ok (.iload_n 1, 1) := by decide +kernel
theorem dX11_rounds_1 : decode cX11_rounds 1 = .ok (.iconst 1, 1) := by decide +kernel
theorem dX11_rounds_2 : decode cX11_rounds 2 = .ok (.if_icmp .lt 19, 3) := by decide +kernel
theorem dX11_rounds_5 : decode cX11_rounds 5 = .ok (.iload_n 1, 1) := by decide +kernel
theorem dX11_rounds_6 : decode cX11_rounds 6 = .ok (.bipush 9, 2) := by decide +kernel
theorem dX11_rounds_8 : decode cX11_rounds 8 = .ok (.if_icmp .gt 13, 3) := by decide +kernel
theorem dX11_rounds_11 : decode cX11_rounds 11 = .ok (.iload_n 2, 1) := by decide +kernel
theorem dX11_rounds_12 : decode cX11_rounds 12 = .ok (.ifCond .lt 9, 3) := by decide +kernel
theorem dX11_rounds_15 : decode cX11_rounds 15 = .ok (.iload_n 2, 1) := by decide +kernel
theorem dX11_rounds_16 : decode cX11_rounds 16 = .ok (.bipush 60, 2) := by decide +kernel
theorem dX11_rounds_18 : decode cX11_rounds 18 = .ok (.if_icmp .le 5, 3) := by decide +kernel
theorem dX11_rounds_21 : decode cX11_rounds 21 = .ok (.iconst (-1), 1) := by decide +kernel
theorem dX11_rounds_22 : decode cX11_rounds 22 = .ok (.ireturn, 1) := by decide +kernel
theorem dX11_rounds_23 : decode cX11_rounds 23 = .ok (.aload_n 0, 1) := by decide +kernel
theorem dX11_rounds_24 : decode cX11_rounds 24 = .ok (.getfield 49, 3) := by decide +kernel
theorem dX11_rounds_27 : decode cX11_rounds 27 = .ok (.invokevirtual 127, 3) := by decide +kernel
theorem dX11_rounds_30 : decode cX11_rounds 30 = .ok (.istore_n 3, 1) := by decide +kernel
theorem dX11_rounds_31 : decode cX11_rounds 31 = .ok (.iconst 1, 1) := by decide +kernel
theorem dX11_rounds_32 : decode cX11_rounds 32 = .ok (.iload_n 3, 1) := by decide +kernel
theorem dX11_rounds_33 : decode cX11_rounds 33 = .ok (.ishl, 1) := by decide +kernel
theorem dX11_rounds_34 : decode cX11_rounds 34 = .ok (.iconst 1, 1) := by decide +kernel
theorem dX11_rounds_35 : decode cX11_rounds 35 = .ok (.isub, 1) := by decide +kernel
theorem dX11_rounds_36 : decode cX11_rounds 36 = .ok (.istore 4, 2) := by decide +kernel
theorem dX11_rounds_38 : decode cX11_rounds 38 = .ok (.iconst 0, 1) := by decide +kernel
theorem dX11_rounds_39 : decode cX11_rounds 39 = .ok (.istore 5, 2) := by decide +kernel
theorem dX11_rounds_41 : decode cX11_rounds 41 = .ok (.iload 5, 2) := by decide +kernel
theorem dX11_rounds_43 : decode cX11_rounds 43 = .ok (.iload_n 1, 1) := by decide +kernel
theorem dX11_rounds_44 : decode cX11_rounds 44 = .ok (.if_icmp .ge 27, 3) := by decide +kernel
theorem dX11_rounds_47 : decode cX11_rounds 47 = .ok (.iload 4, 2) := by decide +kernel
theorem dX11_rounds_49 : decode cX11_rounds 49 = .ok (.iconst 1, 1) := by decide +kernel
theorem dX11_rounds_50 : decode cX11_rounds 50 = .ok (.iconst 2, 1) := by decide +kernel
theorem dX11_rounds_51 : decode cX11_rounds 51 = .ok (.iload 5, 2) := by decide +kernel
theorem dX11_rounds_53 : decode cX11_rounds 53 = .ok (.imul, 1) := by decide +kernel
theorem dX11_rounds_54 : decode cX11_rounds 54 = .ok (.iload_n 2, 1) := by decide +kernel
theorem dX11_rounds_55 : decode cX11_rounds 55 = .ok (.iload_n 3, 1) := by decide +kernel
theorem dX11_rounds_56 : decode cX11_rounds 56 = .ok (.invokestatic 347, 3) := by decide +kernel
theorem dX11_rounds_59 : decode cX11_rounds 59 = .ok (.ishl, 1) := by decide +kernel
theorem dX11_rounds_60 : decode cX11_rounds 60 = .ok (.iconst (-1), 1) := by decide +kernel
theorem dX11_rounds_61 : decode cX11_rounds 61 = .ok (.ixor, 1) := by decide +kernel
theorem dX11_rounds_62 : decode cX11_rounds 62 = .ok (.iand, 1) := by decide +kernel
theorem dX11_rounds_63 : decode cX11_rounds 63 = .ok (.istore 4, 2) := by decide +kernel
theorem dX11_rounds_65 : decode cX11_rounds 65 = .ok (.iinc 5 1, 3) := by decide +kernel
theorem dX11_rounds_68 : decode cX11_rounds 68 = .ok (.goto (-27), 3) := by decide +kernel
theorem dX11_rounds_71 : decode cX11_rounds 71 = .ok (.aload_n 0, 1) := by decide +kernel
theorem dX11_rounds_72 : decode cX11_rounds 72 = .ok (.getfield 83, 3) := by decide +kernel
theorem dX11_rounds_75 : decode cX11_rounds 75 = .ok (.iload 4, 2) := by decide +kernel
theorem dX11_rounds_77 : decode cX11_rounds 77 = .ok (.invokestatic 271, 3) := by decide +kernel
theorem dX11_rounds_80 : decode cX11_rounds 80 = .ok (.i2l, 1) := by decide +kernel
theorem dX11_rounds_81 : decode cX11_rounds 81 = .ok (.invokevirtual 300, 3) := by decide +kernel
theorem dX11_rounds_84 : decode cX11_rounds 84 = .ok (.iload 4, 2) := by decide +kernel
theorem dX11_rounds_86 : decode cX11_rounds 86 = .ok (.ireturn, 1) := by decide +kernel
theorem dX11_walked_0 : decode cX11_walked 0 = .ok (.iload_n 2, 1) := by decide +kernel
theorem dX11_walked_1 : decode cX11_walked 1 = .ok (.iconst 2, 1) := by decide +kernel
theorem dX11_walked_2 : decode cX11_walked 2 = .ok (.if_icmp .ge 5, 3) := by decide +kernel
theorem dX11_walked_5 : decode cX11_walked 5 = .ok (.iconst 0, 1) := by decide +kernel
theorem dX11_walked_6 : decode cX11_walked 6 = .ok (.ireturn, 1) := by decide +kernel
theorem dX11_walked_7 : decode cX11_walked 7 = .ok (.iconst 2, 1) := by decide +kernel
theorem dX11_walked_8 : decode cX11_walked 8 = .ok (.iload_n 2, 1) := by decide +kernel
theorem dX11_walked_9 : decode cX11_walked 9 = .ok (.iconst 1, 1) := by decide +kernel
theorem dX11_walked_10 : decode cX11_walked 10 = .ok (.isub, 1) := by decide +kernel
theorem dX11_walked_11 : decode cX11_walked 11 = .ok (.imul, 1) := by decide +kernel
theorem dX11_walked_12 : decode cX11_walked 12 = .ok (.istore_n 3, 1) := by decide +kernel
theorem dX11_walked_13 : decode cX11_walked 13 = .ok (.iload_n 0, 1) := by decide +kernel
theorem dX11_walked_14 : decode cX11_walked 14 = .ok (.iload_n 2, 1) := by decide +kernel
theorem dX11_walked_15 : decode cX11_walked 15 = .ok (.irem, 1) := by decide +kernel
theorem dX11_walked_16 : decode cX11_walked 16 = .ok (.iload_n 1, 1) := by decide +kernel
theorem dX11_walked_17 : decode cX11_walked 17 = .ok (.iadd, 1) := by decide +kernel
theorem dX11_walked_18 : decode cX11_walked 18 = .ok (.iload_n 3, 1) := by decide +kernel
theorem dX11_walked_19 : decode cX11_walked 19 = .ok (.irem, 1) := by decide +kernel
theorem dX11_walked_20 : decode cX11_walked 20 = .ok (.istore 4, 2) := by decide +kernel
theorem dX11_walked_22 : decode cX11_walked 22 = .ok (.iload 4, 2) := by decide +kernel
theorem dX11_walked_24 : decode cX11_walked 24 = .ok (.iload_n 2, 1) := by decide +kernel
theorem dX11_walked_25 : decode cX11_walked 25 = .ok (.if_icmp .ge 8, 3) := by decide +kernel
theorem dX11_walked_28 : decode cX11_walked 28 = .ok (.iload 4, 2) := by decide +kernel
theorem dX11_walked_30 : decode cX11_walked 30 = .ok (.goto 7, 3) := by decide +kernel
theorem dX11_walked_33 : decode cX11_walked 33 = .ok (.iload_n 3, 1) := by decide +kernel
theorem dX11_walked_34 : decode cX11_walked 34 = .ok (.iload 4, 2) := by decide +kernel
theorem dX11_walked_36 : decode cX11_walked 36 = .ok (.isub, 1) := by decide +kernel
theorem dX11_walked_37 : decode cX11_walked 37 = .ok (.ireturn, 1) := by decide +kernel
theorem dX11_reward_0 : decode cX11_reward 0 = .ok (.aload_n 0, 1) := by decide +kernel
theorem dX11_reward_1 : decode cX11_reward 1 = .ok (.getfield 19, 3) := by decide +kernel
theorem dX11_reward_4 : decode cX11_reward 4 = .ok (.iload_n 1, 1) := by decide +kernel
theorem dX11_reward_5 : decode cX11_reward 5 = .ok (.invokevirtual 159, 3) := by decide +kernel
theorem dX11_reward_8 : decode cX11_reward 8 = .ok (.ifCond .eq 11, 3) := by decide +kernel
theorem dX11_reward_11 : decode cX11_reward 11 = .ok (.aload_n 0, 1) := by decide +kernel
theorem dX11_reward_12 : decode cX11_reward 12 = .ok (.iload_n 1, 1) := by decide +kernel
theorem dX11_reward_13 : decode cX11_reward 13 = .ok (.invokevirtual 351, 3) := by decide +kernel
theorem dX11_reward_16 : decode cX11_reward 16 = .ok (.goto 4, 3) := by decide +kernel
theorem dX11_reward_19 : decode cX11_reward 19 = .ok (.iconst (-1), 1) := by decide +kernel
theorem dX11_reward_20 : decode cX11_reward 20 = .ok (.ireturn, 1) := by decide +kernel
theorem dX11_rewardOf_0 : decode cX11_rewardOf 0 = .ok (.aload_n 0, 1) := by decide +kernel
theorem dX11_rewardOf_1 : decode cX11_rewardOf 1 = .ok (.getfield 42, 3) := by decide +kernel
theorem dX11_rewardOf_4 : decode cX11_rewardOf 4 = .ok (.aload_n 0, 1) := by decide +kernel
theorem dX11_rewardOf_5 : decode cX11_rewardOf 5 = .ok (.getfield 97, 3) := by decide +kernel
theorem dX11_rewardOf_8 : decode cX11_rewardOf 8 = .ok (.aload_n 0, 1) := by decide +kernel
theorem dX11_rewardOf_9 : decode cX11_rewardOf 9 = .ok (.getfield 49, 3) := by decide +kernel
theorem dX11_rewardOf_12 : decode cX11_rewardOf 12 = .ok (.iload_n 1, 1) := by decide +kernel
theorem dX11_rewardOf_13 : decode cX11_rewardOf 13 = .ok (.invokevirtual 166, 3) := by decide +kernel
theorem dX11_rewardOf_16 : decode cX11_rewardOf 16 = .ok (.iconst (-1), 1) := by decide +kernel
theorem dX11_rewardOf_17 : decode cX11_rewardOf 17 = .ok (.if_icmp .ne 5, 3) := by decide +kernel
theorem dX11_rewardOf_20 : decode cX11_rewardOf 20 = .ok (.iconst 0, 1) := by decide +kernel
theorem dX11_rewardOf_21 : decode cX11_rewardOf 21 = .ok (.ireturn, 1) := by decide +kernel
theorem dX11_rewardOf_22 : decode cX11_rewardOf 22 = .ok (.aload_n 0, 1) := by decide +kernel
theorem dX11_rewardOf_23 : decode cX11_rewardOf 23 = .ok (.getfield 42, 3) := by decide +kernel
theorem dX11_rewardOf_26 : decode cX11_rewardOf 26 = .ok (.aload_n 0, 1) := by decide +kernel
theorem dX11_rewardOf_27 : decode cX11_rewardOf 27 = .ok (.getfield 49, 3) := by decide +kernel
theorem dX11_rewardOf_30 : decode cX11_rewardOf 30 = .ok (.iload_n 1, 1) := by decide +kernel
theorem dX11_rewardOf_31 : decode cX11_rewardOf 31 = .ok (.invokevirtual 340, 3) := by decide +kernel
theorem dX11_rewardOf_34 : decode cX11_rewardOf 34 = .ok (.aload_n 0, 1) := by decide +kernel
theorem dX11_rewardOf_35 : decode cX11_rewardOf 35 = .ok (.getfield 42, 3) := by decide +kernel
theorem dX11_rewardOf_38 : decode cX11_rewardOf 38 = .ok (.invokevirtual 173, 3) := by decide +kernel
theorem dX11_rewardOf_41 : decode cX11_rewardOf 41 = .ok (.isub, 1) := by decide +kernel
theorem dX11_rewardOf_42 : decode cX11_rewardOf 42 = .ok (.ireturn, 1) := by decide +kernel
theorem dX11_pays_0 : decode cX11_pays 0 = .ok (.iload_n 1, 1) := by decide +kernel
theorem dX11_pays_1 : decode cX11_pays 1 = .ok (.ifCond .lt 10, 3) := by decide +kernel
theorem dX11_pays_4 : decode cX11_pays 4 = .ok (.iload_n 1, 1) := by decide +kernel
theorem dX11_pays_5 : decode cX11_pays 5 = .ok (.sipush 999, 3) := by decide +kernel
theorem dX11_pays_8 : decode cX11_pays 8 = .ok (.if_icmp .le 5, 3) := by decide +kernel
theorem dX11_pays_11 : decode cX11_pays 11 = .ok (.iconst (-1), 1) := by decide +kernel
theorem dX11_pays_12 : decode cX11_pays 12 = .ok (.ireturn, 1) := by decide +kernel
theorem dX11_pays_13 : decode cX11_pays 13 = .ok (.iconst 0, 1) := by decide +kernel
theorem dX11_pays_14 : decode cX11_pays 14 = .ok (.istore_n 2, 1) := by decide +kernel
theorem dX11_pays_15 : decode cX11_pays 15 = .ok (.iload_n 2, 1) := by decide +kernel
theorem dX11_pays_16 : decode cX11_pays 16 = .ok (.aload_n 0, 1) := by decide +kernel
theorem dX11_pays_17 : decode cX11_pays 17 = .ok (.getfield 19, 3) := by decide +kernel
theorem dX11_pays_20 : decode cX11_pays 20 = .ok (.invokevirtual 304, 3) := by decide +kernel
theorem dX11_pays_23 : decode cX11_pays 23 = .ok (.if_icmp .ge 29, 3) := by decide +kernel
theorem dX11_pays_26 : decode cX11_pays 26 = .ok (.iload_n 2, 1) := by decide +kernel
theorem dX11_pays_27 : decode cX11_pays 27 = .ok (.aload_n 0, 1) := by decide +kernel
theorem dX11_pays_28 : decode cX11_pays 28 = .ok (.getfield 87, 3) := by decide +kernel
theorem dX11_pays_31 : decode cX11_pays 31 = .ok (.arraylength, 1) := by decide +kernel
theorem dX11_pays_32 : decode cX11_pays 32 = .ok (.if_icmp .ge 20, 3) := by decide +kernel
theorem dX11_pays_35 : decode cX11_pays 35 = .ok (.aload_n 0, 1) := by decide +kernel
theorem dX11_pays_36 : decode cX11_pays 36 = .ok (.getfield 87, 3) := by decide +kernel
theorem dX11_pays_39 : decode cX11_pays 39 = .ok (.iload_n 2, 1) := by decide +kernel
theorem dX11_pays_40 : decode cX11_pays 40 = .ok (.aload_n 0, 1) := by decide +kernel
theorem dX11_pays_41 : decode cX11_pays 41 = .ok (.iload_n 2, 1) := by decide +kernel
theorem dX11_pays_42 : decode cX11_pays 42 = .ok (.invokevirtual 351, 3) := by decide +kernel
theorem dX11_pays_45 : decode cX11_pays 45 = .ok (.iastore, 1) := by decide +kernel
theorem dX11_pays_46 : decode cX11_pays 46 = .ok (.iinc 2 1, 3) := by decide +kernel
theorem dX11_pays_49 : decode cX11_pays 49 = .ok (.goto (-34), 3) := by decide +kernel
theorem dX11_pays_52 : decode cX11_pays 52 = .ok (.ldc_w 326, 3) := by decide +kernel
theorem dX11_pays_55 : decode cX11_pays 55 = .ok (.istore_n 2, 1) := by decide +kernel
theorem dX11_pays_56 : decode cX11_pays 56 = .ok (.iconst 0, 1) := by decide +kernel
theorem dX11_pays_57 : decode cX11_pays 57 = .ok (.istore_n 3, 1) := by decide +kernel
theorem dX11_pays_58 : decode cX11_pays 58 = .ok (.iconst 0, 1) := by decide +kernel
theorem dX11_pays_59 : decode cX11_pays 59 = .ok (.istore 4, 2) := by decide +kernel
theorem dX11_pays_61 : decode cX11_pays 61 = .ok (.iconst 0, 1) := by decide +kernel
theorem dX11_pays_62 : decode cX11_pays 62 = .ok (.istore 5, 2) := by decide +kernel
theorem dX11_pays_64 : decode cX11_pays 64 = .ok (.iload 5, 2) := by decide +kernel
theorem dX11_pays_66 : decode cX11_pays 66 = .ok (.iconst 1, 1) := by decide +kernel
theorem dX11_pays_67 : decode cX11_pays 67 = .ok (.aload_n 0, 1) := by decide +kernel
theorem dX11_pays_68 : decode cX11_pays 68 = .ok (.getfield 19, 3) := by decide +kernel
theorem dX11_pays_71 : decode cX11_pays 71 = .ok (.invokevirtual 304, 3) := by decide +kernel
theorem dX11_pays_74 : decode cX11_pays 74 = .ok (.ishl, 1) := by decide +kernel
theorem dX11_pays_75 : decode cX11_pays 75 = .ok (.if_icmp .ge 84, 3) := by decide +kernel
theorem dX11_pays_78 : decode cX11_pays 78 = .ok (.aload_n 0, 1) := by decide +kernel
theorem dX11_pays_79 : decode cX11_pays 79 = .ok (.iload 5, 2) := by decide +kernel
theorem dX11_pays_81 : decode cX11_pays 81 = .ok (.invokevirtual 354, 3) := by decide +kernel
theorem dX11_pays_84 : decode cX11_pays 84 = .ok (.istore 6, 2) := by decide +kernel
theorem dX11_pays_86 : decode cX11_pays 86 = .ok (.iload 6, 2) := by decide +kernel
theorem dX11_pays_88 : decode cX11_pays 88 = .ok (.iload_n 1, 1) := by decide +kernel
theorem dX11_pays_89 : decode cX11_pays 89 = .ok (.if_icmp .le 6, 3) := by decide +kernel
theorem dX11_pays_92 : decode cX11_pays 92 = .ok (.goto 61, 3) := by decide +kernel
theorem dX11_pays_95 : decode cX11_pays 95 = .ok (.aload_n 0, 1) := by decide +kernel
theorem dX11_pays_96 : decode cX11_pays 96 = .ok (.getfield 53, 3) := by decide +kernel
theorem dX11_pays_99 : decode cX11_pays 99 = .ok (.aload_n 0, 1) := by decide +kernel
theorem dX11_pays_100 : decode cX11_pays 100 = .ok (.getfield 49, 3) := by decide +kernel
theorem dX11_pays_103 : decode cX11_pays 103 = .ok (.invokevirtual 198, 3) := by decide +kernel
theorem dX11_pays_106 : decode cX11_pays 106 = .ok (.aload_n 0, 1) := by decide +kernel
theorem dX11_pays_107 : decode cX11_pays 107 = .ok (.getfield 42, 3) := by decide +kernel
theorem dX11_pays_110 : decode cX11_pays 110 = .ok (.aload_n 0, 1) := by decide +kernel
theorem dX11_pays_111 : decode cX11_pays 111 = .ok (.getfield 97, 3) := by decide +kernel
theorem dX11_pays_114 : decode cX11_pays 114 = .ok (.aload_n 0, 1) := by decide +kernel
theorem dX11_pays_115 : decode cX11_pays 115 = .ok (.getfield 53, 3) := by decide +kernel
theorem dX11_pays_118 : decode cX11_pays 118 = .ok (.iload 5, 2) := by decide +kernel
theorem dX11_pays_120 : decode cX11_pays 120 = .ok (.invokevirtual 288, 3) := by decide +kernel
theorem dX11_pays_123 : decode cX11_pays 123 = .ok (.istore 7, 2) := by decide +kernel
theorem dX11_pays_125 : decode cX11_pays 125 = .ok (.iload 7, 2) := by decide +kernel
theorem dX11_pays_127 : decode cX11_pays 127 = .ok (.iload_n 2, 1) := by decide +kernel
theorem dX11_pays_128 : decode cX11_pays 128 = .ok (.if_icmp .lt 15, 3) := by decide +kernel
theorem dX11_pays_131 : decode cX11_pays 131 = .ok (.iload 7, 2) := by decide +kernel
theorem dX11_pays_133 : decode cX11_pays 133 = .ok (.iload_n 2, 1) := by decide +kernel
theorem dX11_pays_134 : decode cX11_pays 134 = .ok (.if_icmp .ne 19, 3) := by decide +kernel
theorem dX11_pays_137 : decode cX11_pays 137 = .ok (.iload 6, 2) := by decide +kernel
theorem dX11_pays_139 : decode cX11_pays 139 = .ok (.iload_n 3, 1) := by decide +kernel
theorem dX11_pays_140 : decode cX11_pays 140 = .ok (.if_icmp .ge 13, 3) := by decide +kernel
theorem dX11_pays_143 : decode cX11_pays 143 = .ok (.iload 7, 2) := by decide +kernel
theorem dX11_pays_145 : decode cX11_pays 145 = .ok (.istore_n 2, 1) := by decide +kernel
theorem dX11_pays_146 : decode cX11_pays 146 = .ok (.iload 6, 2) := by decide +kernel
theorem dX11_pays_148 : decode cX11_pays 148 = .ok (.istore_n 3, 1) := by decide +kernel
theorem dX11_pays_149 : decode cX11_pays 149 = .ok (.iload 5, 2) := by decide +kernel
theorem dX11_pays_151 : decode cX11_pays 151 = .ok (.istore 4, 2) := by decide +kernel
theorem dX11_pays_153 : decode cX11_pays 153 = .ok (.iinc 5 1, 3) := by decide +kernel
theorem dX11_pays_156 : decode cX11_pays 156 = .ok (.goto (-92), 3) := by decide +kernel
theorem dX11_pays_159 : decode cX11_pays 159 = .ok (.aload_n 0, 1) := by decide +kernel
theorem dX11_pays_160 : decode cX11_pays 160 = .ok (.getfield 83, 3) := by decide +kernel
theorem dX11_pays_163 : decode cX11_pays 163 = .ok (.iload 4, 2) := by decide +kernel
theorem dX11_pays_165 : decode cX11_pays 165 = .ok (.i2l, 1) := by decide +kernel
theorem dX11_pays_166 : decode cX11_pays 166 = .ok (.iload_n 3, 1) := by decide +kernel
theorem dX11_pays_167 : decode cX11_pays 167 = .ok (.i2l, 1) := by decide +kernel
theorem dX11_pays_168 : decode cX11_pays 168 = .ok (.invokevirtual 223, 3) := by decide +kernel
theorem dX11_pays_171 : decode cX11_pays 171 = .ok (.iload_n 2, 1) := by decide +kernel
theorem dX11_pays_172 : decode cX11_pays 172 = .ok (.ireturn, 1) := by decide +kernel
theorem dX11_coinsFor_0 : decode cX11_coinsFor 0 = .ok (.iconst 0, 1) := by decide +kernel
theorem dX11_coinsFor_1 : decode cX11_coinsFor 1 = .ok (.istore_n 2, 1) := by decide +kernel
theorem dX11_coinsFor_2 : decode cX11_coinsFor 2 = .ok (.iconst 0, 1) := by decide +kernel
theorem dX11_coinsFor_3 : decode cX11_coinsFor 3 = .ok (.istore_n 3, 1) := by decide +kernel
theorem dX11_coinsFor_4 : decode cX11_coinsFor 4 = .ok (.iload_n 3, 1) := by decide +kernel
theorem dX11_coinsFor_5 : decode cX11_coinsFor 5 = .ok (.aload_n 0, 1) := by decide +kernel
theorem dX11_coinsFor_6 : decode cX11_coinsFor 6 = .ok (.getfield 19, 3) := by decide +kernel
theorem dX11_coinsFor_9 : decode cX11_coinsFor 9 = .ok (.invokevirtual 304, 3) := by decide +kernel
theorem dX11_coinsFor_12 : decode cX11_coinsFor 12 = .ok (.if_icmp .ge 35, 3) := by decide +kernel
theorem dX11_coinsFor_15 : decode cX11_coinsFor 15 = .ok (.iload_n 3, 1) := by decide +kernel
theorem dX11_coinsFor_16 : decode cX11_coinsFor 16 = .ok (.aload_n 0, 1) := by decide +kernel
theorem dX11_coinsFor_17 : decode cX11_coinsFor 17 = .ok (.getfield 87, 3) := by decide +kernel
theorem dX11_coinsFor_20 : decode cX11_coinsFor 20 = .ok (.arraylength, 1) := by decide +kernel
theorem dX11_coinsFor_21 : decode cX11_coinsFor 21 = .ok (.if_icmp .ge 26, 3) := by decide +kernel
theorem dX11_coinsFor_24 : decode cX11_coinsFor 24 = .ok (.iload_n 1, 1) := by decide +kernel
theorem dX11_coinsFor_25 : decode cX11_coinsFor 25 = .ok (.iload_n 3, 1) := by decide +kernel
theorem dX11_coinsFor_26 : decode cX11_coinsFor 26 = .ok (.ishr, 1) := by decide +kernel
theorem dX11_coinsFor_27 : decode cX11_coinsFor 27 = .ok (.iconst 1, 1) := by decide +kernel
theorem dX11_coinsFor_28 : decode cX11_coinsFor 28 = .ok (.iand, 1) := by decide +kernel
theorem dX11_coinsFor_29 : decode cX11_coinsFor 29 = .ok (.ifCond .eq 12, 3) := by decide +kernel
theorem dX11_coinsFor_32 : decode cX11_coinsFor 32 = .ok (.iload_n 2, 1) := by decide +kernel
theorem dX11_coinsFor_33 : decode cX11_coinsFor 33 = .ok (.aload_n 0, 1) := by decide +kernel
theorem dX11_coinsFor_34 : decode cX11_coinsFor 34 = .ok (.getfield 87, 3) := by decide +kernel
theorem dX11_coinsFor_37 : decode cX11_coinsFor 37 = .ok (.iload_n 3, 1) := by decide +kernel
theorem dX11_coinsFor_38 : decode cX11_coinsFor 38 = .ok (.iaload, 1) := by decide +kernel
theorem dX11_coinsFor_39 : decode cX11_coinsFor 39 = .ok (.iadd, 1) := by decide +kernel
theorem dX11_coinsFor_40 : decode cX11_coinsFor 40 = .ok (.istore_n 2, 1) := by decide +kernel
theorem dX11_coinsFor_41 : decode cX11_coinsFor 41 = .ok (.iinc 3 1, 3) := by decide +kernel
theorem dX11_coinsFor_44 : decode cX11_coinsFor 44 = .ok (.goto (-40), 3) := by decide +kernel
theorem dX11_coinsFor_47 : decode cX11_coinsFor 47 = .ok (.iload_n 2, 1) := by decide +kernel
theorem dX11_coinsFor_48 : decode cX11_coinsFor 48 = .ok (.ireturn, 1) := by decide +kernel
theorem dX11_caught_0 : decode cX11_caught 0 = .ok (.iload_n 1, 1) := by decide +kernel
theorem dX11_caught_1 : decode cX11_caught 1 = .ok (.iconst 1, 1) := by decide +kernel
theorem dX11_caught_2 : decode cX11_caught 2 = .ok (.if_icmp .lt 29, 3) := by decide +kernel
theorem dX11_caught_5 : decode cX11_caught 5 = .ok (.iload_n 1, 1) := by decide +kernel
theorem dX11_caught_6 : decode cX11_caught 6 = .ok (.bipush 10, 2) := by decide +kernel
theorem dX11_caught_8 : decode cX11_caught 8 = .ok (.if_icmp .gt 23, 3) := by decide +kernel
theorem dX11_caught_11 : decode cX11_caught 11 = .ok (.iload_n 2, 1) := by decide +kernel
theorem dX11_caught_12 : decode cX11_caught 12 = .ok (.ifCond .lt 19, 3) := by decide +kernel
theorem dX11_caught_15 : decode cX11_caught 15 = .ok (.iload_n 2, 1) := by decide +kernel
theorem dX11_caught_16 : decode cX11_caught 16 = .ok (.bipush 10, 2) := by decide +kernel
theorem dX11_caught_18 : decode cX11_caught 18 = .ok (.if_icmp .gt 13, 3) := by decide +kernel
theorem dX11_caught_21 : decode cX11_caught 21 = .ok (.iload_n 3, 1) := by decide +kernel
theorem dX11_caught_22 : decode cX11_caught 22 = .ok (.ifCond .lt 9, 3) := by decide +kernel
theorem dX11_caught_25 : decode cX11_caught 25 = .ok (.iload_n 3, 1) := by decide +kernel
theorem dX11_caught_26 : decode cX11_caught 26 = .ok (.bipush 10, 2) := by decide +kernel
theorem dX11_caught_28 : decode cX11_caught 28 = .ok (.if_icmp .le 5, 3) := by decide +kernel
theorem dX11_caught_31 : decode cX11_caught 31 = .ok (.iconst (-1), 1) := by decide +kernel
theorem dX11_caught_32 : decode cX11_caught 32 = .ok (.ireturn, 1) := by decide +kernel
theorem dX11_caught_33 : decode cX11_caught 33 = .ok (.lconst 0, 1) := by decide +kernel
theorem dX11_caught_34 : decode cX11_caught 34 = .ok (.lstore 4, 2) := by decide +kernel
theorem dX11_caught_36 : decode cX11_caught 36 = .ok (.iload_n 2, 1) := by decide +kernel
theorem dX11_caught_37 : decode cX11_caught 37 = .ok (.istore 6, 2) := by decide +kernel
theorem dX11_caught_39 : decode cX11_caught 39 = .ok (.iload 6, 2) := by decide +kernel
theorem dX11_caught_41 : decode cX11_caught 41 = .ok (.iload_n 1, 1) := by decide +kernel
theorem dX11_caught_42 : decode cX11_caught 42 = .ok (.if_icmp .gt 39, 3) := by decide +kernel
theorem dX11_caught_45 : decode cX11_caught 45 = .ok (.lload 4, 2) := by decide +kernel
theorem dX11_caught_47 : decode cX11_caught 47 = .ok (.iload_n 1, 1) := by decide +kernel
theorem dX11_caught_48 : decode cX11_caught 48 = .ok (.iload 6, 2) := by decide +kernel
theorem dX11_caught_50 : decode cX11_caught 50 = .ok (.invokestatic 357, 3) := by decide +kernel
theorem dX11_caught_53 : decode cX11_caught 53 = .ok (.iload_n 3, 1) := by decide +kernel
theorem dX11_caught_54 : decode cX11_caught 54 = .ok (.iload 6, 2) := by decide +kernel
theorem dX11_caught_56 : decode cX11_caught 56 = .ok (.invokestatic 361, 3) := by decide +kernel
theorem dX11_caught_59 : decode cX11_caught 59 = .ok (.lmul, 1) := by decide +kernel
theorem dX11_caught_60 : decode cX11_caught 60 = .ok (.bipush 10, 2) := by decide +kernel
theorem dX11_caught_62 : decode cX11_caught 62 = .ok (.iload_n 3, 1) := by decide +kernel
theorem dX11_caught_63 : decode cX11_caught 63 = .ok (.isub, 1) := by decide +kernel
theorem dX11_caught_64 : decode cX11_caught 64 = .ok (.iload_n 1, 1) := by decide +kernel
theorem dX11_caught_65 : decode cX11_caught 65 = .ok (.iload 6, 2) := by decide +kernel
theorem dX11_caught_67 : decode cX11_caught 67 = .ok (.isub, 1) := by decide +kernel
theorem dX11_caught_68 : decode cX11_caught 68 = .ok (.invokestatic 361, 3) := by decide +kernel
theorem dX11_caught_71 : decode cX11_caught 71 = .ok (.lmul, 1) := by decide +kernel
theorem dX11_caught_72 : decode cX11_caught 72 = .ok (.ladd, 1) := by decide +kernel
theorem dX11_caught_73 : decode cX11_caught 73 = .ok (.lstore 4, 2) := by decide +kernel
theorem dX11_caught_75 : decode cX11_caught 75 = .ok (.iinc 6 1, 3) := by decide +kernel
theorem dX11_caught_78 : decode cX11_caught 78 = .ok (.goto (-39), 3) := by decide +kernel
theorem dX11_caught_81 : decode cX11_caught 81 = .ok (.bipush 10, 2) := by decide +kernel
theorem dX11_caught_83 : decode cX11_caught 83 = .ok (.iload_n 1, 1) := by decide +kernel
theorem dX11_caught_84 : decode cX11_caught 84 = .ok (.invokestatic 361, 3) := by decide +kernel
theorem dX11_caught_87 : decode cX11_caught 87 = .ok (.lstore 6, 2) := by decide +kernel
theorem dX11_caught_89 : decode cX11_caught 89 = .ok (.lload 4, 2) := by decide +kernel
theorem dX11_caught_91 : decode cX11_caught 91 = .ok (.lload 6, 2) := by decide +kernel
theorem dX11_caught_93 : decode cX11_caught 93 = .ok (.invokestatic 364, 3) := by decide +kernel
theorem dX11_caught_96 : decode cX11_caught 96 = .ok (.lstore 8, 2) := by decide +kernel
theorem dX11_caught_98 : decode cX11_caught 98 = .ok (.lload 8, 2) := by decide +kernel
theorem dX11_caught_100 : decode cX11_caught 100 = .ok (.lconst 0, 1) := by decide +kernel
theorem dX11_caught_101 : decode cX11_caught 101 = .ok (.lcmp, 1) := by decide +kernel
theorem dX11_caught_102 : decode cX11_caught 102 = .ok (.ifCond .le 17, 3) := by decide +kernel
theorem dX11_caught_105 : decode cX11_caught 105 = .ok (.lload 4, 2) := by decide +kernel
theorem dX11_caught_107 : decode cX11_caught 107 = .ok (.lload 8, 2) := by decide +kernel
theorem dX11_caught_109 : decode cX11_caught 109 = .ok (.ldiv, 1) := by decide +kernel
theorem dX11_caught_110 : decode cX11_caught 110 = .ok (.lstore 4, 2) := by decide +kernel
theorem dX11_caught_112 : decode cX11_caught 112 = .ok (.lload 6, 2) := by decide +kernel
theorem dX11_caught_114 : decode cX11_caught 114 = .ok (.lload 8, 2) := by decide +kernel
theorem dX11_caught_116 : decode cX11_caught 116 = .ok (.ldiv, 1) := by decide +kernel
theorem dX11_caught_117 : decode cX11_caught 117 = .ok (.lstore 6, 2) := by decide +kernel
theorem dX11_caught_119 : decode cX11_caught 119 = .ok (.aload_n 0, 1) := by decide +kernel
theorem dX11_caught_120 : decode cX11_caught 120 = .ok (.getfield 83, 3) := by decide +kernel
theorem dX11_caught_123 : decode cX11_caught 123 = .ok (.lload 4, 2) := by decide +kernel
theorem dX11_caught_125 : decode cX11_caught 125 = .ok (.lload 6, 2) := by decide +kernel
theorem dX11_caught_127 : decode cX11_caught 127 = .ok (.invokevirtual 223, 3) := by decide +kernel
theorem dX11_caught_130 : decode cX11_caught 130 = .ok (.iconst 0, 1) := by decide +kernel
theorem dX11_caught_131 : decode cX11_caught 131 = .ok (.ireturn, 1) := by decide +kernel
theorem dX11_choices_0 : decode cX11_choices 0 = .ok (.lconst 1, 1) := by decide +kernel
theorem dX11_choices_1 : decode cX11_choices 1 = .ok (.lstore_n 2, 1) := by decide +kernel
theorem dX11_choices_2 : decode cX11_choices 2 = .ok (.iconst 1, 1) := by decide +kernel
theorem dX11_choices_3 : decode cX11_choices 3 = .ok (.istore 4, 2) := by decide +kernel
theorem dX11_choices_5 : decode cX11_choices 5 = .ok (.iload 4, 2) := by decide +kernel
theorem dX11_choices_7 : decode cX11_choices 7 = .ok (.iload_n 1, 1) := by decide +kernel
theorem dX11_choices_8 : decode cX11_choices 8 = .ok (.if_icmp .gt 23, 3) := by decide +kernel
theorem dX11_choices_11 : decode cX11_choices 11 = .ok (.lload_n 2, 1) := by decide +kernel
theorem dX11_choices_12 : decode cX11_choices 12 = .ok (.iload_n 0, 1) := by decide +kernel
theorem dX11_choices_13 : decode cX11_choices 13 = .ok (.iload_n 1, 1) := by decide +kernel
theorem dX11_choices_14 : decode cX11_choices 14 = .ok (.isub, 1) := by decide +kernel
theorem dX11_choices_15 : decode cX11_choices 15 = .ok (.iload 4, 2) := by decide +kernel
theorem dX11_choices_17 : decode cX11_choices 17 = .ok (.iadd, 1) := by decide +kernel
theorem dX11_choices_18 : decode cX11_choices 18 = .ok (.i2l, 1) := by decide +kernel
theorem dX11_choices_19 : decode cX11_choices 19 = .ok (.lmul, 1) := by decide +kernel
theorem dX11_choices_20 : decode cX11_choices 20 = .ok (.iload 4, 2) := by decide +kernel
theorem dX11_choices_22 : decode cX11_choices 22 = .ok (.i2l, 1) := by decide +kernel
theorem dX11_choices_23 : decode cX11_choices 23 = .ok (.ldiv, 1) := by decide +kernel
theorem dX11_choices_24 : decode cX11_choices 24 = .ok (.lstore_n 2, 1) := by decide +kernel
theorem dX11_choices_25 : decode cX11_choices 25 = .ok (.iinc 4 1, 3) := by decide +kernel
theorem dX11_choices_28 : decode cX11_choices 28 = .ok (.goto (-23), 3) := by decide +kernel
theorem dX11_choices_31 : decode cX11_choices 31 = .ok (.lload_n 2, 1) := by decide +kernel
theorem dX11_choices_32 : decode cX11_choices 32 = .ok (.lreturn, 1) := by decide +kernel
theorem dX11_power_0 : decode cX11_power 0 = .ok (.lconst 1, 1) := by decide +kernel
theorem dX11_power_1 : decode cX11_power 1 = .ok (.lstore_n 2, 1) := by decide +kernel
theorem dX11_power_2 : decode cX11_power 2 = .ok (.iconst 0, 1) := by decide +kernel
theorem dX11_power_3 : decode cX11_power 3 = .ok (.istore 4, 2) := by decide +kernel
theorem dX11_power_5 : decode cX11_power 5 = .ok (.iload 4, 2) := by decide +kernel
theorem dX11_power_7 : decode cX11_power 7 = .ok (.iload_n 1, 1) := by decide +kernel
theorem dX11_power_8 : decode cX11_power 8 = .ok (.if_icmp .ge 14, 3) := by decide +kernel
theorem dX11_power_11 : decode cX11_power 11 = .ok (.lload_n 2, 1) := by decide +kernel
theorem dX11_power_12 : decode cX11_power 12 = .ok (.iload_n 0, 1) := by decide +kernel
theorem dX11_power_13 : decode cX11_power 13 = .ok (.i2l, 1) := by decide +kernel
theorem dX11_power_14 : decode cX11_power 14 = .ok (.lmul, 1) := by decide +kernel
theorem dX11_power_15 : decode cX11_power 15 = .ok (.lstore_n 2, 1) := by decide +kernel
theorem dX11_power_16 : decode cX11_power 16 = .ok (.iinc 4 1, 3) := by decide +kernel
theorem dX11_power_19 : decode cX11_power 19 = .ok (.goto (-14), 3) := by decide +kernel
theorem dX11_power_22 : decode cX11_power 22 = .ok (.lload_n 2, 1) := by decide +kernel
theorem dX11_power_23 : decode cX11_power 23 = .ok (.lreturn, 1) := by decide +kernel
theorem dX11_commonDivisor_0 : decode cX11_commonDivisor 0 = .ok (.iconst 0, 1) := by decide +kernel
theorem dX11_commonDivisor_1 : decode cX11_commonDivisor 1 = .ok (.istore 4, 2) := by decide +kernel
theorem dX11_commonDivisor_3 : decode cX11_commonDivisor 3 = .ok (.iload 4, 2) := by decide +kernel
theorem dX11_commonDivisor_5 : decode cX11_commonDivisor 5 = .ok (.sipush 1000, 3) := by decide +kernel
theorem dX11_commonDivisor_8 : decode cX11_commonDivisor 8 = .ok (.if_icmp .ge 25, 3) := by decide +kernel
theorem dX11_commonDivisor_11 : decode cX11_commonDivisor 11 = .ok (.lload_n 2, 1) := by decide +kernel
theorem dX11_commonDivisor_12 : decode cX11_commonDivisor 12 = .ok (.lconst 0, 1) := by decide +kernel
theorem dX11_commonDivisor_13 : decode cX11_commonDivisor 13 = .ok (.lcmp, 1) := by decide +kernel
theorem dX11_commonDivisor_14 : decode cX11_commonDivisor 14 = .ok (.ifCond .eq 19, 3) := by decide +kernel
theorem dX11_commonDivisor_17 : decode cX11_commonDivisor 17 = .ok (.lload_n 0, 1) := by decide +kernel
theorem dX11_commonDivisor_18 : decode cX11_commonDivisor 18 = .ok (.lload_n 2, 1) := by decide +kernel
theorem dX11_commonDivisor_19 : decode cX11_commonDivisor 19 = .ok (.lrem, 1) := by decide +kernel
theorem dX11_commonDivisor_20 : decode cX11_commonDivisor 20 = .ok (.lstore 5, 2) := by decide +kernel
theorem dX11_commonDivisor_22 : decode cX11_commonDivisor 22 = .ok (.lload_n 2, 1) := by decide +kernel
theorem dX11_commonDivisor_23 : decode cX11_commonDivisor 23 = .ok (.lstore_n 0, 1) := by decide +kernel
theorem dX11_commonDivisor_24 : decode cX11_commonDivisor 24 = .ok (.lload 5, 2) := by decide +kernel
theorem dX11_commonDivisor_26 : decode cX11_commonDivisor 26 = .ok (.lstore_n 2, 1) := by decide +kernel
theorem dX11_commonDivisor_27 : decode cX11_commonDivisor 27 = .ok (.iinc 4 1, 3) := by decide +kernel
theorem dX11_commonDivisor_30 : decode cX11_commonDivisor 30 = .ok (.goto (-27), 3) := by decide +kernel
theorem dX11_commonDivisor_33 : decode cX11_commonDivisor 33 = .ok (.lload_n 0, 1) := by decide +kernel
theorem dX11_commonDivisor_34 : decode cX11_commonDivisor 34 = .ok (.lreturn, 1) := by decide +kernel
theorem dX11_lasts_0 : decode cX11_lasts 0 = .ok (.iload_n 1, 1) := by decide +kernel
theorem dX11_lasts_1 : decode cX11_lasts 1 = .ok (.ifCond .lt 19, 3) := by decide +kernel
theorem dX11_lasts_4 : decode cX11_lasts 4 = .ok (.iload_n 1, 1) := by decide +kernel
theorem dX11_lasts_5 : decode cX11_lasts 5 = .ok (.bipush 10, 2) := by decide +kernel
theorem dX11_lasts_7 : decode cX11_lasts 7 = .ok (.if_icmp .gt 13, 3) := by decide +kernel
theorem dX11_lasts_10 : decode cX11_lasts 10 = .ok (.iload_n 2, 1) := by decide +kernel
theorem dX11_lasts_11 : decode cX11_lasts 11 = .ok (.ifCond .lt 9, 3) := by decide +kernel
theorem dX11_lasts_14 : decode cX11_lasts 14 = .ok (.iload_n 2, 1) := by decide +kernel
theorem dX11_lasts_15 : decode cX11_lasts 15 = .ok (.bipush 100, 2) := by decide +kernel
theorem dX11_lasts_17 : decode cX11_lasts 17 = .ok (.if_icmp .le 5, 3) := by decide +kernel
theorem dX11_lasts_20 : decode cX11_lasts 20 = .ok (.iconst (-1), 1) := by decide +kernel
theorem dX11_lasts_21 : decode cX11_lasts 21 = .ok (.ireturn, 1) := by decide +kernel
theorem dX11_lasts_22 : decode cX11_lasts 22 = .ok (.iconst 0, 1) := by decide +kernel
theorem dX11_lasts_23 : decode cX11_lasts 23 = .ok (.istore_n 3, 1) := by decide +kernel
theorem dX11_lasts_24 : decode cX11_lasts 24 = .ok (.iconst 1, 1) := by decide +kernel
theorem dX11_lasts_25 : decode cX11_lasts 25 = .ok (.istore 4, 2) := by decide +kernel
theorem dX11_lasts_27 : decode cX11_lasts 27 = .ok (.iload 4, 2) := by decide +kernel
theorem dX11_lasts_29 : decode cX11_lasts 29 = .ok (.bipush 12, 2) := by decide +kernel
theorem dX11_lasts_31 : decode cX11_lasts 31 = .ok (.if_icmp .gt 39, 3) := by decide +kernel
theorem dX11_lasts_34 : decode cX11_lasts 34 = .ok (.ldc2_w 368, 3) := by decide +kernel
theorem dX11_lasts_37 : decode cX11_lasts 37 = .ok (.bipush 10, 2) := by decide +kernel
theorem dX11_lasts_39 : decode cX11_lasts 39 = .ok (.iload_n 1, 1) := by decide +kernel
theorem dX11_lasts_40 : decode cX11_lasts 40 = .ok (.isub, 1) := by decide +kernel
theorem dX11_lasts_41 : decode cX11_lasts 41 = .ok (.iload 4, 2) := by decide +kernel
theorem dX11_lasts_43 : decode cX11_lasts 43 = .ok (.invokestatic 361, 3) := by decide +kernel
theorem dX11_lasts_46 : decode cX11_lasts 46 = .ok (.lmul, 1) := by decide +kernel
theorem dX11_lasts_47 : decode cX11_lasts 47 = .ok (.iload_n 2, 1) := by decide +kernel
theorem dX11_lasts_48 : decode cX11_lasts 48 = .ok (.i2l, 1) := by decide +kernel
theorem dX11_lasts_49 : decode cX11_lasts 49 = .ok (.bipush 10, 2) := by decide +kernel
theorem dX11_lasts_51 : decode cX11_lasts 51 = .ok (.iload 4, 2) := by decide +kernel
theorem dX11_lasts_53 : decode cX11_lasts 53 = .ok (.invokestatic 361, 3) := by decide +kernel
theorem dX11_lasts_56 : decode cX11_lasts 56 = .ok (.lmul, 1) := by decide +kernel
theorem dX11_lasts_57 : decode cX11_lasts 57 = .ok (.lcmp, 1) := by decide +kernel
theorem dX11_lasts_58 : decode cX11_lasts 58 = .ok (.ifCond .lt 6, 3) := by decide +kernel
theorem dX11_lasts_61 : decode cX11_lasts 61 = .ok (.iload 4, 2) := by decide +kernel
theorem dX11_lasts_63 : decode cX11_lasts 63 = .ok (.istore_n 3, 1) := by decide +kernel
theorem dX11_lasts_64 : decode cX11_lasts 64 = .ok (.iinc 4 1, 3) := by decide +kernel
theorem dX11_lasts_67 : decode cX11_lasts 67 = .ok (.goto (-40), 3) := by decide +kernel
theorem dX11_lasts_70 : decode cX11_lasts 70 = .ok (.iload_n 3, 1) := by decide +kernel
theorem dX11_lasts_71 : decode cX11_lasts 71 = .ok (.ireturn, 1) := by decide +kernel
theorem dX11_heard_0 : decode cX11_heard 0 = .ok (.aload_n 0, 1) := by decide +kernel
theorem dX11_heard_1 : decode cX11_heard 1 = .ok (.getfield 76, 3) := by decide +kernel
theorem dX11_heard_4 : decode cX11_heard 4 = .ok (.iload_n 1, 1) := by decide +kernel
theorem dX11_heard_5 : decode cX11_heard 5 = .ok (.iload_n 2, 1) := by decide +kernel
theorem dX11_heard_6 : decode cX11_heard 6 = .ok (.invokevirtual 370, 3) := by decide +kernel
theorem dX11_heard_9 : decode cX11_heard 9 = .ok (.ifCond .eq 13, 3) := by decide +kernel
theorem dX11_heard_12 : decode cX11_heard 12 = .ok (.aload_n 0, 1) := by decide +kernel
theorem dX11_heard_13 : decode cX11_heard 13 = .ok (.getfield 76, 3) := by decide +kernel
theorem dX11_heard_16 : decode cX11_heard 16 = .ok (.invokevirtual 374, 3) := by decide +kernel
theorem dX11_heard_19 : decode cX11_heard 19 = .ok (.goto 4, 3) := by decide +kernel
theorem dX11_heard_22 : decode cX11_heard 22 = .ok (.iconst (-1), 1) := by decide +kernel
theorem dX11_heard_23 : decode cX11_heard 23 = .ok (.ireturn, 1) := by decide +kernel
theorem dX11_forget_0 : decode cX11_forget 0 = .ok (.aload_n 0, 1) := by decide +kernel
theorem dX11_forget_1 : decode cX11_forget 1 = .ok (.getfield 76, 3) := by decide +kernel
theorem dX11_forget_4 : decode cX11_forget 4 = .ok (.invokevirtual 374, 3) := by decide +kernel
theorem dX11_forget_7 : decode cX11_forget 7 = .ok (.istore_n 1, 1) := by decide +kernel
theorem dX11_forget_8 : decode cX11_forget 8 = .ok (.aload_n 0, 1) := by decide +kernel
theorem dX11_forget_9 : decode cX11_forget 9 = .ok (.getfield 76, 3) := by decide +kernel
theorem dX11_forget_12 : decode cX11_forget 12 = .ok (.invokevirtual 375, 3) := by decide +kernel
theorem dX11_forget_15 : decode cX11_forget 15 = .ok (.iload_n 1, 1) := by decide +kernel
theorem dX11_forget_16 : decode cX11_forget 16 = .ok (.ireturn, 1) := by decide +kernel
theorem dX11_fits_0 : decode cX11_fits 0 = .ok (.aload_n 0, 1) := by decide +kernel
theorem dX11_fits_1 : decode cX11_fits 1 = .ok (.invokevirtual 376, 3) := by decide +kernel
theorem dX11_fits_4 : decode cX11_fits 4 = .ok (.istore_n 1, 1) := by decide +kernel
theorem dX11_fits_5 : decode cX11_fits 5 = .ok (.aload_n 0, 1) := by decide +kernel
theorem dX11_fits_6 : decode cX11_fits 6 = .ok (.getfield 83, 3) := by decide +kernel
theorem dX11_fits_9 : decode cX11_fits 9 = .ok (.iload_n 1, 1) := by decide +kernel
theorem dX11_fits_10 : decode cX11_fits 10 = .ok (.invokestatic 271, 3) := by decide +kernel
theorem dX11_fits_13 : decode cX11_fits 13 = .ok (.i2l, 1) := by decide +kernel
theorem dX11_fits_14 : decode cX11_fits 14 = .ok (.aload_n 0, 1) := by decide +kernel
theorem dX11_fits_15 : decode cX11_fits 15 = .ok (.getfield 19, 3) := by decide +kernel
theorem dX11_fits_18 : decode cX11_fits 18 = .ok (.iload_n 1, 1) := by decide +kernel
theorem dX11_fits_19 : decode cX11_fits 19 = .ok (.invokevirtual 379, 3) := by decide +kernel
theorem dX11_fits_22 : decode cX11_fits 22 = .ok (.i2l, 1) := by decide +kernel
theorem dX11_fits_23 : decode cX11_fits 23 = .ok (.invokevirtual 223, 3) := by decide +kernel
theorem dX11_fits_26 : decode cX11_fits 26 = .ok (.iload_n 1, 1) := by decide +kernel
theorem dX11_fits_27 : decode cX11_fits 27 = .ok (.ireturn, 1) := by decide +kernel
theorem dX11_fitting_0 : decode cX11_fitting 0 = .ok (.iconst 0, 1) := by decide +kernel
theorem dX11_fitting_1 : decode cX11_fitting 1 = .ok (.istore_n 1, 1) := by decide +kernel
theorem dX11_fitting_2 : decode cX11_fitting 2 = .ok (.iconst 0, 1) := by decide +kernel
theorem dX11_fitting_3 : decode cX11_fitting 3 = .ok (.istore_n 2, 1) := by decide +kernel
theorem dX11_fitting_4 : decode cX11_fitting 4 = .ok (.iload_n 2, 1) := by decide +kernel
theorem dX11_fitting_5 : decode cX11_fitting 5 = .ok (.aload_n 0, 1) := by decide +kernel
theorem dX11_fitting_6 : decode cX11_fitting 6 = .ok (.getfield 19, 3) := by decide +kernel
theorem dX11_fitting_9 : decode cX11_fitting 9 = .ok (.invokevirtual 304, 3) := by decide +kernel
theorem dX11_fitting_12 : decode cX11_fitting 12 = .ok (.if_icmp .ge 68, 3) := by decide +kernel
theorem dX11_fitting_15 : decode cX11_fitting 15 = .ok (.aload_n 0, 1) := by decide +kernel
theorem dX11_fitting_16 : decode cX11_fitting 16 = .ok (.getfield 42, 3) := by decide +kernel
theorem dX11_fitting_19 : decode cX11_fitting 19 = .ok (.aload_n 0, 1) := by decide +kernel
theorem dX11_fitting_20 : decode cX11_fitting 20 = .ok (.getfield 97, 3) := by decide +kernel
theorem dX11_fitting_23 : decode cX11_fitting 23 = .ok (.aload_n 0, 1) := by decide +kernel
theorem dX11_fitting_24 : decode cX11_fitting 24 = .ok (.getfield 49, 3) := by decide +kernel
theorem dX11_fitting_27 : decode cX11_fitting 27 = .ok (.iload_n 2, 1) := by decide +kernel
theorem dX11_fitting_28 : decode cX11_fitting 28 = .ok (.invokevirtual 166, 3) := by decide +kernel
theorem dX11_fitting_31 : decode cX11_fitting 31 = .ok (.iconst (-1), 1) := by decide +kernel
theorem dX11_fitting_32 : decode cX11_fitting 32 = .ok (.if_icmp .eq 7, 3) := by decide +kernel
theorem dX11_fitting_35 : decode cX11_fitting 35 = .ok (.iconst 1, 1) := by decide +kernel
theorem dX11_fitting_36 : decode cX11_fitting 36 = .ok (.goto 4, 3) := by decide +kernel
theorem dX11_fitting_39 : decode cX11_fitting 39 = .ok (.iconst 0, 1) := by decide +kernel
theorem dX11_fitting_40 : decode cX11_fitting 40 = .ok (.istore_n 3, 1) := by decide +kernel
theorem dX11_fitting_41 : decode cX11_fitting 41 = .ok (.aload_n 0, 1) := by decide +kernel
theorem dX11_fitting_42 : decode cX11_fitting 42 = .ok (.getfield 76, 3) := by decide +kernel
theorem dX11_fitting_45 : decode cX11_fitting 45 = .ok (.aload_n 0, 1) := by decide +kernel
theorem dX11_fitting_46 : decode cX11_fitting 46 = .ok (.getfield 19, 3) := by decide +kernel
theorem dX11_fitting_49 : decode cX11_fitting 49 = .ok (.iload_n 2, 1) := by decide +kernel
theorem dX11_fitting_50 : decode cX11_fitting 50 = .ok (.invokevirtual 160, 3) := by decide +kernel
theorem dX11_fitting_53 : decode cX11_fitting 53 = .ok (.aload_n 0, 1) := by decide +kernel
theorem dX11_fitting_54 : decode cX11_fitting 54 = .ok (.getfield 19, 3) := by decide +kernel
theorem dX11_fitting_57 : decode cX11_fitting 57 = .ok (.iload_n 2, 1) := by decide +kernel
theorem dX11_fitting_58 : decode cX11_fitting 58 = .ok (.invokevirtual 163, 3) := by decide +kernel
theorem dX11_fitting_61 : decode cX11_fitting 61 = .ok (.iload_n 3, 1) := by decide +kernel
theorem dX11_fitting_62 : decode cX11_fitting 62 = .ok (.invokevirtual 382, 3) := by decide +kernel
theorem dX11_fitting_65 : decode cX11_fitting 65 = .ok (.ifCond .eq 9, 3) := by decide +kernel
theorem dX11_fitting_68 : decode cX11_fitting 68 = .ok (.iload_n 1, 1) := by decide +kernel
theorem dX11_fitting_69 : decode cX11_fitting 69 = .ok (.iconst 1, 1) := by decide +kernel
theorem dX11_fitting_70 : decode cX11_fitting 70 = .ok (.iload_n 2, 1) := by decide +kernel
theorem dX11_fitting_71 : decode cX11_fitting 71 = .ok (.ishl, 1) := by decide +kernel
theorem dX11_fitting_72 : decode cX11_fitting 72 = .ok (.ior, 1) := by decide +kernel
theorem dX11_fitting_73 : decode cX11_fitting 73 = .ok (.istore_n 1, 1) := by decide +kernel
theorem dX11_fitting_74 : decode cX11_fitting 74 = .ok (.iinc 2 1, 3) := by decide +kernel
theorem dX11_fitting_77 : decode cX11_fitting 77 = .ok (.goto (-73), 3) := by decide +kernel
theorem dX11_fitting_80 : decode cX11_fitting 80 = .ok (.iload_n 1, 1) := by decide +kernel
theorem dX11_fitting_81 : decode cX11_fitting 81 = .ok (.ireturn, 1) := by decide +kernel
theorem dX11_ask_0 : decode cX11_ask 0 = .ok (.aload_n 0, 1) := by decide +kernel
theorem dX11_ask_1 : decode cX11_ask 1 = .ok (.invokevirtual 376, 3) := by decide +kernel
theorem dX11_ask_4 : decode cX11_ask 4 = .ok (.istore_n 1, 1) := by decide +kernel
theorem dX11_ask_5 : decode cX11_ask 5 = .ok (.iload_n 1, 1) := by decide +kernel
theorem dX11_ask_6 : decode cX11_ask 6 = .ok (.ifCond .ne 6, 3) := by decide +kernel
theorem dX11_ask_9 : decode cX11_ask 9 = .ok (.bipush (-2), 2) := by decide +kernel
theorem dX11_ask_11 : decode cX11_ask 11 = .ok (.ireturn, 1) := by decide +kernel
theorem dX11_ask_12 : decode cX11_ask 12 = .ok (.iload_n 1, 1) := by decide +kernel
theorem dX11_ask_13 : decode cX11_ask 13 = .ok (.invokestatic 271, 3) := by decide +kernel
theorem dX11_ask_16 : decode cX11_ask 16 = .ok (.istore_n 2, 1) := by decide +kernel
theorem dX11_ask_17 : decode cX11_ask 17 = .ok (.iconst 1, 1) := by decide +kernel
theorem dX11_ask_18 : decode cX11_ask 18 = .ok (.istore_n 3, 1) := by decide +kernel
theorem dX11_ask_19 : decode cX11_ask 19 = .ok (.iload_n 2, 1) := by decide +kernel
theorem dX11_ask_20 : decode cX11_ask 20 = .ok (.istore 4, 2) := by decide +kernel
theorem dX11_ask_22 : decode cX11_ask 22 = .ok (.iconst 1, 1) := by decide +kernel
theorem dX11_ask_23 : decode cX11_ask 23 = .ok (.istore 5, 2) := by decide +kernel
theorem dX11_ask_25 : decode cX11_ask 25 = .ok (.iload 5, 2) := by decide +kernel
theorem dX11_ask_27 : decode cX11_ask 27 = .ok (.bipush 9, 2) := by decide +kernel
theorem dX11_ask_29 : decode cX11_ask 29 = .ok (.if_icmp .gt 50, 3) := by decide +kernel
theorem dX11_ask_32 : decode cX11_ask 32 = .ok (.iload_n 1, 1) := by decide +kernel
theorem dX11_ask_33 : decode cX11_ask 33 = .ok (.aload_n 0, 1) := by decide +kernel
theorem dX11_ask_34 : decode cX11_ask 34 = .ok (.getfield 19, 3) := by decide +kernel
theorem dX11_ask_37 : decode cX11_ask 37 = .ok (.iload 5, 2) := by decide +kernel
theorem dX11_ask_39 : decode cX11_ask 39 = .ok (.invokevirtual 386, 3) := by decide +kernel
theorem dX11_ask_42 : decode cX11_ask 42 = .ok (.iand, 1) := by decide +kernel
theorem dX11_ask_43 : decode cX11_ask 43 = .ok (.invokestatic 271, 3) := by decide +kernel
theorem dX11_ask_46 : decode cX11_ask 46 = .ok (.istore 6, 2) := by decide +kernel
theorem dX11_ask_48 : decode cX11_ask 48 = .ok (.iload 6, 2) := by decide +kernel
theorem dX11_ask_50 : decode cX11_ask 50 = .ok (.iload_n 2, 1) := by decide +kernel
theorem dX11_ask_51 : decode cX11_ask 51 = .ok (.iload 6, 2) := by decide +kernel
theorem dX11_ask_53 : decode cX11_ask 53 = .ok (.isub, 1) := by decide +kernel
theorem dX11_ask_54 : decode cX11_ask 54 = .ok (.invokestatic 311, 3) := by decide +kernel
theorem dX11_ask_57 : decode cX11_ask 57 = .ok (.istore 7, 2) := by decide +kernel
theorem dX11_ask_59 : decode cX11_ask 59 = .ok (.iload 7, 2) := by decide +kernel
theorem dX11_ask_61 : decode cX11_ask 61 = .ok (.iload 4, 2) := by decide +kernel
theorem dX11_ask_63 : decode cX11_ask 63 = .ok (.if_icmp .ge 10, 3) := by decide +kernel
theorem dX11_ask_66 : decode cX11_ask 66 = .ok (.iload 7, 2) := by decide +kernel
theorem dX11_ask_68 : decode cX11_ask 68 = .ok (.istore 4, 2) := by decide +kernel
theorem dX11_ask_70 : decode cX11_ask 70 = .ok (.iload 5, 2) := by decide +kernel
theorem dX11_ask_72 : decode cX11_ask 72 = .ok (.istore_n 3, 1) := by decide +kernel
theorem dX11_ask_73 : decode cX11_ask 73 = .ok (.iinc 5 1, 3) := by decide +kernel
theorem dX11_ask_76 : decode cX11_ask 76 = .ok (.goto (-51), 3) := by decide +kernel
theorem dX11_ask_79 : decode cX11_ask 79 = .ok (.aload_n 0, 1) := by decide +kernel
theorem dX11_ask_80 : decode cX11_ask 80 = .ok (.getfield 83, 3) := by decide +kernel
theorem dX11_ask_83 : decode cX11_ask 83 = .ok (.iload 4, 2) := by decide +kernel
theorem dX11_ask_85 : decode cX11_ask 85 = .ok (.i2l, 1) := by decide +kernel
theorem dX11_ask_86 : decode cX11_ask 86 = .ok (.invokevirtual 300, 3) := by decide +kernel
theorem dX11_ask_89 : decode cX11_ask 89 = .ok (.iload_n 3, 1) := by decide +kernel
theorem dX11_ask_90 : decode cX11_ask 90 = .ok (.ireturn, 1) := by decide +kernel
theorem dX11_law_0 : decode cX11_law 0 = .ok (.aload_n 0, 1) := by decide +kernel
theorem dX11_law_1 : decode cX11_law 1 = .ok (.getfield 101, 3) := by decide +kernel
theorem dX11_law_4 : decode cX11_law 4 = .ok (.aload_n 0, 1) := by decide +kernel
theorem dX11_law_5 : decode cX11_law 5 = .ok (.getfield 10, 3) := by decide +kernel
theorem dX11_law_8 : decode cX11_law 8 = .ok (.invokevirtual 143, 3) := by decide +kernel
theorem dX11_law_11 : decode cX11_law 11 = .ok (.istore_n 1, 1) := by decide +kernel
theorem dX11_law_12 : decode cX11_law 12 = .ok (.aload_n 0, 1) := by decide +kernel
theorem dX11_law_13 : decode cX11_law 13 = .ok (.getfield 10, 3) := by decide +kernel
theorem dX11_law_16 : decode cX11_law 16 = .ok (.invokevirtual 126, 3) := by decide +kernel
theorem dX11_law_19 : decode cX11_law 19 = .ok (.iload_n 1, 1) := by decide +kernel
theorem dX11_law_20 : decode cX11_law 20 = .ok (.iconst (-1), 1) := by decide +kernel
theorem dX11_law_21 : decode cX11_law 21 = .ok (.if_icmp .eq 9, 3) := by decide +kernel
theorem dX11_law_24 : decode cX11_law 24 = .ok (.sipush (-10000), 3) := by decide +kernel
theorem dX11_law_27 : decode cX11_law 27 = .ok (.iload_n 1, 1) := by decide +kernel
theorem dX11_law_28 : decode cX11_law 28 = .ok (.isub, 1) := by decide +kernel
theorem dX11_law_29 : decode cX11_law 29 = .ok (.ireturn, 1) := by decide +kernel
theorem dX11_law_30 : decode cX11_law 30 = .ok (.aload_n 0, 1) := by decide +kernel
theorem dX11_law_31 : decode cX11_law 31 = .ok (.getfield 53, 3) := by decide +kernel
theorem dX11_law_34 : decode cX11_law 34 = .ok (.aload_n 0, 1) := by decide +kernel
theorem dX11_law_35 : decode cX11_law 35 = .ok (.getfield 49, 3) := by decide +kernel
theorem dX11_law_38 : decode cX11_law 38 = .ok (.invokevirtual 198, 3) := by decide +kernel
theorem dX11_law_41 : decode cX11_law 41 = .ok (.aload_n 0, 1) := by decide +kernel
theorem dX11_law_42 : decode cX11_law 42 = .ok (.getfield 42, 3) := by decide +kernel
theorem dX11_law_45 : decode cX11_law 45 = .ok (.aload_n 0, 1) := by decide +kernel
theorem dX11_law_46 : decode cX11_law 46 = .ok (.getfield 101, 3) := by decide +kernel
theorem dX11_law_49 : decode cX11_law 49 = .ok (.aload_n 0, 1) := by decide +kernel
theorem dX11_law_50 : decode cX11_law 50 = .ok (.getfield 53, 3) := by decide +kernel
theorem dX11_law_53 : decode cX11_law 53 = .ok (.bipush 10, 2) := by decide +kernel
theorem dX11_law_55 : decode cX11_law 55 = .ok (.invokevirtual 217, 3) := by decide +kernel
theorem dX11_law_58 : decode cX11_law 58 = .ok (.istore_n 2, 1) := by decide +kernel
theorem dX11_law_59 : decode cX11_law 59 = .ok (.aload_n 0, 1) := by decide +kernel
theorem dX11_law_60 : decode cX11_law 60 = .ok (.getfield 53, 3) := by decide +kernel
theorem dX11_law_63 : decode cX11_law 63 = .ok (.aload_n 0, 1) := by decide +kernel
theorem dX11_law_64 : decode cX11_law 64 = .ok (.getfield 49, 3) := by decide +kernel
theorem dX11_law_67 : decode cX11_law 67 = .ok (.invokevirtual 198, 3) := by decide +kernel
theorem dX11_law_70 : decode cX11_law 70 = .ok (.aload_n 0, 1) := by decide +kernel
theorem dX11_law_71 : decode cX11_law 71 = .ok (.getfield 42, 3) := by decide +kernel
theorem dX11_law_74 : decode cX11_law 74 = .ok (.aload_n 0, 1) := by decide +kernel
theorem dX11_law_75 : decode cX11_law 75 = .ok (.getfield 97, 3) := by decide +kernel
theorem dX11_law_78 : decode cX11_law 78 = .ok (.aload_n 0, 1) := by decide +kernel
theorem dX11_law_79 : decode cX11_law 79 = .ok (.getfield 53, 3) := by decide +kernel
theorem dX11_law_82 : decode cX11_law 82 = .ok (.bipush 10, 2) := by decide +kernel
theorem dX11_law_84 : decode cX11_law 84 = .ok (.invokevirtual 217, 3) := by decide +kernel
theorem dX11_law_87 : decode cX11_law 87 = .ok (.istore_n 3, 1) := by decide +kernel
theorem dX11_law_88 : decode cX11_law 88 = .ok (.aload_n 0, 1) := by decide +kernel
theorem dX11_law_89 : decode cX11_law 89 = .ok (.getfield 83, 3) := by decide +kernel
theorem dX11_law_92 : decode cX11_law 92 = .ok (.iload_n 2, 1) := by decide +kernel
theorem dX11_law_93 : decode cX11_law 93 = .ok (.i2l, 1) := by decide +kernel
theorem dX11_law_94 : decode cX11_law 94 = .ok (.iload_n 3, 1) := by decide +kernel
theorem dX11_law_95 : decode cX11_law 95 = .ok (.i2l, 1) := by decide +kernel
theorem dX11_law_96 : decode cX11_law 96 = .ok (.invokevirtual 223, 3) := by decide +kernel
theorem dX11_law_99 : decode cX11_law 99 = .ok (.iload_n 2, 1) := by decide +kernel
theorem dX11_law_100 : decode cX11_law 100 = .ok (.iload_n 3, 1) := by decide +kernel
theorem dX11_law_101 : decode cX11_law 101 = .ok (.isub, 1) := by decide +kernel
theorem dX11_law_102 : decode cX11_law 102 = .ok (.ireturn, 1) := by decide +kernel
theorem dX11_rests_0 : decode cX11_rests 0 = .ok (.iload_n 1, 1) := by decide +kernel
theorem dX11_rests_1 : decode cX11_rests 1 = .ok (.ifCond .lt 19, 3) := by decide +kernel
theorem dX11_rests_4 : decode cX11_rests 4 = .ok (.iload_n 1, 1) := by decide +kernel
theorem dX11_rests_5 : decode cX11_rests 5 = .ok (.bipush 20, 2) := by decide +kernel
theorem dX11_rests_7 : decode cX11_rests 7 = .ok (.if_icmp .gt 13, 3) := by decide +kernel
theorem dX11_rests_10 : decode cX11_rests 10 = .ok (.iload_n 2, 1) := by decide +kernel
theorem dX11_rests_11 : decode cX11_rests 11 = .ok (.ifCond .lt 9, 3) := by decide +kernel
theorem dX11_rests_14 : decode cX11_rests 14 = .ok (.iload_n 2, 1) := by decide +kernel
theorem dX11_rests_15 : decode cX11_rests 15 = .ok (.bipush 9, 2) := by decide +kernel
theorem dX11_rests_17 : decode cX11_rests 17 = .ok (.if_icmp .le 5, 3) := by decide +kernel
theorem dX11_rests_20 : decode cX11_rests 20 = .ok (.iconst (-1), 1) := by decide +kernel
theorem dX11_rests_21 : decode cX11_rests 21 = .ok (.ireturn, 1) := by decide +kernel
theorem dX11_rests_22 : decode cX11_rests 22 = .ok (.iconst 0, 1) := by decide +kernel
theorem dX11_rests_23 : decode cX11_rests 23 = .ok (.istore_n 3, 1) := by decide +kernel
theorem dX11_rests_24 : decode cX11_rests 24 = .ok (.aload_n 0, 1) := by decide +kernel
theorem dX11_rests_25 : decode cX11_rests 25 = .ok (.getfield 83, 3) := by decide +kernel
theorem dX11_rests_28 : decode cX11_rests 28 = .ok (.invokevirtual 389, 3) := by decide +kernel
theorem dX11_rests_31 : decode cX11_rests 31 = .ok (.iconst 0, 1) := by decide +kernel
theorem dX11_rests_32 : decode cX11_rests 32 = .ok (.istore 4, 2) := by decide +kernel
theorem dX11_rests_34 : decode cX11_rests 34 = .ok (.iload 4, 2) := by decide +kernel
theorem dX11_rests_36 : decode cX11_rests 36 = .ok (.bipush 9, 2) := by decide +kernel
theorem dX11_rests_38 : decode cX11_rests 38 = .ok (.if_icmp .gt 60, 3) := by decide +kernel
theorem dX11_rests_41 : decode cX11_rests 41 = .ok (.iconst 0, 1) := by decide +kernel
theorem dX11_rests_42 : decode cX11_rests 42 = .ok (.istore 5, 2) := by decide +kernel
theorem dX11_rests_44 : decode cX11_rests 44 = .ok (.iload 5, 2) := by decide +kernel
theorem dX11_rests_46 : decode cX11_rests 46 = .ok (.bipush 9, 2) := by decide +kernel
theorem dX11_rests_48 : decode cX11_rests 48 = .ok (.if_icmp .gt 44, 3) := by decide +kernel
theorem dX11_rests_51 : decode cX11_rests 51 = .ok (.iload 4, 2) := by decide +kernel
theorem dX11_rests_53 : decode cX11_rests 53 = .ok (.iload 5, 2) := by decide +kernel
theorem dX11_rests_55 : decode cX11_rests 55 = .ok (.iload_n 1, 1) := by decide +kernel
theorem dX11_rests_56 : decode cX11_rests 56 = .ok (.iload_n 2, 1) := by decide +kernel
theorem dX11_rests_57 : decode cX11_rests 57 = .ok (.invokestatic 392, 3) := by decide +kernel
theorem dX11_rests_60 : decode cX11_rests 60 = .ok (.ifCond .ne 6, 3) := by decide +kernel
theorem dX11_rests_63 : decode cX11_rests 63 = .ok (.goto 23, 3) := by decide +kernel
theorem dX11_rests_66 : decode cX11_rests 66 = .ok (.iload_n 3, 1) := by decide +kernel
theorem dX11_rests_67 : decode cX11_rests 67 = .ok (.ifCond .ne 16, 3) := by decide +kernel
theorem dX11_rests_70 : decode cX11_rests 70 = .ok (.aload_n 0, 1) := by decide +kernel
theorem dX11_rests_71 : decode cX11_rests 71 = .ok (.getfield 83, 3) := by decide +kernel
theorem dX11_rests_74 : decode cX11_rests 74 = .ok (.iload 4, 2) := by decide +kernel
theorem dX11_rests_76 : decode cX11_rests 76 = .ok (.i2l, 1) := by decide +kernel
theorem dX11_rests_77 : decode cX11_rests 77 = .ok (.iload 5, 2) := by decide +kernel
theorem dX11_rests_79 : decode cX11_rests 79 = .ok (.i2l, 1) := by decide +kernel
theorem dX11_rests_80 : decode cX11_rests 80 = .ok (.invokevirtual 223, 3) := by decide +kernel
theorem dX11_rests_83 : decode cX11_rests 83 = .ok (.iinc 3 1, 3) := by decide +kernel
theorem dX11_rests_86 : decode cX11_rests 86 = .ok (.iinc 5 1, 3) := by decide +kernel
theorem dX11_rests_89 : decode cX11_rests 89 = .ok (.goto (-45), 3) := by decide +kernel
theorem dX11_rests_92 : decode cX11_rests 92 = .ok (.iinc 4 1, 3) := by decide +kernel
theorem dX11_rests_95 : decode cX11_rests 95 = .ok (.goto (-61), 3) := by decide +kernel
theorem dX11_rests_98 : decode cX11_rests 98 = .ok (.iload_n 3, 1) := by decide +kernel
theorem dX11_rests_99 : decode cX11_rests 99 = .ok (.ireturn, 1) := by decide +kernel
theorem dX11_isRest_0 : decode cX11_isRest 0 = .ok (.iconst 0, 1) := by decide +kernel
theorem dX11_isRest_1 : decode cX11_isRest 1 = .ok (.istore 4, 2) := by decide +kernel
theorem dX11_isRest_3 : decode cX11_isRest 3 = .ok (.iload 4, 2) := by decide +kernel
theorem dX11_isRest_5 : decode cX11_isRest 5 = .ok (.bipush 9, 2) := by decide +kernel
theorem dX11_isRest_7 : decode cX11_isRest 7 = .ok (.if_icmp .gt 43, 3) := by decide +kernel
theorem dX11_isRest_10 : decode cX11_isRest 10 = .ok (.iload 4, 2) := by decide +kernel
theorem dX11_isRest_12 : decode cX11_isRest 12 = .ok (.iload_n 1, 1) := by decide +kernel
theorem dX11_isRest_13 : decode cX11_isRest 13 = .ok (.iload_n 3, 1) := by decide +kernel
theorem dX11_isRest_14 : decode cX11_isRest 14 = .ok (.invokestatic 396, 3) := by decide +kernel
theorem dX11_isRest_17 : decode cX11_isRest 17 = .ok (.iload_n 0, 1) := by decide +kernel
theorem dX11_isRest_18 : decode cX11_isRest 18 = .ok (.iload_n 1, 1) := by decide +kernel
theorem dX11_isRest_19 : decode cX11_isRest 19 = .ok (.iload_n 3, 1) := by decide +kernel
theorem dX11_isRest_20 : decode cX11_isRest 20 = .ok (.invokestatic 396, 3) := by decide +kernel
theorem dX11_isRest_23 : decode cX11_isRest 23 = .ok (.if_icmp .gt 19, 3) := by decide +kernel
theorem dX11_isRest_26 : decode cX11_isRest 26 = .ok (.iload_n 0, 1) := by decide +kernel
theorem dX11_isRest_27 : decode cX11_isRest 27 = .ok (.iload 4, 2) := by decide +kernel
theorem dX11_isRest_29 : decode cX11_isRest 29 = .ok (.iload_n 2, 1) := by decide +kernel
theorem dX11_isRest_30 : decode cX11_isRest 30 = .ok (.invokestatic 399, 3) := by decide +kernel
theorem dX11_isRest_33 : decode cX11_isRest 33 = .ok (.iload_n 0, 1) := by decide +kernel
theorem dX11_isRest_34 : decode cX11_isRest 34 = .ok (.iload_n 1, 1) := by decide +kernel
theorem dX11_isRest_35 : decode cX11_isRest 35 = .ok (.iload_n 2, 1) := by decide +kernel
theorem dX11_isRest_36 : decode cX11_isRest 36 = .ok (.invokestatic 399, 3) := by decide +kernel
theorem dX11_isRest_39 : decode cX11_isRest 39 = .ok (.if_icmp .le 5, 3) := by decide +kernel
theorem dX11_isRest_42 : decode cX11_isRest 42 = .ok (.iconst 0, 1) := by decide +kernel
theorem dX11_isRest_43 : decode cX11_isRest 43 = .ok (.ireturn, 1) := by decide +kernel
theorem dX11_isRest_44 : decode cX11_isRest 44 = .ok (.iinc 4 1, 3) := by decide +kernel
theorem dX11_isRest_47 : decode cX11_isRest 47 = .ok (.goto (-44), 3) := by decide +kernel
theorem dX11_isRest_50 : decode cX11_isRest 50 = .ok (.iconst 1, 1) := by decide +kernel
theorem dX11_isRest_51 : decode cX11_isRest 51 = .ok (.ireturn, 1) := by decide +kernel
theorem dX11_guardHas_0 : decode cX11_guardHas 0 = .ok (.iload_n 1, 1) := by decide +kernel
theorem dX11_guardHas_1 : decode cX11_guardHas 1 = .ok (.iload_n 0, 1) := by decide +kernel
theorem dX11_guardHas_2 : decode cX11_guardHas 2 = .ok (.if_icmp .lt 7, 3) := by decide +kernel
theorem dX11_guardHas_5 : decode cX11_guardHas 5 = .ok (.iload_n 1, 1) := by decide +kernel
theorem dX11_guardHas_6 : decode cX11_guardHas 6 = .ok (.goto 4, 3) := by decide +kernel
theorem dX11_guardHas_9 : decode cX11_guardHas 9 = .ok (.iload_n 2, 1) := by decide +kernel
theorem dX11_guardHas_10 : decode cX11_guardHas 10 = .ok (.ireturn, 1) := by decide +kernel
theorem dX11_carrierHas_0 : decode cX11_carrierHas 0 = .ok (.iload_n 1, 1) := by decide +kernel
theorem dX11_carrierHas_1 : decode cX11_carrierHas 1 = .ok (.iload_n 0, 1) := by decide +kernel
theorem dX11_carrierHas_2 : decode cX11_carrierHas 2 = .ok (.if_icmp .lt 9, 3) := by decide +kernel
theorem dX11_carrierHas_5 : decode cX11_carrierHas 5 = .ok (.iload_n 2, 1) := by decide +kernel
theorem dX11_carrierHas_6 : decode cX11_carrierHas 6 = .ok (.iload_n 1, 1) := by decide +kernel
theorem dX11_carrierHas_7 : decode cX11_carrierHas 7 = .ok (.isub, 1) := by decide +kernel
theorem dX11_carrierHas_8 : decode cX11_carrierHas 8 = .ok (.goto 4, 3) := by decide +kernel
theorem dX11_carrierHas_11 : decode cX11_carrierHas 11 = .ok (.iconst 0, 1) := by decide +kernel
theorem dX11_carrierHas_12 : decode cX11_carrierHas 12 = .ok (.ireturn, 1) := by decide +kernel
theorem dX11_years_0 : decode cX11_years 0 = .ok (.iload_n 2, 1) := by decide +kernel
theorem dX11_years_1 : decode cX11_years 1 = .ok (.iconst 1, 1) := by decide +kernel
theorem dX11_years_2 : decode cX11_years 2 = .ok (.if_icmp .lt 9, 3) := by decide +kernel
theorem dX11_years_5 : decode cX11_years 5 = .ok (.iload_n 2, 1) := by decide +kernel
theorem dX11_years_6 : decode cX11_years 6 = .ok (.bipush 60, 2) := by decide +kernel
theorem dX11_years_8 : decode cX11_years 8 = .ok (.if_icmp .le 5, 3) := by decide +kernel
theorem dX11_years_11 : decode cX11_years 11 = .ok (.iconst (-1), 1) := by decide +kernel
theorem dX11_years_12 : decode cX11_years 12 = .ok (.ireturn, 1) := by decide +kernel
theorem dX11_years_13 : decode cX11_years 13 = .ok (.aload_n 0, 1) := by decide +kernel
theorem dX11_years_14 : decode cX11_years 14 = .ok (.getfield 53, 3) := by decide +kernel
theorem dX11_years_17 : decode cX11_years 17 = .ok (.aload_n 0, 1) := by decide +kernel
theorem dX11_years_18 : decode cX11_years 18 = .ok (.getfield 49, 3) := by decide +kernel
theorem dX11_years_21 : decode cX11_years 21 = .ok (.invokevirtual 198, 3) := by decide +kernel
theorem dX11_years_24 : decode cX11_years 24 = .ok (.aload_n 0, 1) := by decide +kernel
theorem dX11_years_25 : decode cX11_years 25 = .ok (.iload_n 1, 1) := by decide +kernel
theorem dX11_years_26 : decode cX11_years 26 = .ok (.putfield 402, 3) := by decide +kernel
theorem dX11_years_29 : decode cX11_years 29 = .ok (.iconst 0, 1) := by decide +kernel
theorem dX11_years_30 : decode cX11_years 30 = .ok (.istore_n 3, 1) := by decide +kernel
theorem dX11_years_31 : decode cX11_years 31 = .ok (.iconst 0, 1) := by decide +kernel
theorem dX11_years_32 : decode cX11_years 32 = .ok (.istore 4, 2) := by decide +kernel
theorem dX11_years_34 : decode cX11_years 34 = .ok (.iload 4, 2) := by decide +kernel
theorem dX11_years_36 : decode cX11_years 36 = .ok (.iload_n 2, 1) := by decide +kernel
theorem dX11_years_37 : decode cX11_years 37 = .ok (.if_icmp .ge 21, 3) := by decide +kernel
theorem dX11_years_40 : decode cX11_years 40 = .ok (.iload_n 3, 1) := by decide +kernel
theorem dX11_years_41 : decode cX11_years 41 = .ok (.aload_n 0, 1) := by decide +kernel
theorem dX11_years_42 : decode cX11_years 42 = .ok (.aload_n 0, 1) := by decide +kernel
theorem dX11_years_43 : decode cX11_years 43 = .ok (.iconst 5, 1) := by decide +kernel
theorem dX11_years_44 : decode cX11_years 44 = .ok (.invokevirtual 406, 3) := by decide +kernel
theorem dX11_years_47 : decode cX11_years 47 = .ok (.invokevirtual 409, 3) := by decide +kernel
theorem dX11_years_50 : decode cX11_years 50 = .ok (.iadd, 1) := by decide +kernel
theorem dX11_years_51 : decode cX11_years 51 = .ok (.istore_n 3, 1) := by decide +kernel
theorem dX11_years_52 : decode cX11_years 52 = .ok (.iinc 4 1, 3) := by decide +kernel
theorem dX11_years_55 : decode cX11_years 55 = .ok (.goto (-21), 3) := by decide +kernel
theorem dX11_years_58 : decode cX11_years 58 = .ok (.aload_n 0, 1) := by decide +kernel
theorem dX11_years_59 : decode cX11_years 59 = .ok (.getfield 83, 3) := by decide +kernel
theorem dX11_years_62 : decode cX11_years 62 = .ok (.aload_n 0, 1) := by decide +kernel
theorem dX11_years_63 : decode cX11_years 63 = .ok (.getfield 53, 3) := by decide +kernel
theorem dX11_years_66 : decode cX11_years 66 = .ok (.invokevirtual 195, 3) := by decide +kernel
theorem dX11_years_69 : decode cX11_years 69 = .ok (.i2l, 1) := by decide +kernel
theorem dX11_years_70 : decode cX11_years 70 = .ok (.aload_n 0, 1) := by decide +kernel
theorem dX11_years_71 : decode cX11_years 71 = .ok (.getfield 53, 3) := by decide +kernel
theorem dX11_years_74 : decode cX11_years 74 = .ok (.invokevirtual 263, 3) := by decide +kernel
theorem dX11_years_77 : decode cX11_years 77 = .ok (.i2l, 1) := by decide +kernel
theorem dX11_years_78 : decode cX11_years 78 = .ok (.invokevirtual 223, 3) := by decide +kernel
theorem dX11_years_81 : decode cX11_years 81 = .ok (.iload_n 3, 1) := by decide +kernel
theorem dX11_years_82 : decode cX11_years 82 = .ok (.ireturn, 1) := by decide +kernel
theorem dX11_drawnAct_0 : decode cX11_drawnAct 0 = .ok (.iload_n 1, 1) := by decide +kernel
theorem dX11_drawnAct_1 : decode cX11_drawnAct 1 = .ok (.iconst 1, 1) := by decide +kernel
theorem dX11_drawnAct_2 : decode cX11_drawnAct 2 = .ok (.if_icmp .gt 20, 3) := by decide +kernel
theorem dX11_drawnAct_5 : decode cX11_drawnAct 5 = .ok (.aload_n 0, 1) := by decide +kernel
theorem dX11_drawnAct_6 : decode cX11_drawnAct 6 = .ok (.getfield 42, 3) := by decide +kernel
theorem dX11_drawnAct_9 : decode cX11_drawnAct 9 = .ok (.aload_n 0, 1) := by decide +kernel
theorem dX11_drawnAct_10 : decode cX11_drawnAct 10 = .ok (.getfield 97, 3) := by decide +kernel
theorem dX11_drawnAct_13 : decode cX11_drawnAct 13 = .ok (.aload_n 0, 1) := by decide +kernel
theorem dX11_drawnAct_14 : decode cX11_drawnAct 14 = .ok (.getfield 53, 3) := by decide +kernel
theorem dX11_drawnAct_17 : decode cX11_drawnAct 17 = .ok (.iconst 1, 1) := by decide +kernel
theorem dX11_drawnAct_18 : decode cX11_drawnAct 18 = .ok (.invokevirtual 217, 3) := by decide +kernel
theorem dX11_drawnAct_21 : decode cX11_drawnAct 21 = .ok (.ireturn, 1) := by decide +kernel
theorem dX11_drawnAct_22 : decode cX11_drawnAct 22 = .ok (.aload_n 0, 1) := by decide +kernel
theorem dX11_drawnAct_23 : decode cX11_drawnAct 23 = .ok (.aload_n 0, 1) := by decide +kernel
theorem dX11_drawnAct_24 : decode cX11_drawnAct 24 = .ok (.getfield 53, 3) := by decide +kernel
theorem dX11_drawnAct_27 : decode cX11_drawnAct 27 = .ok (.invokevirtual 127, 3) := by decide +kernel
theorem dX11_drawnAct_30 : decode cX11_drawnAct 30 = .ok (.invokevirtual 406, 3) := by decide +kernel
theorem dX11_drawnAct_33 : decode cX11_drawnAct 33 = .ok (.istore_n 2, 1) := by decide +kernel
theorem dX11_drawnAct_34 : decode cX11_drawnAct 34 = .ok (.iload_n 1, 1) := by decide +kernel
theorem dX11_drawnAct_35 : decode cX11_drawnAct 35 = .ok (.iconst 2, 1) := by decide +kernel
theorem dX11_drawnAct_36 : decode cX11_drawnAct 36 = .ok (.if_icmp .ne 24, 3) := by decide +kernel
theorem dX11_drawnAct_39 : decode cX11_drawnAct 39 = .ok (.aload_n 0, 1) := by decide +kernel
theorem dX11_drawnAct_40 : decode cX11_drawnAct 40 = .ok (.getfield 53, 3) := by decide +kernel
theorem dX11_drawnAct_43 : decode cX11_drawnAct 43 = .ok (.iload_n 2, 1) := by decide +kernel
theorem dX11_drawnAct_44 : decode cX11_drawnAct 44 = .ok (.aload_n 0, 1) := by decide +kernel
theorem dX11_drawnAct_45 : decode cX11_drawnAct 45 = .ok (.getfield 53, 3) := by decide +kernel
theorem dX11_drawnAct_48 : decode cX11_drawnAct 48 = .ok (.iload_n 2, 1) := by decide +kernel
theorem dX11_drawnAct_49 : decode cX11_drawnAct 49 = .ok (.invokevirtual 156, 3) := by decide +kernel
theorem dX11_drawnAct_52 : decode cX11_drawnAct 52 = .ok (.iconst 1, 1) := by decide +kernel
theorem dX11_drawnAct_53 : decode cX11_drawnAct 53 = .ok (.iadd, 1) := by decide +kernel
theorem dX11_drawnAct_54 : decode cX11_drawnAct 54 = .ok (.invokevirtual 260, 3) := by decide +kernel
theorem dX11_drawnAct_57 : decode cX11_drawnAct 57 = .ok (.goto 58, 3) := by decide +kernel
theorem dX11_drawnAct_60 : decode cX11_drawnAct 60 = .ok (.iload_n 1, 1) := by decide +kernel
theorem dX11_drawnAct_61 : decode cX11_drawnAct 61 = .ok (.iconst 3, 1) := by decide +kernel
theorem dX11_drawnAct_62 : decode cX11_drawnAct 62 = .ok (.if_icmp .ne 24, 3) := by decide +kernel
theorem dX11_drawnAct_65 : decode cX11_drawnAct 65 = .ok (.aload_n 0, 1) := by decide +kernel
theorem dX11_drawnAct_66 : decode cX11_drawnAct 66 = .ok (.getfield 53, 3) := by decide +kernel
theorem dX11_drawnAct_69 : decode cX11_drawnAct 69 = .ok (.iload_n 2, 1) := by decide +kernel
theorem dX11_drawnAct_70 : decode cX11_drawnAct 70 = .ok (.aload_n 0, 1) := by decide +kernel
theorem dX11_drawnAct_71 : decode cX11_drawnAct 71 = .ok (.getfield 53, 3) := by decide +kernel
theorem dX11_drawnAct_74 : decode cX11_drawnAct 74 = .ok (.iload_n 2, 1) := by decide +kernel
theorem dX11_drawnAct_75 : decode cX11_drawnAct 75 = .ok (.invokevirtual 156, 3) := by decide +kernel
theorem dX11_drawnAct_78 : decode cX11_drawnAct 78 = .ok (.iconst 1, 1) := by decide +kernel
theorem dX11_drawnAct_79 : decode cX11_drawnAct 79 = .ok (.isub, 1) := by decide +kernel
theorem dX11_drawnAct_80 : decode cX11_drawnAct 80 = .ok (.invokevirtual 260, 3) := by decide +kernel
theorem dX11_drawnAct_83 : decode cX11_drawnAct 83 = .ok (.goto 32, 3) := by decide +kernel
theorem dX11_drawnAct_86 : decode cX11_drawnAct 86 = .ok (.aload_n 0, 1) := by decide +kernel
theorem dX11_drawnAct_87 : decode cX11_drawnAct 87 = .ok (.getfield 53, 3) := by decide +kernel
theorem dX11_drawnAct_90 : decode cX11_drawnAct 90 = .ok (.iload_n 2, 1) := by decide +kernel
theorem dX11_drawnAct_91 : decode cX11_drawnAct 91 = .ok (.invokevirtual 153, 3) := by decide +kernel
theorem dX11_drawnAct_94 : decode cX11_drawnAct 94 = .ok (.ifCond .ne 21, 3) := by decide +kernel
theorem dX11_drawnAct_97 : decode cX11_drawnAct 97 = .ok (.aload_n 0, 1) := by decide +kernel
theorem dX11_drawnAct_98 : decode cX11_drawnAct 98 = .ok (.getfield 53, 3) := by decide +kernel
theorem dX11_drawnAct_101 : decode cX11_drawnAct 101 = .ok (.iload_n 2, 1) := by decide +kernel
theorem dX11_drawnAct_102 : decode cX11_drawnAct 102 = .ok (.aload_n 0, 1) := by decide +kernel
theorem dX11_drawnAct_103 : decode cX11_drawnAct 103 = .ok (.getfield 53, 3) := by decide +kernel
theorem dX11_drawnAct_106 : decode cX11_drawnAct 106 = .ok (.iload_n 2, 1) := by decide +kernel
theorem dX11_drawnAct_107 : decode cX11_drawnAct 107 = .ok (.invokevirtual 150, 3) := by decide +kernel
theorem dX11_drawnAct_110 : decode cX11_drawnAct 110 = .ok (.iconst 2, 1) := by decide +kernel
theorem dX11_drawnAct_111 : decode cX11_drawnAct 111 = .ok (.iadd, 1) := by decide +kernel
theorem dX11_drawnAct_112 : decode cX11_drawnAct 112 = .ok (.invokevirtual 191, 3) := by decide +kernel
theorem dX11_drawnAct_115 : decode cX11_drawnAct 115 = .ok (.iconst 0, 1) := by decide +kernel
theorem dX11_drawnAct_116 : decode cX11_drawnAct 116 = .ok (.ireturn, 1) := by decide +kernel
theorem dX11_draw_0 : decode cX11_draw 0 = .ok (.aload_n 0, 1) := by decide +kernel
theorem dX11_draw_1 : decode cX11_draw 1 = .ok (.aload_n 0, 1) := by decide +kernel
theorem dX11_draw_2 : decode cX11_draw 2 = .ok (.getfield 402, 3) := by decide +kernel
theorem dX11_draw_5 : decode cX11_draw 5 = .ok (.ldc_w 412, 3) := by decide +kernel
theorem dX11_draw_8 : decode cX11_draw 8 = .ok (.imul, 1) := by decide +kernel
theorem dX11_draw_9 : decode cX11_draw 9 = .ok (.sipush 12345, 3) := by decide +kernel
theorem dX11_draw_12 : decode cX11_draw 12 = .ok (.iadd, 1) := by decide +kernel
theorem dX11_draw_13 : decode cX11_draw 13 = .ok (.putfield 402, 3) := by decide +kernel
theorem dX11_draw_16 : decode cX11_draw 16 = .ok (.iload_n 1, 1) := by decide +kernel
theorem dX11_draw_17 : decode cX11_draw 17 = .ok (.ifCond .le 15, 3) := by decide +kernel
theorem dX11_draw_20 : decode cX11_draw 20 = .ok (.aload_n 0, 1) := by decide +kernel
theorem dX11_draw_21 : decode cX11_draw 21 = .ok (.getfield 402, 3) := by decide +kernel
theorem dX11_draw_24 : decode cX11_draw 24 = .ok (.bipush 16, 2) := by decide +kernel
theorem dX11_draw_26 : decode cX11_draw 26 = .ok (.iushr, 1) := by decide +kernel
theorem dX11_draw_27 : decode cX11_draw 27 = .ok (.iload_n 1, 1) := by decide +kernel
theorem dX11_draw_28 : decode cX11_draw 28 = .ok (.irem, 1) := by decide +kernel
theorem dX11_draw_29 : decode cX11_draw 29 = .ok (.goto 4, 3) := by decide +kernel
theorem dX11_draw_32 : decode cX11_draw 32 = .ok (.iconst 0, 1) := by decide +kernel
theorem dX11_draw_33 : decode cX11_draw 33 = .ok (.ireturn, 1) := by decide +kernel
theorem dX11_keep_0 : decode cX11_keep 0 = .ok (.aload_n 0, 1) := by decide +kernel
theorem dX11_keep_1 : decode cX11_keep 1 = .ok (.getfield 69, 3) := by decide +kernel
theorem dX11_keep_4 : decode cX11_keep 4 = .ok (.iload_n 1, 1) := by decide +kernel
theorem dX11_keep_5 : decode cX11_keep 5 = .ok (.aload_n 0, 1) := by decide +kernel
theorem dX11_keep_6 : decode cX11_keep 6 = .ok (.getfield 49, 3) := by decide +kernel
theorem dX11_keep_9 : decode cX11_keep 9 = .ok (.invokevirtual 413, 3) := by decide +kernel
theorem dX11_keep_12 : decode cX11_keep 12 = .ok (.ireturn, 1) := by decide +kernel
theorem dX11_again_0 : decode cX11_again 0 = .ok (.aload_n 0, 1) := by decide +kernel
theorem dX11_again_1 : decode cX11_again 1 = .ok (.getfield 69, 3) := by decide +kernel
theorem dX11_again_4 : decode cX11_again 4 = .ok (.iload_n 1, 1) := by decide +kernel
theorem dX11_again_5 : decode cX11_again 5 = .ok (.aload_n 0, 1) := by decide +kernel
theorem dX11_again_6 : decode cX11_again 6 = .ok (.getfield 49, 3) := by decide +kernel
theorem dX11_again_9 : decode cX11_again 9 = .ok (.invokevirtual 417, 3) := by decide +kernel
theorem dX11_again_12 : decode cX11_again 12 = .ok (.ifCond .ne 5, 3) := by decide +kernel
theorem dX11_again_15 : decode cX11_again 15 = .ok (.iconst 0, 1) := by decide +kernel
theorem dX11_again_16 : decode cX11_again 16 = .ok (.ireturn, 1) := by decide +kernel
theorem dX11_again_17 : decode cX11_again 17 = .ok (.aload_n 0, 1) := by decide +kernel
theorem dX11_again_18 : decode cX11_again 18 = .ok (.getfield 62, 3) := by decide +kernel
theorem dX11_again_21 : decode cX11_again 21 = .ok (.invokevirtual 122, 3) := by decide +kernel
theorem dX11_again_24 : decode cX11_again 24 = .ok (.iconst 1, 1) := by decide +kernel
theorem dX11_again_25 : decode cX11_again 25 = .ok (.ireturn, 1) := by decide +kernel
theorem dX11_count_0 : decode cX11_count 0 = .ok (.iload_n 1, 1) := by decide +kernel
theorem dX11_count_1 : decode cX11_count 1 = .ok (.tableswitch 195 0 14 #[75, 83, 91, 99, 107, 115, 123, 131, 139, 147, 155, 163, 171, 179, 187], 75) := by decide +kernel
theorem dX11_count_76 : decode cX11_count 76 = .ok (.aload_n 0, 1) := by decide +kernel
theorem dX11_count_77 : decode cX11_count 77 = .ok (.getfield 49, 3) := by decide +kernel
theorem dX11_count_80 : decode cX11_count 80 = .ok (.invokevirtual 127, 3) := by decide +kernel
theorem dX11_count_83 : decode cX11_count 83 = .ok (.ireturn, 1) := by decide +kernel
theorem dX11_count_84 : decode cX11_count 84 = .ok (.aload_n 0, 1) := by decide +kernel
theorem dX11_count_85 : decode cX11_count 85 = .ok (.getfield 19, 3) := by decide +kernel
theorem dX11_count_88 : decode cX11_count 88 = .ok (.invokevirtual 304, 3) := by decide +kernel
theorem dX11_count_91 : decode cX11_count 91 = .ok (.ireturn, 1) := by decide +kernel
theorem dX11_count_92 : decode cX11_count 92 = .ok (.aload_n 0, 1) := by decide +kernel
theorem dX11_count_93 : decode cX11_count 93 = .ok (.getfield 33, 3) := by decide +kernel
theorem dX11_count_96 : decode cX11_count 96 = .ok (.invokevirtual 419, 3) := by decide +kernel
theorem dX11_count_99 : decode cX11_count 99 = .ok (.ireturn, 1) := by decide +kernel
theorem dX11_count_100 : decode cX11_count 100 = .ok (.aload_n 0, 1) := by decide +kernel
theorem dX11_count_101 : decode cX11_count 101 = .ok (.getfield 49, 3) := by decide +kernel
theorem dX11_count_104 : decode cX11_count 104 = .ok (.invokevirtual 247, 3) := by decide +kernel
theorem dX11_count_107 : decode cX11_count 107 = .ok (.ireturn, 1) := by decide +kernel
theorem dX11_count_108 : decode cX11_count 108 = .ok (.aload_n 0, 1) := by decide +kernel
theorem dX11_count_109 : decode cX11_count 109 = .ok (.getfield 49, 3) := by decide +kernel
theorem dX11_count_112 : decode cX11_count 112 = .ok (.invokevirtual 250, 3) := by decide +kernel
theorem dX11_count_115 : decode cX11_count 115 = .ok (.ireturn, 1) := by decide +kernel
theorem dX11_count_116 : decode cX11_count 116 = .ok (.aload_n 0, 1) := by decide +kernel
theorem dX11_count_117 : decode cX11_count 117 = .ok (.getfield 49, 3) := by decide +kernel
theorem dX11_count_120 : decode cX11_count 120 = .ok (.invokevirtual 420, 3) := by decide +kernel
theorem dX11_count_123 : decode cX11_count 123 = .ok (.ireturn, 1) := by decide +kernel
theorem dX11_count_124 : decode cX11_count 124 = .ok (.aload_n 0, 1) := by decide +kernel
theorem dX11_count_125 : decode cX11_count 125 = .ok (.getfield 49, 3) := by decide +kernel
theorem dX11_count_128 : decode cX11_count 128 = .ok (.invokevirtual 239, 3) := by decide +kernel
theorem dX11_count_131 : decode cX11_count 131 = .ok (.ireturn, 1) := by decide +kernel
theorem dX11_count_132 : decode cX11_count 132 = .ok (.aload_n 0, 1) := by decide +kernel
theorem dX11_count_133 : decode cX11_count 133 = .ok (.getfield 49, 3) := by decide +kernel
theorem dX11_count_136 : decode cX11_count 136 = .ok (.invokevirtual 263, 3) := by decide +kernel
theorem dX11_count_139 : decode cX11_count 139 = .ok (.ireturn, 1) := by decide +kernel
theorem dX11_count_140 : decode cX11_count 140 = .ok (.aload_n 0, 1) := by decide +kernel
theorem dX11_count_141 : decode cX11_count 141 = .ok (.getfield 49, 3) := by decide +kernel
theorem dX11_count_144 : decode cX11_count 144 = .ok (.invokevirtual 268, 3) := by decide +kernel
theorem dX11_count_147 : decode cX11_count 147 = .ok (.ireturn, 1) := by decide +kernel
theorem dX11_count_148 : decode cX11_count 148 = .ok (.aload_n 0, 1) := by decide +kernel
theorem dX11_count_149 : decode cX11_count 149 = .ok (.getfield 49, 3) := by decide +kernel
theorem dX11_count_152 : decode cX11_count 152 = .ok (.invokevirtual 195, 3) := by decide +kernel
theorem dX11_count_155 : decode cX11_count 155 = .ok (.ireturn, 1) := by decide +kernel
theorem dX11_count_156 : decode cX11_count 156 = .ok (.aload_n 0, 1) := by decide +kernel
theorem dX11_count_157 : decode cX11_count 157 = .ok (.getfield 26, 3) := by decide +kernel
theorem dX11_count_160 : decode cX11_count 160 = .ok (.invokevirtual 423, 3) := by decide +kernel
theorem dX11_count_163 : decode cX11_count 163 = .ok (.ireturn, 1) := by decide +kernel
theorem dX11_count_164 : decode cX11_count 164 = .ok (.aload_n 0, 1) := by decide +kernel
theorem dX11_count_165 : decode cX11_count 165 = .ok (.getfield 76, 3) := by decide +kernel
theorem dX11_count_168 : decode cX11_count 168 = .ok (.invokevirtual 374, 3) := by decide +kernel
theorem dX11_count_171 : decode cX11_count 171 = .ok (.ireturn, 1) := by decide +kernel
theorem dX11_count_172 : decode cX11_count 172 = .ok (.aload_n 0, 1) := by decide +kernel
theorem dX11_count_173 : decode cX11_count 173 = .ok (.getfield 62, 3) := by decide +kernel
theorem dX11_count_176 : decode cX11_count 176 = .ok (.invokevirtual 246, 3) := by decide +kernel
theorem dX11_count_179 : decode cX11_count 179 = .ok (.ireturn, 1) := by decide +kernel
theorem dX11_count_180 : decode cX11_count 180 = .ok (.aload_n 0, 1) := by decide +kernel
theorem dX11_count_181 : decode cX11_count 181 = .ok (.getfield 83, 3) := by decide +kernel
theorem dX11_count_184 : decode cX11_count 184 = .ok (.invokevirtual 424, 3) := by decide +kernel
theorem dX11_count_187 : decode cX11_count 187 = .ok (.ireturn, 1) := by decide +kernel
theorem dX11_count_188 : decode cX11_count 188 = .ok (.aload_n 0, 1) := by decide +kernel
theorem dX11_count_189 : decode cX11_count 189 = .ok (.getfield 10, 3) := by decide +kernel
theorem dX11_count_192 : decode cX11_count 192 = .ok (.invokevirtual 108, 3) := by decide +kernel
theorem dX11_count_195 : decode cX11_count 195 = .ok (.ireturn, 1) := by decide +kernel
theorem dX11_count_196 : decode cX11_count 196 = .ok (.bipush (-100), 2) := by decide +kernel
theorem dX11_count_198 : decode cX11_count 198 = .ok (.ireturn, 1) := by decide +kernel
theorem dX11_row_0 : decode cX11_row 0 = .ok (.iload_n 1, 1) := by decide +kernel
theorem dX11_row_1 : decode cX11_row 1 = .ok (.ifCond .lt 14, 3) := by decide +kernel
theorem dX11_row_4 : decode cX11_row 4 = .ok (.iload_n 1, 1) := by decide +kernel
theorem dX11_row_5 : decode cX11_row 5 = .ok (.aload_n 0, 1) := by decide +kernel
theorem dX11_row_6 : decode cX11_row 6 = .ok (.getfield 83, 3) := by decide +kernel
theorem dX11_row_9 : decode cX11_row 9 = .ok (.invokevirtual 424, 3) := by decide +kernel
theorem dX11_row_12 : decode cX11_row 12 = .ok (.if_icmp .lt 11, 3) := by decide +kernel
theorem dX11_row_15 : decode cX11_row 15 = .ok (.new 147, 3) := by decide +kernel
theorem dX11_row_18 : decode cX11_row 18 = .ok (.dup, 1) := by decide +kernel
theorem dX11_row_19 : decode cX11_row 19 = .ok (.invokespecial 149, 3) := by decide +kernel
theorem dX11_row_22 : decode cX11_row 22 = .ok (.athrow, 1) := by decide +kernel
theorem dX11_row_23 : decode cX11_row 23 = .ok (.aload_n 0, 1) := by decide +kernel
theorem dX11_row_24 : decode cX11_row 24 = .ok (.getfield 83, 3) := by decide +kernel
theorem dX11_row_27 : decode cX11_row 27 = .ok (.iload_n 1, 1) := by decide +kernel
theorem dX11_row_28 : decode cX11_row 28 = .ok (.invokevirtual 425, 3) := by decide +kernel
theorem dX11_row_31 : decode cX11_row 31 = .ok (.lreturn, 1) := by decide +kernel
theorem dX11_isDigit_0 : decode cX11_isDigit 0 = .ok (.iload_n 0, 1) := by decide +kernel
theorem dX11_isDigit_1 : decode cX11_isDigit 1 = .ok (.bipush 48, 2) := by decide +kernel
theorem dX11_isDigit_3 : decode cX11_isDigit 3 = .ok (.if_icmp .lt 13, 3) := by decide +kernel
theorem dX11_isDigit_6 : decode cX11_isDigit 6 = .ok (.iload_n 0, 1) := by decide +kernel
theorem dX11_isDigit_7 : decode cX11_isDigit 7 = .ok (.bipush 57, 2) := by decide +kernel
theorem dX11_isDigit_9 : decode cX11_isDigit 9 = .ok (.if_icmp .gt 7, 3) := by decide +kernel
theorem dX11_isDigit_12 : decode cX11_isDigit 12 = .ok (.iconst 1, 1) := by decide +kernel
theorem dX11_isDigit_13 : decode cX11_isDigit 13 = .ok (.goto 4, 3) := by decide +kernel
theorem dX11_isDigit_16 : decode cX11_isDigit 16 = .ok (.iconst 0, 1) := by decide +kernel
theorem dX11_isDigit_17 : decode cX11_isDigit 17 = .ok (.ireturn, 1) := by decide +kernel
theorem dX11_within_0 : decode cX11_within 0 = .ok (.iload_n 0, 1) := by decide +kernel
theorem dX11_within_1 : decode cX11_within 1 = .ok (.ifCond .ge 7, 3) := by decide +kernel
theorem dX11_within_4 : decode cX11_within 4 = .ok (.iconst 0, 1) := by decide +kernel
theorem dX11_within_5 : decode cX11_within 5 = .ok (.goto 13, 3) := by decide +kernel
theorem dX11_within_8 : decode cX11_within 8 = .ok (.iload_n 0, 1) := by decide +kernel
theorem dX11_within_9 : decode cX11_within 9 = .ok (.iload_n 1, 1) := by decide +kernel
theorem dX11_within_10 : decode cX11_within 10 = .ok (.if_icmp .le 7, 3) := by decide +kernel
theorem dX11_within_13 : decode cX11_within 13 = .ok (.iload_n 1, 1) := by decide +kernel
theorem dX11_within_14 : decode cX11_within 14 = .ok (.goto 4, 3) := by decide +kernel
theorem dX11_within_17 : decode cX11_within 17 = .ok (.iload_n 0, 1) := by decide +kernel
theorem dX11_within_18 : decode cX11_within 18 = .ok (.ireturn, 1) := by decide +kernel
